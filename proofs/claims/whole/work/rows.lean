section
-- ===== PART A: goes FIRST, ahead of the names: the tables' words, and 'selects' of the private methods out of them =====
/-- a private method of a class that the tables say can be made, by its rows of tables_1 -/
def lw_okq (q : MethodName × Nat) : Prop := (q.1.cls ≠ "java/lang/invoke/MethodHandle" ∧ q.1.cls ≠ "java/lang/invoke/VarHandle") ∧ Cond.instantiable q.1.cls q.2 ∈ tables_1 ∧ Cond.privateMethod q.1 ∈ tables_1 ∧ Cond.instanceMethod q.1 ∈ tables_1
theorem lw_p0 : lw_okq (⟨"ColdMotor$Motor", "reset", "()V"⟩, 2) := ⟨⟨by decide +kernel, by decide +kernel⟩, List.mem_of_getElem? (i := 46) (by decide +kernel), List.mem_of_getElem? (i := 52) (by decide +kernel), List.mem_of_getElem? (i := 53) (by decide +kernel)⟩
theorem lw_p1 : lw_okq (⟨"ColdMotor", "textOf", "(I)LColdMotor$Text;"⟩, 12) := ⟨⟨by decide +kernel, by decide +kernel⟩, List.mem_of_getElem? (i := 18) (by decide +kernel), List.mem_of_getElem? (i := 313) (by decide +kernel), List.mem_of_getElem? (i := 314) (by decide +kernel)⟩
theorem lw_p2 : lw_okq (⟨"ColdMotor", "understand", "(I)V"⟩, 12) := ⟨⟨by decide +kernel, by decide +kernel⟩, List.mem_of_getElem? (i := 18) (by decide +kernel), List.mem_of_getElem? (i := 321) (by decide +kernel), List.mem_of_getElem? (i := 322) (by decide +kernel)⟩
theorem lw_p3 : lw_okq (⟨"ColdMotor$Motor", "faultOf", "(LColdMotor$Text;)I"⟩, 2) := ⟨⟨by decide +kernel, by decide +kernel⟩, List.mem_of_getElem? (i := 46) (by decide +kernel), List.mem_of_getElem? (i := 329) (by decide +kernel), List.mem_of_getElem? (i := 330) (by decide +kernel)⟩
theorem lw_p4 : lw_okq (⟨"ColdMotor$Plan", "faultOf", "(LColdMotor$Text;)I"⟩, 3) := ⟨⟨by decide +kernel, by decide +kernel⟩, List.mem_of_getElem? (i := 68) (by decide +kernel), List.mem_of_getElem? (i := 353) (by decide +kernel), List.mem_of_getElem? (i := 354) (by decide +kernel)⟩
theorem lw_p5 : lw_okq (⟨"ColdMotor$Plan", "add", "(II)V"⟩, 3) := ⟨⟨by decide +kernel, by decide +kernel⟩, List.mem_of_getElem? (i := 68) (by decide +kernel), List.mem_of_getElem? (i := 359) (by decide +kernel), List.mem_of_getElem? (i := 360) (by decide +kernel)⟩
theorem lw_p6 : lw_okq (⟨"ColdMotor", "found", "(I)I"⟩, 12) := ⟨⟨by decide +kernel, by decide +kernel⟩, List.mem_of_getElem? (i := 18) (by decide +kernel), List.mem_of_getElem? (i := 395) (by decide +kernel), List.mem_of_getElem? (i := 396) (by decide +kernel)⟩
theorem lw_p7 : lw_okq (⟨"ColdMotor", "known", "()LColdMotor$Belief;"⟩, 12) := ⟨⟨by decide +kernel, by decide +kernel⟩, List.mem_of_getElem? (i := 18) (by decide +kernel), List.mem_of_getElem? (i := 413) (by decide +kernel), List.mem_of_getElem? (i := 414) (by decide +kernel)⟩
theorem lw_p8 : lw_okq (⟨"ColdMotor$State", "turn", "(LColdMotor$Motor;I)I"⟩, 8) := ⟨⟨by decide +kernel, by decide +kernel⟩, List.mem_of_getElem? (i := 124) (by decide +kernel), List.mem_of_getElem? (i := 437) (by decide +kernel), List.mem_of_getElem? (i := 438) (by decide +kernel)⟩
theorem lw_p9 : lw_okq (⟨"ColdMotor$State", "signOf", "(LColdMotor$Motor;I)I"⟩, 8) := ⟨⟨by decide +kernel, by decide +kernel⟩, List.mem_of_getElem? (i := 124) (by decide +kernel), List.mem_of_getElem? (i := 441) (by decide +kernel), List.mem_of_getElem? (i := 442) (by decide +kernel)⟩
theorem lw_p10 : lw_okq (⟨"ColdMotor$State", "tend", "(LColdMotor$Motor;I)I"⟩, 8) := ⟨⟨by decide +kernel, by decide +kernel⟩, List.mem_of_getElem? (i := 124) (by decide +kernel), List.mem_of_getElem? (i := 449) (by decide +kernel), List.mem_of_getElem? (i := 450) (by decide +kernel)⟩
theorem lw_p11 : lw_okq (⟨"ColdMotor$State", "dry", "()I"⟩, 8) := ⟨⟨by decide +kernel, by decide +kernel⟩, List.mem_of_getElem? (i := 124) (by decide +kernel), List.mem_of_getElem? (i := 453) (by decide +kernel), List.mem_of_getElem? (i := 454) (by decide +kernel)⟩
theorem lw_p12 : lw_okq (⟨"ColdMotor$Belief", "weightRunning", "(LColdMotor$Motor;IIII)I"⟩, 11) := ⟨⟨by decide +kernel, by decide +kernel⟩, List.mem_of_getElem? (i := 116) (by decide +kernel), List.mem_of_getElem? (i := 544) (by decide +kernel), List.mem_of_getElem? (i := 545) (by decide +kernel)⟩
theorem lw_p13 : lw_okq (⟨"ColdMotor", "tried", "()LColdMotor$Trial;"⟩, 12) := ⟨⟨by decide +kernel, by decide +kernel⟩, List.mem_of_getElem? (i := 18) (by decide +kernel), List.mem_of_getElem? (i := 554) (by decide +kernel), List.mem_of_getElem? (i := 555) (by decide +kernel)⟩
theorem lw_p14 : lw_okq (⟨"ColdMotor$Mornings", "takeIfBetter", "(III)V"⟩, 6) := ⟨⟨by decide +kernel, by decide +kernel⟩, List.mem_of_getElem? (i := 222) (by decide +kernel), List.mem_of_getElem? (i := 640) (by decide +kernel), List.mem_of_getElem? (i := 641) (by decide +kernel)⟩
theorem lw_p15 : lw_okq (⟨"ColdMotorModel", "motorNow", "()I"⟩, 25) := ⟨⟨by decide +kernel, by decide +kernel⟩, List.mem_of_getElem? (i := 727) (by decide +kernel), List.mem_of_getElem? (i := 828) (by decide +kernel), List.mem_of_getElem? (i := 829) (by decide +kernel)⟩
def lw_privs_1 : List (MethodName × Nat) := [(⟨"ColdMotor$Motor", "reset", "()V"⟩, 2), (⟨"ColdMotor", "textOf", "(I)LColdMotor$Text;"⟩, 12), (⟨"ColdMotor", "understand", "(I)V"⟩, 12), (⟨"ColdMotor$Motor", "faultOf", "(LColdMotor$Text;)I"⟩, 2), (⟨"ColdMotor$Plan", "faultOf", "(LColdMotor$Text;)I"⟩, 3), (⟨"ColdMotor$Plan", "add", "(II)V"⟩, 3), (⟨"ColdMotor", "found", "(I)I"⟩, 12), (⟨"ColdMotor", "known", "()LColdMotor$Belief;"⟩, 12), (⟨"ColdMotor$State", "turn", "(LColdMotor$Motor;I)I"⟩, 8), (⟨"ColdMotor$State", "signOf", "(LColdMotor$Motor;I)I"⟩, 8), (⟨"ColdMotor$State", "tend", "(LColdMotor$Motor;I)I"⟩, 8), (⟨"ColdMotor$State", "dry", "()I"⟩, 8), (⟨"ColdMotor$Belief", "weightRunning", "(LColdMotor$Motor;IIII)I"⟩, 11), (⟨"ColdMotor", "tried", "()LColdMotor$Trial;"⟩, 12), (⟨"ColdMotor$Mornings", "takeIfBetter", "(III)V"⟩, 6), (⟨"ColdMotorModel", "motorNow", "()I"⟩, 25)]
theorem lw_r1 : ∀ q ∈ lw_privs_1, lw_okq q := List.forall_mem_cons.mpr ⟨lw_p0, List.forall_mem_cons.mpr ⟨lw_p1, List.forall_mem_cons.mpr ⟨lw_p2, List.forall_mem_cons.mpr ⟨lw_p3, List.forall_mem_cons.mpr ⟨lw_p4, List.forall_mem_cons.mpr ⟨lw_p5, List.forall_mem_cons.mpr ⟨lw_p6, List.forall_mem_cons.mpr ⟨lw_p7, List.forall_mem_cons.mpr ⟨lw_p8, List.forall_mem_cons.mpr ⟨lw_p9, List.forall_mem_cons.mpr ⟨lw_p10, List.forall_mem_cons.mpr ⟨lw_p11, List.forall_mem_cons.mpr ⟨lw_p12, List.forall_mem_cons.mpr ⟨lw_p13, List.forall_mem_cons.mpr ⟨lw_p14, List.forall_mem_cons.mpr ⟨lw_p15, fun _ h => absurd h List.not_mem_nil⟩⟩⟩⟩⟩⟩⟩⟩⟩⟩⟩⟩⟩⟩⟩⟩
theorem lw_p16 : lw_okq (⟨"ColdMotorModel", "motorFault", "()I"⟩, 25) := ⟨⟨by decide +kernel, by decide +kernel⟩, List.mem_of_getElem? (i := 727) (by decide +kernel), List.mem_of_getElem? (i := 832) (by decide +kernel), List.mem_of_getElem? (i := 833) (by decide +kernel)⟩
theorem lw_p17 : lw_okq (⟨"ColdMotorModel", "plain", "()V"⟩, 25) := ⟨⟨by decide +kernel, by decide +kernel⟩, List.mem_of_getElem? (i := 727) (by decide +kernel), List.mem_of_getElem? (i := 836) (by decide +kernel), List.mem_of_getElem? (i := 837) (by decide +kernel)⟩
theorem lw_p18 : lw_okq (⟨"ColdMotorModel", "byteAt", "(II)I"⟩, 25) := ⟨⟨by decide +kernel, by decide +kernel⟩, List.mem_of_getElem? (i := 727) (by decide +kernel), List.mem_of_getElem? (i := 840) (by decide +kernel), List.mem_of_getElem? (i := 841) (by decide +kernel)⟩
theorem lw_p19 : lw_okq (⟨"ColdMotorModel", "habitNow", "()I"⟩, 25) := ⟨⟨by decide +kernel, by decide +kernel⟩, List.mem_of_getElem? (i := 727) (by decide +kernel), List.mem_of_getElem? (i := 853) (by decide +kernel), List.mem_of_getElem? (i := 854) (by decide +kernel)⟩
theorem lw_p20 : lw_okq (⟨"ColdMotorModel", "motorOf", "(I)I"⟩, 25) := ⟨⟨by decide +kernel, by decide +kernel⟩, List.mem_of_getElem? (i := 727) (by decide +kernel), List.mem_of_getElem? (i := 861) (by decide +kernel), List.mem_of_getElem? (i := 862) (by decide +kernel)⟩
theorem lw_p21 : lw_okq (⟨"ColdMotorModel", "more", "(II)I"⟩, 25) := ⟨⟨by decide +kernel, by decide +kernel⟩, List.mem_of_getElem? (i := 727) (by decide +kernel), List.mem_of_getElem? (i := 873) (by decide +kernel), List.mem_of_getElem? (i := 874) (by decide +kernel)⟩
theorem lw_p22 : lw_okq (⟨"ColdMotorModel", "meets", "(I)I"⟩, 25) := ⟨⟨by decide +kernel, by decide +kernel⟩, List.mem_of_getElem? (i := 727) (by decide +kernel), List.mem_of_getElem? (i := 884) (by decide +kernel), List.mem_of_getElem? (i := 885) (by decide +kernel)⟩
theorem lw_p23 : lw_okq (⟨"ColdMotorModel", "leftNow", "()I"⟩, 25) := ⟨⟨by decide +kernel, by decide +kernel⟩, List.mem_of_getElem? (i := 727) (by decide +kernel), List.mem_of_getElem? (i := 896) (by decide +kernel), List.mem_of_getElem? (i := 897) (by decide +kernel)⟩
theorem lw_p24 : lw_okq (⟨"ColdMotorModel", "lays", "()V"⟩, 25) := ⟨⟨by decide +kernel, by decide +kernel⟩, List.mem_of_getElem? (i := 727) (by decide +kernel), List.mem_of_getElem? (i := 900) (by decide +kernel), List.mem_of_getElem? (i := 901) (by decide +kernel)⟩
theorem lw_p25 : lw_okq (⟨"ColdMotorModel", "begins", "(II)V"⟩, 25) := ⟨⟨by decide +kernel, by decide +kernel⟩, List.mem_of_getElem? (i := 727) (by decide +kernel), List.mem_of_getElem? (i := 904) (by decide +kernel), List.mem_of_getElem? (i := 905) (by decide +kernel)⟩
theorem lw_p26 : lw_okq (⟨"ColdMotorModel", "does", "(III)I"⟩, 25) := ⟨⟨by decide +kernel, by decide +kernel⟩, List.mem_of_getElem? (i := 727) (by decide +kernel), List.mem_of_getElem? (i := 908) (by decide +kernel), List.mem_of_getElem? (i := 909) (by decide +kernel)⟩
theorem lw_p27 : lw_okq (⟨"ColdMotorModel", "turns", "(II)I"⟩, 25) := ⟨⟨by decide +kernel, by decide +kernel⟩, List.mem_of_getElem? (i := 727) (by decide +kernel), List.mem_of_getElem? (i := 915) (by decide +kernel), List.mem_of_getElem? (i := 916) (by decide +kernel)⟩
theorem lw_p28 : lw_okq (⟨"ColdMotorModel", "partsOf", "(I)J"⟩, 25) := ⟨⟨by decide +kernel, by decide +kernel⟩, List.mem_of_getElem? (i := 727) (by decide +kernel), List.mem_of_getElem? (i := 922) (by decide +kernel), List.mem_of_getElem? (i := 923) (by decide +kernel)⟩
theorem lw_p29 : lw_okq (⟨"ColdMotorModel", "troubleNow", "(II)J"⟩, 25) := ⟨⟨by decide +kernel, by decide +kernel⟩, List.mem_of_getElem? (i := 727) (by decide +kernel), List.mem_of_getElem? (i := 944) (by decide +kernel), List.mem_of_getElem? (i := 945) (by decide +kernel)⟩
theorem lw_p30 : lw_okq (⟨"ColdMotorModel", "stateNow", "(II)I"⟩, 25) := ⟨⟨by decide +kernel, by decide +kernel⟩, List.mem_of_getElem? (i := 727) (by decide +kernel), List.mem_of_getElem? (i := 952) (by decide +kernel), List.mem_of_getElem? (i := 953) (by decide +kernel)⟩
theorem lw_p31 : lw_okq (⟨"ColdMotorModel", "chanceNow", "(III)J"⟩, 25) := ⟨⟨by decide +kernel, by decide +kernel⟩, List.mem_of_getElem? (i := 727) (by decide +kernel), List.mem_of_getElem? (i := 964) (by decide +kernel), List.mem_of_getElem? (i := 965) (by decide +kernel)⟩
def lw_privs_2 : List (MethodName × Nat) := [(⟨"ColdMotorModel", "motorFault", "()I"⟩, 25), (⟨"ColdMotorModel", "plain", "()V"⟩, 25), (⟨"ColdMotorModel", "byteAt", "(II)I"⟩, 25), (⟨"ColdMotorModel", "habitNow", "()I"⟩, 25), (⟨"ColdMotorModel", "motorOf", "(I)I"⟩, 25), (⟨"ColdMotorModel", "more", "(II)I"⟩, 25), (⟨"ColdMotorModel", "meets", "(I)I"⟩, 25), (⟨"ColdMotorModel", "leftNow", "()I"⟩, 25), (⟨"ColdMotorModel", "lays", "()V"⟩, 25), (⟨"ColdMotorModel", "begins", "(II)V"⟩, 25), (⟨"ColdMotorModel", "does", "(III)I"⟩, 25), (⟨"ColdMotorModel", "turns", "(II)I"⟩, 25), (⟨"ColdMotorModel", "partsOf", "(I)J"⟩, 25), (⟨"ColdMotorModel", "troubleNow", "(II)J"⟩, 25), (⟨"ColdMotorModel", "stateNow", "(II)I"⟩, 25), (⟨"ColdMotorModel", "chanceNow", "(III)J"⟩, 25)]
theorem lw_r2 : ∀ q ∈ lw_privs_2, lw_okq q := List.forall_mem_cons.mpr ⟨lw_p16, List.forall_mem_cons.mpr ⟨lw_p17, List.forall_mem_cons.mpr ⟨lw_p18, List.forall_mem_cons.mpr ⟨lw_p19, List.forall_mem_cons.mpr ⟨lw_p20, List.forall_mem_cons.mpr ⟨lw_p21, List.forall_mem_cons.mpr ⟨lw_p22, List.forall_mem_cons.mpr ⟨lw_p23, List.forall_mem_cons.mpr ⟨lw_p24, List.forall_mem_cons.mpr ⟨lw_p25, List.forall_mem_cons.mpr ⟨lw_p26, List.forall_mem_cons.mpr ⟨lw_p27, List.forall_mem_cons.mpr ⟨lw_p28, List.forall_mem_cons.mpr ⟨lw_p29, List.forall_mem_cons.mpr ⟨lw_p30, List.forall_mem_cons.mpr ⟨lw_p31, fun _ h => absurd h List.not_mem_nil⟩⟩⟩⟩⟩⟩⟩⟩⟩⟩⟩⟩⟩⟩⟩⟩
theorem lw_p32 : lw_okq (⟨"ColdMotorModel", "those", "()I"⟩, 25) := ⟨⟨by decide +kernel, by decide +kernel⟩, List.mem_of_getElem? (i := 727) (by decide +kernel), List.mem_of_getElem? (i := 968) (by decide +kernel), List.mem_of_getElem? (i := 969) (by decide +kernel)⟩
theorem lw_p33 : lw_okq (⟨"ColdMotorModel", "goesOn", "(III)V"⟩, 25) := ⟨⟨by decide +kernel, by decide +kernel⟩, List.mem_of_getElem? (i := 727) (by decide +kernel), List.mem_of_getElem? (i := 972) (by decide +kernel), List.mem_of_getElem? (i := 973) (by decide +kernel)⟩
theorem lw_p34 : lw_okq (⟨"ColdMotorModel", "moves", "(III)V"⟩, 25) := ⟨⟨by decide +kernel, by decide +kernel⟩, List.mem_of_getElem? (i := 727) (by decide +kernel), List.mem_of_getElem? (i := 976) (by decide +kernel), List.mem_of_getElem? (i := 977) (by decide +kernel)⟩
theorem lw_p35 : lw_okq (⟨"ColdMotorModel", "groupBy", "(III)I"⟩, 25) := ⟨⟨by decide +kernel, by decide +kernel⟩, List.mem_of_getElem? (i := 727) (by decide +kernel), List.mem_of_getElem? (i := 980) (by decide +kernel), List.mem_of_getElem? (i := 981) (by decide +kernel)⟩
theorem lw_p36 : lw_okq (⟨"ColdMotorModel", "weightOf", "(I)J"⟩, 25) := ⟨⟨by decide +kernel, by decide +kernel⟩, List.mem_of_getElem? (i := 727) (by decide +kernel), List.mem_of_getElem? (i := 984) (by decide +kernel), List.mem_of_getElem? (i := 985) (by decide +kernel)⟩
theorem lw_p37 : lw_okq (⟨"ColdMotorModel", "partsNow", "(I)I"⟩, 25) := ⟨⟨by decide +kernel, by decide +kernel⟩, List.mem_of_getElem? (i := 727) (by decide +kernel), List.mem_of_getElem? (i := 992) (by decide +kernel), List.mem_of_getElem? (i := 993) (by decide +kernel)⟩
theorem lw_p38 : lw_okq (⟨"ColdMotorModel", "bestNow", "(II)J"⟩, 25) := ⟨⟨by decide +kernel, by decide +kernel⟩, List.mem_of_getElem? (i := 727) (by decide +kernel), List.mem_of_getElem? (i := 1004) (by decide +kernel), List.mem_of_getElem? (i := 1005) (by decide +kernel)⟩
theorem lw_p39 : lw_okq (⟨"ColdMotorModel", "inOne", "(II)J"⟩, 25) := ⟨⟨by decide +kernel, by decide +kernel⟩, List.mem_of_getElem? (i := 727) (by decide +kernel), List.mem_of_getElem? (i := 1008) (by decide +kernel), List.mem_of_getElem? (i := 1009) (by decide +kernel)⟩
theorem lw_p40 : lw_okq (⟨"ColdMotorModel", "inTwo", "(II)J"⟩, 25) := ⟨⟨by decide +kernel, by decide +kernel⟩, List.mem_of_getElem? (i := 727) (by decide +kernel), List.mem_of_getElem? (i := 1012) (by decide +kernel), List.mem_of_getElem? (i := 1013) (by decide +kernel)⟩
theorem lw_p41 : lw_okq (⟨"ColdMotorModel", "habitOf", "(II)J"⟩, 25) := ⟨⟨by decide +kernel, by decide +kernel⟩, List.mem_of_getElem? (i := 727) (by decide +kernel), List.mem_of_getElem? (i := 1020) (by decide +kernel), List.mem_of_getElem? (i := 1021) (by decide +kernel)⟩
theorem lw_p42 : lw_okq (⟨"ColdMotorModel", "runsBy", "(I)Z"⟩, 25) := ⟨⟨by decide +kernel, by decide +kernel⟩, List.mem_of_getElem? (i := 727) (by decide +kernel), List.mem_of_getElem? (i := 1024) (by decide +kernel), List.mem_of_getElem? (i := 1025) (by decide +kernel)⟩
theorem lw_p43 : lw_okq (⟨"ColdMotorModel", "hasNow", "(I)I"⟩, 25) := ⟨⟨by decide +kernel, by decide +kernel⟩, List.mem_of_getElem? (i := 727) (by decide +kernel), List.mem_of_getElem? (i := 1033) (by decide +kernel), List.mem_of_getElem? (i := 1034) (by decide +kernel)⟩
theorem lw_p44 : lw_okq (⟨"ColdMotorModel", "workNow", "(I)J"⟩, 25) := ⟨⟨by decide +kernel, by decide +kernel⟩, List.mem_of_getElem? (i := 727) (by decide +kernel), List.mem_of_getElem? (i := 1041) (by decide +kernel), List.mem_of_getElem? (i := 1042) (by decide +kernel)⟩
theorem lw_p45 : lw_okq (⟨"ColdMotorModel", "drownedNow", "(II)I"⟩, 25) := ⟨⟨by decide +kernel, by decide +kernel⟩, List.mem_of_getElem? (i := 727) (by decide +kernel), List.mem_of_getElem? (i := 1049) (by decide +kernel), List.mem_of_getElem? (i := 1050) (by decide +kernel)⟩
theorem lw_p46 : lw_okq (⟨"ColdMotorModel", "missesOf", "(III)I"⟩, 25) := ⟨⟨by decide +kernel, by decide +kernel⟩, List.mem_of_getElem? (i := 727) (by decide +kernel), List.mem_of_getElem? (i := 1071) (by decide +kernel), List.mem_of_getElem? (i := 1072) (by decide +kernel)⟩
theorem lw_p47 : lw_okq (⟨"ColdMotorModel", "fitsNow", "(I)I"⟩, 25) := ⟨⟨by decide +kernel, by decide +kernel⟩, List.mem_of_getElem? (i := 727) (by decide +kernel), List.mem_of_getElem? (i := 1082) (by decide +kernel), List.mem_of_getElem? (i := 1083) (by decide +kernel)⟩
def lw_privs_3 : List (MethodName × Nat) := [(⟨"ColdMotorModel", "those", "()I"⟩, 25), (⟨"ColdMotorModel", "goesOn", "(III)V"⟩, 25), (⟨"ColdMotorModel", "moves", "(III)V"⟩, 25), (⟨"ColdMotorModel", "groupBy", "(III)I"⟩, 25), (⟨"ColdMotorModel", "weightOf", "(I)J"⟩, 25), (⟨"ColdMotorModel", "partsNow", "(I)I"⟩, 25), (⟨"ColdMotorModel", "bestNow", "(II)J"⟩, 25), (⟨"ColdMotorModel", "inOne", "(II)J"⟩, 25), (⟨"ColdMotorModel", "inTwo", "(II)J"⟩, 25), (⟨"ColdMotorModel", "habitOf", "(II)J"⟩, 25), (⟨"ColdMotorModel", "runsBy", "(I)Z"⟩, 25), (⟨"ColdMotorModel", "hasNow", "(I)I"⟩, 25), (⟨"ColdMotorModel", "workNow", "(I)J"⟩, 25), (⟨"ColdMotorModel", "drownedNow", "(II)I"⟩, 25), (⟨"ColdMotorModel", "missesOf", "(III)I"⟩, 25), (⟨"ColdMotorModel", "fitsNow", "(I)I"⟩, 25)]
theorem lw_r3 : ∀ q ∈ lw_privs_3, lw_okq q := List.forall_mem_cons.mpr ⟨lw_p32, List.forall_mem_cons.mpr ⟨lw_p33, List.forall_mem_cons.mpr ⟨lw_p34, List.forall_mem_cons.mpr ⟨lw_p35, List.forall_mem_cons.mpr ⟨lw_p36, List.forall_mem_cons.mpr ⟨lw_p37, List.forall_mem_cons.mpr ⟨lw_p38, List.forall_mem_cons.mpr ⟨lw_p39, List.forall_mem_cons.mpr ⟨lw_p40, List.forall_mem_cons.mpr ⟨lw_p41, List.forall_mem_cons.mpr ⟨lw_p42, List.forall_mem_cons.mpr ⟨lw_p43, List.forall_mem_cons.mpr ⟨lw_p44, List.forall_mem_cons.mpr ⟨lw_p45, List.forall_mem_cons.mpr ⟨lw_p46, List.forall_mem_cons.mpr ⟨lw_p47, fun _ h => absurd h List.not_mem_nil⟩⟩⟩⟩⟩⟩⟩⟩⟩⟩⟩⟩⟩⟩⟩⟩
theorem lw_p48 : lw_okq (⟨"ColdMotorModel", "lacks", "(III)I"⟩, 25) := ⟨⟨by decide +kernel, by decide +kernel⟩, List.mem_of_getElem? (i := 727) (by decide +kernel), List.mem_of_getElem? (i := 1098) (by decide +kernel), List.mem_of_getElem? (i := 1099) (by decide +kernel)⟩
theorem lw_p49 : lw_okq (⟨"ColdMotorModel", "keep", "(III)V"⟩, 25) := ⟨⟨by decide +kernel, by decide +kernel⟩, List.mem_of_getElem? (i := 727) (by decide +kernel), List.mem_of_getElem? (i := 1102) (by decide +kernel), List.mem_of_getElem? (i := 1103) (by decide +kernel)⟩
theorem lw_p50 : lw_okq (⟨"ColdMotorModel", "sumOf", "(I)I"⟩, 25) := ⟨⟨by decide +kernel, by decide +kernel⟩, List.mem_of_getElem? (i := 727) (by decide +kernel), List.mem_of_getElem? (i := 1123) (by decide +kernel), List.mem_of_getElem? (i := 1124) (by decide +kernel)⟩
theorem lw_p51 : lw_okq (⟨"ColdMotorModel", "actsOfHabit", "()I"⟩, 25) := ⟨⟨by decide +kernel, by decide +kernel⟩, List.mem_of_getElem? (i := 727) (by decide +kernel), List.mem_of_getElem? (i := 1127) (by decide +kernel), List.mem_of_getElem? (i := 1128) (by decide +kernel)⟩
def lw_privs_4 : List (MethodName × Nat) := [(⟨"ColdMotorModel", "lacks", "(III)I"⟩, 25), (⟨"ColdMotorModel", "keep", "(III)V"⟩, 25), (⟨"ColdMotorModel", "sumOf", "(I)I"⟩, 25), (⟨"ColdMotorModel", "actsOfHabit", "()I"⟩, 25)]
theorem lw_r4 : ∀ q ∈ lw_privs_4, lw_okq q := List.forall_mem_cons.mpr ⟨lw_p48, List.forall_mem_cons.mpr ⟨lw_p49, List.forall_mem_cons.mpr ⟨lw_p50, List.forall_mem_cons.mpr ⟨lw_p51, fun _ h => absurd h List.not_mem_nil⟩⟩⟩⟩
def lw_privs : List (MethodName × Nat) := lw_privs_1 ++ (lw_privs_2 ++ (lw_privs_3 ++ (lw_privs_4)))
def lw_tbl : List Cond := k2_sels lw_privs ++ tables_1
theorem lw_privs_ok : ∀ q ∈ lw_privs, lw_okq q := by
  show ∀ q ∈ lw_privs_1 ++ (lw_privs_2 ++ (lw_privs_3 ++ (lw_privs_4))), lw_okq q
  exact List.forall_mem_append.mpr ⟨lw_r1, List.forall_mem_append.mpr ⟨lw_r2, List.forall_mem_append.mpr ⟨lw_r3, lw_r4⟩⟩⟩
end
section
/-- what the tables say of arrays of arrays (the printed names below want these two rows; mine) -/
def va_AOA (ty : FieldType) (U : State) : Prop := (Cond.arrayOver (.array ty)).before #[] U = true
theorem va_AOA.use {ty : FieldType} {A : Array Value} {U : State} (h : va_AOA ty U) : (Cond.arrayOver (.array ty)).before A U = true := h
/-! ===== BEGIN words of one list among another's, by their places ===== -/
theorem goodIn_r {big : List Cond} (ws : List Cond) (ps : List Nat) (hp : ws = ps.filterMap (fun i => big[i]?)) (h : ws.all goodWord = true) : GoodIn big ws := by
  intro w hw
  have h1 := List.all_eq_true.mp h w hw
  rw [hp] at hw
  obtain ⟨i, -, hi⟩ := List.mem_filterMap.mp hw
  have hm : w ∈ big := by first | exact List.mem_of_getElem? hi | exact List.getElem?_mem hi
  exact ⟨hm, good_of_word h1⟩
theorem goodIn_app {big a b : List Cond} (ha : GoodIn big a) (hb : GoodIn big b) : GoodIn big (a ++ b) := fun w h => (List.mem_append.mp h).elim (ha w) (hb w)
theorem goodIn_ca {big a b : List Cond} {c : Cond} (ha : GoodIn big (c :: a)) (hb : GoodIn big b) : GoodIn big (c :: (a ++ b)) := fun w h => (List.mem_cons.mp h).elim (fun e => ha w (List.mem_cons.mpr (Or.inl e))) (fun h => (List.mem_append.mp h).elim (fun h => ha w (List.mem_cons.mpr (Or.inr h))) (hb w))
theorem goodIn_sub {big ws : List Cond} (hm : ∀ w ∈ ws, w ∈ big) (h : ws.all goodWord = true) : GoodIn big ws := fun w hw => ⟨hm w hw, good_of_word (List.all_eq_true.mp h w hw)⟩
/-! ===== END ===== -/

/-! ===== BEGIN new T[n][m]: the outer array a place, the inner ones among the pooled ===== -/
/-- f, but v at every address of l -/
def vr_up {α : Type} (f : Nat → α) (l : List Nat) (v : α) : Nat → α := fun a => if a ∈ l then v else f a
theorem vr_up_in {α : Type} {f : Nat → α} {l : List Nat} {v : α} {a : Nat} (h : a ∈ l) : vr_up f l v a = v := if_pos h
theorem vr_up_ne {α : Type} {f : Nat → α} {l : List Nat} {v : α} {a : Nat} (h : a ∉ l) : vr_up f l v a = f a := if_neg h
theorem vr_rows {L l : List Nat} {f : Nat → va_E} {e : va_E} (h : ∀ a, a ∈ l → a ∉ L) : va_pl L f ++ l.map (fun a => (a, e)) = va_pl (L ++ l) (vr_up f l e) := by
  unfold va_pl
  rw [List.map_append]
  congr 1
  · apply List.map_congr_left
    intro a ha
    rw [vr_up_ne (fun q => h a q ha)]
  · apply List.map_congr_left
    intro a ha
    rw [vr_up_in ha]
theorem vr_lay {X rows : va_W} {x : Nat × va_E} {pl : va_W} {D : va_G} {cl : List vw_C} {H : Heap} (hP : va_P D cl (((X ++ pl) ++ [x]) ++ rows) H) : va_P D cl ((X ++ [x]) ++ (pl ++ rows)) H := by
  rw [List.append_assoc (X ++ pl)] at hP
  have h := va_P.swap hP
  rw [← List.append_assoc X] at h
  have h2 := va_P.swap h
  rw [List.append_assoc (X ++ [x])] at h2
  exact h2
theorem vr_layD {X rows : va_W} {x : Nat × va_E} {pl : va_W} {A : Nat → Prop} (hD : va_D A (((X ++ pl) ++ [x]) ++ rows)) : va_D A ((X ++ [x]) ++ (pl ++ rows)) := by
  rw [List.append_assoc (X ++ pl)] at hD
  have h := va_D.swap hD
  rw [← List.append_assoc X] at h
  have h2 := va_D.swap h
  rw [List.append_assoc (X ++ [x])] at h2
  exact h2
theorem vr_outer (c : ClassId) (N h0 : Nat) : ∀ i : Nat, Jvm.Free.Multi.outerC c N h0 i = arrV c N (fun j => va_rf (if j < i then some (h0 + 1 + j) else none))
  | 0 => by
    show ({ cls := c, slots := Array.replicate N .null, vm := .none } : Cell) = _
    rw [arrV_new]
    refine congrArg (arrV c N) (funext fun j => ?_)
    simp [va_rf]
  | i + 1 => by
    show (Jvm.Free.Multi.outerC c N h0 i).setSlot i (.ref (h0 + 1 + i)) = _
    rw [vr_outer c N h0 i, arrV_store]
    refine congrArg (arrV c N) (funext fun j => ?_)
    by_cases e : j = i
    · subst e
      simp [updV, va_rf]
    · by_cases h : j < i
      · simp [updV, e, h, Nat.lt_succ_of_lt h]
      · simp [updV, e, h, show ¬ j < i + 1 by omega]
section VGM
variable {p : Program} {l : Launch} {e : Env} {R : Room} {s : State} {m : MethodId} {args : Array Value} {below : List Frame} {meth : Method} {c : Code} {H : Heap} {locs : List Loc} {cells slots : Nat} {Q : State → Prop}
variable {cc : ByteArray} {pc : Nat} {ls : Array Slot} {rest : List Value} {D : va_G} {cl : List vw_C} {A : Nat → Prop} {a : Nat} {tys : List (ClassId × FieldType)} {ws : va_W} {H0 : Heap}
theorem va_mna {X : va_W} {L : List Nat} {f : Nat → va_E} {cc : ByteArray} (hexec : p.tables.exec = Jvm.exec) (hb : c.code = cc) {own : String} {index : Nat} {ty : FieldType} {cy : ClassId} (hown : s.vm.findClass own = some m.cls) (hclink : (Cond.classLink own index ("[" ++ (FieldType.array ty).toString)).before args s = true) (hover : va_AOA ty s) (harr : (Cond.arrayClass ty).before args s = true) (hcy : s.vm.findClass (FieldType.array ty).toString = some cy)
    (hK : va_K D cl tys s) (hP : va_P D cl (X ++ va_pl L f) H) (hD : va_D A (X ++ va_pl L f)) (hS : va_S A H0 H locs) (hA : ∀ q, H0.size ≤ q → A q) {n k : Int32} {N' K' : Nat} {z : vp_A} (hn : ¬ n < 0) (hk : ¬ k < 0) (hN : n.toNatClampNeg = N') (hM : k.toNatClampNeg = K')
    (hb1 : N' * 4 ≤ 536870912) (hb2 : K' * componentBytes ty ≤ 536870912) (hb3 : K' ≤ 536870912) (hdf : fits ty (defaultValue ty) = true) (hdd : (defaultValue ty).isDefault = true) (hcells : cells + (1 + N') ≤ R.cells) (hslots : slots + (N' + N' * K') ≤ R.slots) (hz : ∀ c : ClassId, Jvm.Free.Multi.innerC c K' (defaultValue ty) = vp_cell c z) (hdg : decode cc pc = .ok (.multianewarray index 2, 4))
    (kk : ∀ (q : Nat) (r : Nat → Nat) (cA : ClassId) (H1 : Heap), (∀ i j : Nat, i < N' → j < N' → r i = r j → i = j) → (∀ i : Nat, i < N' → r i ∉ L) → va_K D cl (tys ++ [(cA, .array ty)]) s →
      va_P D cl ((X ++ [(q, .inl (cA, N', .inr (.inr (.inr (.inr (fun i => if i < N' then some (r i) else none))))))]) ++ va_pl (L ++ (List.range N').map r) (vr_up f ((List.range N').map r) (.inl (cy, z)))) H1 → va_D A ((X ++ [(q, .inl (cA, N', .inr (.inr (.inr (.inr (fun i => if i < N' then some (r i) else none))))))]) ++ va_pl (L ++ (List.range N').map r) (vr_up f ((List.range N').map r) (.inl (cy, z)))) → va_S A H0 H1 locs →
      W p l e R s m args below meth c H1 locs (cells + 1 + N') (slots + N' + N' * K') Q (F0 m (pc + 4) ls (.ref q :: rest))) : W p l e R s m args below meth c H locs cells slots Q (F0 m pc ls (.int k :: .int n :: rest)) := by
  subst hN
  subst hM
  intro T hT Xs
  obtain ⟨vm₁, cA, comp, -, fA, fC, hO, -, X', step⟩ := Xs.multianewarray2F hexec hown hclink (va_AOA.use hover) harr (g := F0 m pc ls (.int k :: .int n :: rest)) rfl (by rw [hb]; exact hdg) rfl hn hk hb1 hb2 hb3 hdf hdd hcells hslots
  have ec : some cy = some comp := hcy.symm.trans fC
  cases ec
  generalize hF : Jvm.Free.Multi.fill (T.setVm vm₁) cA cy n.toNatClampNeg k.toNatClampNeg (defaultValue ty) n.toNatClampNeg = F at X' step
  have hTh : (T.setVm vm₁).heap = H := hT
  obtain ⟨f1, f2, -, -⟩ := Jvm.Free.Multi.fill_facts (T.setVm vm₁) cA cy n.toNatClampNeg k.toNatClampNeg (defaultValue ty) n.toNatClampNeg
  rw [hF, hTh] at f1 f2
  have hold : ∀ x : Nat, x < H.size → F.heap[x]? = H[x]? := fun x hx => by
    have := Jvm.Free.Multi.fill_old (T.setVm vm₁) cA cy n.toNatClampNeg k.toNatClampNeg (defaultValue ty) (a := x) (by rw [hTh]; exact hx) n.toNatClampNeg
    rw [hF, hTh] at this
    exact this
  have hrow : ∀ j : Nat, j < n.toNatClampNeg → F.heap[H.size + 1 + j]? = some (vp_cell cy z) := fun j hj => by
    have := Jvm.Free.Multi.fill_inner (T.setVm vm₁) cA cy n.toNatClampNeg k.toNatClampNeg (defaultValue ty) n.toNatClampNeg j hj
    rw [hF, hTh, hz] at this
    exact this
  have hout : Jvm.Free.Multi.outerC cA n.toNatClampNeg H.size n.toNatClampNeg = vp_cell cA (n.toNatClampNeg, .inr (.inr (.inr (.inr (fun i => if i < n.toNatClampNeg then some (H.size + 1 + i) else none))))) := by
    rw [vp_cell_q]
    exact vr_outer cA n.toNatClampNeg H.size n.toNatClampNeg
  rw [hout] at f2
  have hlt : ∀ a, a ∈ L → a < H.size := fun a ha => by
    obtain ⟨k9, hk9⟩ := va_pl_get (X := X) (f := f) ha
    exact (hP k9 _ hk9).lt
  have hnl : ∀ i : Nat, i < n.toNatClampNeg → H.size + 1 + i ∉ L := fun i _ h => by
    have := hlt _ h
    omega
  have hnm : ∀ a, a ∈ (List.range n.toNatClampNeg).map (fun i => H.size + 1 + i) → a ∉ L := fun a ha h => by
    obtain ⟨i, -, rfl⟩ := List.mem_map.mp ha
    have := hlt _ h
    omega
  have hP0 : va_P D cl (X ++ va_pl L f) F.heap := hP.kept (fun k9 x hx => hold x.1 ((hP k9 x hx).lt))
  have hP1 : va_P D cl ((X ++ va_pl L f) ++ [(H.size, .inl (cA, n.toNatClampNeg, .inr (.inr (.inr (.inr (fun i => if i < n.toNatClampNeg then some (H.size + 1 + i) else none))))))]) F.heap := hP0.app (fun k9 x hx => by
    have h0 : k9 < 1 := (List.getElem?_eq_some_iff.mp hx).1
    rw [show k9 = 0 by omega] at hx
    cases hx
    exact f2)
  have hP2 : va_P D cl (((X ++ va_pl L f) ++ [(H.size, .inl (cA, n.toNatClampNeg, .inr (.inr (.inr (.inr (fun i => if i < n.toNatClampNeg then some (H.size + 1 + i) else none))))))]) ++ ((List.range n.toNatClampNeg).map (fun i => H.size + 1 + i)).map (fun a => (a, .inl (cy, z)))) F.heap := hP1.app (fun k9 x hx => by
    obtain ⟨a, ha, rfl⟩ := List.mem_map.mp (List.mem_of_getElem? hx)
    obtain ⟨i, hi, rfl⟩ := List.mem_map.mp ha
    exact hrow i (List.mem_range.mp hi))
  have hD2 : va_D A (((X ++ va_pl L f) ++ [(H.size, .inl (cA, n.toNatClampNeg, .inr (.inr (.inr (.inr (fun i => if i < n.toNatClampNeg then some (H.size + 1 + i) else none))))))]) ++ ((List.range n.toNatClampNeg).map (fun i => H.size + 1 + i)).map (fun a => (a, .inl (cy, z)))) := by
    have hD1 := hD.push (e := .inl (cA, n.toNatClampNeg, .inr (.inr (.inr (.inr (fun i => if i < n.toNatClampNeg then some (H.size + 1 + i) else none)))))) hP rfl (hA _ hS.1)
    generalize hW1 : (X ++ va_pl L f) ++ [(H.size, .inl (cA, n.toNatClampNeg, .inr (.inr (.inr (.inr (fun i => if i < n.toNatClampNeg then some (H.size + 1 + i) else none))))))] = W1 at hD1 hP1 ⊢
    have hle : ∀ (k9 : Nat) (x : Nat × va_E), W1[k9]? = some x → x.1 ≤ H.size := fun k9 x hx => by
      rw [← hW1] at hx
      by_cases hl : k9 < (X ++ va_pl L f).length
      · rw [List.getElem?_append_left hl] at hx
        exact Nat.le_of_lt ((hP k9 x hx).lt)
      · rw [List.getElem?_append_right (by omega)] at hx
        have h0 : k9 - (X ++ va_pl L f).length < 1 := (List.getElem?_eq_some_iff.mp hx).1
        rw [show k9 - (X ++ va_pl L f).length = 0 by omega] at hx
        cases hx
        exact Nat.le_refl _
    have hr : ∀ (k9 : Nat) (x : Nat × va_E), (((List.range n.toNatClampNeg).map (fun i => H.size + 1 + i)).map (fun a => ((a, .inl (cy, z)) : Nat × va_E)))[k9]? = some x → x.1 = H.size + 1 + k9 := fun k9 x hx => by
      rw [List.getElem?_map, List.getElem?_map] at hx
      by_cases h9 : k9 < n.toNatClampNeg
      · rw [List.getElem?_range h9] at hx
        cases hx
        rfl
      · have hn0 : (List.range n.toNatClampNeg)[k9]? = none := List.getElem?_eq_none (by rw [List.length_range]; omega)
        rw [hn0] at hx
        cases hx
    refine ⟨fun i j x y hi hj hxy => ?_, fun k9 x hx => ?_⟩
    · by_cases h1 : i < W1.length <;> by_cases h2 : j < W1.length
      · rw [List.getElem?_append_left h1] at hi
        rw [List.getElem?_append_left h2] at hj
        exact hD1.1 i j x y hi hj hxy
      · rw [List.getElem?_append_left h1] at hi
        rw [List.getElem?_append_right (by omega)] at hj
        have := hle _ _ hi
        have := hr _ _ hj
        omega
      · rw [List.getElem?_append_right (by omega)] at hi
        rw [List.getElem?_append_left h2] at hj
        have := hle _ _ hj
        have := hr _ _ hi
        omega
      · rw [List.getElem?_append_right (by omega)] at hi hj
        have := hr _ _ hi
        have := hr _ _ hj
        omega
    · by_cases h1 : k9 < W1.length
      · rw [List.getElem?_append_left h1] at hx
        exact hD1.2 k9 x hx
      · rw [List.getElem?_append_right (by omega)] at hx
        have := hr _ _ hx
        exact hA _ (by have := hS.1; omega)
  have hAr : ArrOfT s cA (.array ty) := fun N9 z9 => by
    obtain ⟨-, k9, hk9, cm9, hkk9⟩ := (hO 0 0 0).1
    exact ⟨(fun q hq => by cases hq), k9, hk9, cm9, hkk9⟩
  have hK2 : va_K D cl (tys ++ [(cA, .array ty)]) s := ⟨hK.1, fun k9 x hx => by
    by_cases hl : k9 < tys.length
    · rw [List.getElem?_append_left hl] at hx
      exact hK.2 k9 x hx
    · rw [List.getElem?_append_right (by omega)] at hx
      have h0 : k9 - tys.length < 1 := (List.getElem?_eq_some_iff.mp hx).1
      rw [show k9 - tys.length = 0 by omega] at hx
      cases hx
      exact ⟨hAr, fA⟩⟩
  obtain ⟨t, a1, b1⟩ := kk H.size (fun i => H.size + 1 + i) cA F.heap (fun i j _ _ h => by have h9 : H.size + 1 + i = H.size + 1 + j := h; omega) hnl hK2 (by rw [← vr_rows hnm]; exact vr_lay hP2) (by rw [← vr_rows hnm]; exact vr_layD hD2) ⟨by rw [f1]; have := hS.1; omega, fun x h1 h2 => (hold x (Nat.lt_of_lt_of_le h1 hS.1)).trans (hS.2.1 x h1 h2), hS.2.2⟩ F rfl X'
  refine ⟨t, step t ?_, b1⟩
  have e : T.heap.size = H.size := by rw [hT]
  rw [e]
  exact a1
end VGM
/-! ===== END ===== -/

/-! ===== BEGIN printed: names, fields, word lists, decode rows ===== -/
def RX0 : String := "ColdMotor$Ahead"
def TX0 : u_T := fun k => match k with
  | _ => ("ColdMotor$Ahead", "sixteenths", "[I", true)
def tyX0 : Nat → FieldType := fun k => match k with
  | _ => .array .int
abbrev wsX00 : List Cond := u_ws RX0 TX0 1
theorem nmX0 : ∀ a, a < 1 → ∀ b, b < 1 → a ≠ b → (TX0 a).2.1 ≠ (TX0 b).2.1 := by decide +kernel
theorem tyX0_ok : ∀ k, k < 1 → parseFieldDescriptor (TX0 k).2.2.1 = some (tyX0 k) := by decide +kernel
abbrev cX0_init : ByteArray := prog_2_method_1_code
def yX0_init : MethodName := ⟨RX0, "<init>", "()V"⟩
abbrev cX0_weightOf : ByteArray := prog_2_method_2_code
def yX0_weightOf : MethodName := ⟨RX0, "weightOf", "(II)I"⟩
abbrev cX0_together : ByteArray := prog_2_method_3_code
def yX0_together : MethodName := ⟨RX0, "together", "()I"⟩
def RX1 : String := "ColdMotor$Belief"
def TX1 : u_T := fun k => match k with
  | 0 => ("ColdMotor$Belief", "states", "[J", true)
  | 1 => ("ColdMotor$Belief", "weights", "[I", true)
  | 2 => ("ColdMotor$Belief", "bySign", "[[I", true)
  | 3 => ("ColdMotor$Belief", "weightBySign", "[[I", true)
  | 4 => ("ColdMotor$Belief", "bestAct", "[I", true)
  | 5 => ("ColdMotor$Belief", "bestWeight", "[I", true)
  | 6 => ("ColdMotor$Belief", "choice", "[I", true)
  | 7 => ("ColdMotor$Belief", "state", "LColdMotor$State;", true)
  | 8 => ("ColdMotor$Belief", "known", "Z", false)
  | 9 => ("ColdMotor$Belief", "left", "I", false)
  | _ => ("ColdMotor$Belief", "total", "I", false)
def tyX1 : Nat → FieldType := fun k => match k with
  | 0 => .array .long
  | 1 => .array .int
  | 2 => .array (.array .int)
  | 3 => .array (.array .int)
  | 4 => .array .int
  | 5 => .array .int
  | 6 => .array .int
  | 7 => .object "ColdMotor$State"
  | 8 => .boolean
  | 9 => .int
  | _ => .int
abbrev wsX10 : List Cond := u_ws RX1 TX1 11
theorem nmX1 : ∀ a, a < 11 → ∀ b, b < 11 → a ≠ b → (TX1 a).2.1 ≠ (TX1 b).2.1 := by decide +kernel
theorem tyX1_ok : ∀ k, k < 11 → parseFieldDescriptor (TX1 k).2.2.1 = some (tyX1 k) := by decide +kernel
abbrev cX1_init : ByteArray := prog_3_method_1_code
def yX1_init : MethodName := ⟨RX1, "<init>", "()V"⟩
abbrev cX1_learn : ByteArray := prog_3_method_2_code
def yX1_learn : MethodName := ⟨RX1, "learn", "(LColdMotor$Motor;LColdMotor$Log;LColdMotor$Ahead;)V"⟩
abbrev cX1_weightWith : ByteArray := prog_3_method_3_code
def yX1_weightWith : MethodName := ⟨RX1, "weightWith", "(I)I"⟩
abbrev cX1_heaviestOf : ByteArray := prog_3_method_4_code
def yX1_heaviestOf : MethodName := ⟨RX1, "heaviestOf", "(I)I"⟩
abbrev cX1_part : ByteArray := prog_3_method_5_code
def yX1_part : MethodName := ⟨RX1, "part", "(LColdMotor$Motor;III)V"⟩
abbrev cX1_weightRunning : ByteArray := prog_3_method_6_code
def yX1_weightRunning : MethodName := ⟨RX1, "weightRunning", "(LColdMotor$Motor;IIII)I"⟩
def RX2 : String := "ColdMotor$Log"
def TX2 : u_T := fun k => match k with
  | 0 => ("ColdMotor$Log", "acts", "[I", true)
  | 1 => ("ColdMotor$Log", "signs", "[I", true)
  | _ => ("ColdMotor$Log", "size", "I", false)
def tyX2 : Nat → FieldType := fun k => match k with
  | 0 => .array .int
  | 1 => .array .int
  | _ => .int
abbrev wsX20 : List Cond := u_ws RX2 TX2 3
theorem nmX2 : ∀ a, a < 3 → ∀ b, b < 3 → a ≠ b → (TX2 a).2.1 ≠ (TX2 b).2.1 := by decide +kernel
theorem tyX2_ok : ∀ k, k < 3 → parseFieldDescriptor (TX2 k).2.2.1 = some (tyX2 k) := by decide +kernel
abbrev cX2_init : ByteArray := prog_4_method_1_code
def yX2_init : MethodName := ⟨RX2, "<init>", "()V"⟩
abbrev cX2_takes : ByteArray := prog_4_method_2_code
def yX2_takes : MethodName := ⟨RX2, "takes", "(II)Z"⟩
abbrev cX2_actAt : ByteArray := prog_4_method_3_code
def yX2_actAt : MethodName := ⟨RX2, "actAt", "(I)I"⟩
abbrev cX2_signAt : ByteArray := prog_4_method_4_code
def yX2_signAt : MethodName := ⟨RX2, "signAt", "(I)I"⟩
def RX3 : String := "ColdMotor$Mornings"
def TX3 : u_T := fun k => match k with
  | 0 => ("ColdMotor$Mornings", "ages", "[I", true)
  | 1 => ("ColdMotor$Mornings", "colds", "[I", true)
  | 2 => ("ColdMotor$Mornings", "turns", "[I", true)
  | 3 => ("ColdMotor$Mornings", "law", "[I", true)
  | 4 => ("ColdMotor$Mornings", "lawKnown", "Z", false)
  | _ => ("ColdMotor$Mornings", "size", "I", false)
def tyX3 : Nat → FieldType := fun k => match k with
  | 0 => .array .int
  | 1 => .array .int
  | 2 => .array .int
  | 3 => .array .int
  | 4 => .boolean
  | _ => .int
abbrev wsX30 : List Cond := u_ws RX3 TX3 6
theorem nmX3 : ∀ a, a < 6 → ∀ b, b < 6 → a ≠ b → (TX3 a).2.1 ≠ (TX3 b).2.1 := by decide +kernel
theorem tyX3_ok : ∀ k, k < 6 → parseFieldDescriptor (TX3 k).2.2.1 = some (tyX3 k) := by decide +kernel
abbrev cX3_init : ByteArray := prog_5_method_1_code
def yX3_init : MethodName := ⟨RX3, "<init>", "()V"⟩
abbrev cX3_takes : ByteArray := prog_5_method_2_code
def yX3_takes : MethodName := ⟨RX3, "takes", "(III)Z"⟩
abbrev cX3_lawSays : ByteArray := prog_5_method_3_code
def yX3_lawSays : MethodName := ⟨RX3, "lawSays", "(IIIII)I"⟩
abbrev cX3_offBy : ByteArray := prog_5_method_4_code
def yX3_offBy : MethodName := ⟨RX3, "offBy", "(III)I"⟩
abbrev cX3_turnsTogether : ByteArray := prog_5_method_5_code
def yX3_turnsTogether : MethodName := ⟨RX3, "turnsTogether", "()I"⟩
abbrev cX3_findLaw : ByteArray := prog_5_method_6_code
def yX3_findLaw : MethodName := ⟨RX3, "findLaw", "()V"⟩
abbrev cX3_takeIfBetter : ByteArray := prog_5_method_7_code
def yX3_takeIfBetter : MethodName := ⟨RX3, "takeIfBetter", "(III)V"⟩
def RX4 : String := "ColdMotor$Motor"
def TX4 : u_T := fun k => match k with
  | 0 => ("ColdMotor$Motor", "values", "[I", true)
  | _ => ("ColdMotor$Motor", "fault", "I", false)
def tyX4 : Nat → FieldType := fun k => match k with
  | 0 => .array .int
  | _ => .int
abbrev wsX40 : List Cond := u_ws RX4 TX4 2
theorem nmX4 : ∀ a, a < 2 → ∀ b, b < 2 → a ≠ b → (TX4 a).2.1 ≠ (TX4 b).2.1 := by decide +kernel
theorem tyX4_ok : ∀ k, k < 2 → parseFieldDescriptor (TX4 k).2.2.1 = some (tyX4 k) := by decide +kernel
abbrev cX4_init : ByteArray := prog_6_method_1_code
def yX4_init : MethodName := ⟨RX4, "<init>", "()V"⟩
abbrev cX4_learn : ByteArray := prog_6_method_2_code
def yX4_learn : MethodName := ⟨RX4, "learn", "(LColdMotor$Text;)V"⟩
abbrev cX4_reset : ByteArray := prog_6_method_3_code
def yX4_reset : MethodName := ⟨RX4, "reset", "()V"⟩
abbrev cX4_faultOf : ByteArray := prog_6_method_4_code
def yX4_faultOf : MethodName := ⟨RX4, "faultOf", "(LColdMotor$Text;)I"⟩
abbrev cX4_qualityOf : ByteArray := prog_6_method_5_code
def yX4_qualityOf : MethodName := ⟨RX4, "qualityOf", "(I)I"⟩
def RX5 : String := "ColdMotor$Plan"
def TX5 : u_T := fun k => match k with
  | 0 => ("ColdMotor$Plan", "acts", "[I", true)
  | 1 => ("ColdMotor$Plan", "size", "I", false)
  | _ => ("ColdMotor$Plan", "fault", "I", false)
def tyX5 : Nat → FieldType := fun k => match k with
  | 0 => .array .int
  | 1 => .int
  | _ => .int
abbrev wsX50 : List Cond := u_ws RX5 TX5 3
theorem nmX5 : ∀ a, a < 3 → ∀ b, b < 3 → a ≠ b → (TX5 a).2.1 ≠ (TX5 b).2.1 := by decide +kernel
theorem tyX5_ok : ∀ k, k < 3 → parseFieldDescriptor (TX5 k).2.2.1 = some (tyX5 k) := by decide +kernel
abbrev cX5_init : ByteArray := prog_7_method_1_code
def yX5_init : MethodName := ⟨RX5, "<init>", "()V"⟩
abbrev cX5_learn : ByteArray := prog_7_method_2_code
def yX5_learn : MethodName := ⟨RX5, "learn", "(LColdMotor$Text;)V"⟩
abbrev cX5_actAt : ByteArray := prog_7_method_3_code
def yX5_actAt : MethodName := ⟨RX5, "actAt", "(I)I"⟩
abbrev cX5_faultOf : ByteArray := prog_7_method_4_code
def yX5_faultOf : MethodName := ⟨RX5, "faultOf", "(LColdMotor$Text;)I"⟩
abbrev cX5_add : ByteArray := prog_7_method_5_code
def yX5_add : MethodName := ⟨RX5, "add", "(II)V"⟩
def RX6 : String := "ColdMotor$Sheet"
def TX6 : u_T := fun k => match k with
  | 0 => ("ColdMotor$Sheet", "items", "[I", true)
  | 1 => ("ColdMotor$Sheet", "form", "I", false)
  | _ => ("ColdMotor$Sheet", "size", "I", false)
def tyX6 : Nat → FieldType := fun k => match k with
  | 0 => .array .int
  | 1 => .int
  | _ => .int
abbrev wsX60 : List Cond := u_ws RX6 TX6 3
theorem nmX6 : ∀ a, a < 3 → ∀ b, b < 3 → a ≠ b → (TX6 a).2.1 ≠ (TX6 b).2.1 := by decide +kernel
theorem tyX6_ok : ∀ k, k < 3 → parseFieldDescriptor (TX6 k).2.2.1 = some (tyX6 k) := by decide +kernel
abbrev cX6_init : ByteArray := prog_8_method_1_code
def yX6_init : MethodName := ⟨RX6, "<init>", "()V"⟩
abbrev cX6_isLost : ByteArray := prog_8_method_2_code
def yX6_isLost : MethodName := ⟨RX6, "isLost", "()Z"⟩
abbrev cX6_lay : ByteArray := prog_8_method_3_code
def yX6_lay : MethodName := ⟨RX6, "lay", "(II)V"⟩
abbrev cX6_wrongWith : ByteArray := prog_8_method_4_code
def yX6_wrongWith : MethodName := ⟨RX6, "wrongWith", "(II)I"⟩
abbrev cX6_holds : ByteArray := prog_8_method_5_code
def yX6_holds : MethodName := ⟨RX6, "holds", "(II)Z"⟩
abbrev cX6_itemAt : ByteArray := prog_8_method_6_code
def yX6_itemAt : MethodName := ⟨RX6, "itemAt", "(I)I"⟩
abbrev cX6_keep : ByteArray := prog_8_method_7_code
def yX6_keep : MethodName := ⟨RX6, "keep", "(II)V"⟩
def RX7 : String := "ColdMotor$State"
def TX7 : u_T := fun k => match k with
  | 0 => ("ColdMotor$State", "battery", "I", false)
  | 1 => ("ColdMotor$State", "light", "I", false)
  | 2 => ("ColdMotor$State", "wall", "I", false)
  | 3 => ("ColdMotor$State", "wet", "I", false)
  | 4 => ("ColdMotor$State", "warmth", "I", false)
  | 5 => ("ColdMotor$State", "spoon", "I", false)
  | 6 => ("ColdMotor$State", "troubles", "I", false)
  | _ => ("ColdMotor$State", "running", "Z", false)
def tyX7 : Nat → FieldType := fun k => match k with
  | 0 => .int
  | 1 => .int
  | 2 => .int
  | 3 => .int
  | 4 => .int
  | 5 => .int
  | 6 => .int
  | _ => .boolean
abbrev wsX70 : List Cond := u_ws RX7 TX7 8
theorem nmX7 : ∀ a, a < 8 → ∀ b, b < 8 → a ≠ b → (TX7 a).2.1 ≠ (TX7 b).2.1 := by decide +kernel
theorem tyX7_ok : ∀ k, k < 8 → parseFieldDescriptor (TX7 k).2.2.1 = some (tyX7 k) := by decide +kernel
abbrev cX7_init : ByteArray := prog_9_method_1_code
def yX7_init : MethodName := ⟨RX7, "<init>", "()V"⟩
abbrev cX7_begin : ByteArray := prog_9_method_2_code
def yX7_begin : MethodName := ⟨RX7, "begin", "(LColdMotor$Motor;I)V"⟩
abbrev cX7_pack : ByteArray := prog_9_method_3_code
def yX7_pack : MethodName := ⟨RX7, "pack", "()J"⟩
abbrev cX7_unpack : ByteArray := prog_9_method_4_code
def yX7_unpack : MethodName := ⟨RX7, "unpack", "(J)V"⟩
abbrev cX7_partOf : ByteArray := prog_9_method_5_code
def yX7_partOf : MethodName := ⟨RX7, "partOf", "(JI)I"⟩
abbrev cX7_does : ByteArray := prog_9_method_6_code
def yX7_does : MethodName := ⟨RX7, "does", "(LColdMotor$Motor;I)I"⟩
abbrev cX7_turn : ByteArray := prog_9_method_7_code
def yX7_turn : MethodName := ⟨RX7, "turn", "(LColdMotor$Motor;I)I"⟩
abbrev cX7_signOf : ByteArray := prog_9_method_8_code
def yX7_signOf : MethodName := ⟨RX7, "signOf", "(LColdMotor$Motor;I)I"⟩
abbrev cX7_tend : ByteArray := prog_9_method_9_code
def yX7_tend : MethodName := ⟨RX7, "tend", "(LColdMotor$Motor;I)I"⟩
abbrev cX7_dry : ByteArray := prog_9_method_10_code
def yX7_dry : MethodName := ⟨RX7, "dry", "()I"⟩
abbrev cX7_turnsToDrown : ByteArray := prog_9_method_11_code
def yX7_turnsToDrown : MethodName := ⟨RX7, "turnsToDrown", "(LColdMotor$Motor;II)I"⟩
def RX8 : String := "ColdMotor$Text"
def TX8 : u_T := fun k => match k with
  | 0 => ("ColdMotor$Text", "bytes", "[I", true)
  | _ => ("ColdMotor$Text", "size", "I", false)
def tyX8 : Nat → FieldType := fun k => match k with
  | 0 => .array .int
  | _ => .int
abbrev wsX80 : List Cond := u_ws RX8 TX8 2
theorem nmX8 : ∀ a, a < 2 → ∀ b, b < 2 → a ≠ b → (TX8 a).2.1 ≠ (TX8 b).2.1 := by decide +kernel
theorem tyX8_ok : ∀ k, k < 2 → parseFieldDescriptor (TX8 k).2.2.1 = some (tyX8 k) := by decide +kernel
abbrev cX8_init : ByteArray := prog_10_method_1_code
def yX8_init : MethodName := ⟨RX8, "<init>", "(I)V"⟩
abbrev cX8_takes : ByteArray := prog_10_method_2_code
def yX8_takes : MethodName := ⟨RX8, "takes", "(I)Z"⟩
abbrev cX8_byteAt : ByteArray := prog_10_method_3_code
def yX8_byteAt : MethodName := ⟨RX8, "byteAt", "(I)I"⟩
abbrev cX8_figureAt : ByteArray := prog_10_method_4_code
def yX8_figureAt : MethodName := ⟨RX8, "figureAt", "(I)I"⟩
def RX9 : String := "ColdMotor$Trial"
def TX9 : u_T := fun k => match k with
  | 0 => ("ColdMotor$Trial", "done", "[I", true)
  | 1 => ("ColdMotor$Trial", "known", "Z", false)
  | _ => ("ColdMotor$Trial", "having", "I", false)
def tyX9 : Nat → FieldType := fun k => match k with
  | 0 => .array .int
  | 1 => .boolean
  | _ => .int
abbrev wsX90 : List Cond := u_ws RX9 TX9 3
theorem nmX9 : ∀ a, a < 3 → ∀ b, b < 3 → a ≠ b → (TX9 a).2.1 ≠ (TX9 b).2.1 := by decide +kernel
theorem tyX9_ok : ∀ k, k < 3 → parseFieldDescriptor (TX9 k).2.2.1 = some (tyX9 k) := by decide +kernel
abbrev cX9_init : ByteArray := prog_11_method_1_code
def yX9_init : MethodName := ⟨RX9, "<init>", "()V"⟩
abbrev cX9_learn : ByteArray := prog_11_method_2_code
def yX9_learn : MethodName := ⟨RX9, "learn", "(LColdMotor$Motor;LColdMotor$Plan;LColdMotor$State;)V"⟩
abbrev cX9_weightHaving : ByteArray := prog_11_method_3_code
def yX9_weightHaving : MethodName := ⟨RX9, "weightHaving", "(LColdMotor$Ahead;I)J"⟩
abbrev cX9_actsDone : ByteArray := prog_11_method_4_code
def yX9_actsDone : MethodName := ⟨RX9, "actsDone", "(LColdMotor$Ahead;)J"⟩
def RX10 : String := "ColdMotor"
def TX10 : u_T := fun k => match k with
  | 0 => ("ColdMotor", "motorText", "LColdMotor$Text;", true)
  | 1 => ("ColdMotor", "habitText", "LColdMotor$Text;", true)
  | 2 => ("ColdMotor", "machine", "LColdMotor$Motor;", true)
  | 3 => ("ColdMotor", "plan", "LColdMotor$Plan;", true)
  | 4 => ("ColdMotor", "before", "LColdMotor$Ahead;", true)
  | 5 => ("ColdMotor", "seen", "LColdMotor$Log;", true)
  | 6 => ("ColdMotor", "belief", "LColdMotor$Belief;", true)
  | 7 => ("ColdMotor", "trial", "LColdMotor$Trial;", true)
  | 8 => ("ColdMotor", "scratch", "LColdMotor$State;", true)
  | 9 => ("ColdMotor", "mornings", "LColdMotor$Mornings;", true)
  | 10 => ("ColdMotor", "sheets", "[LColdMotor$Sheet;", true)
  | _ => ("ColdMotor", "finding", "I", false)
def tyX10 : Nat → FieldType := fun k => match k with
  | 0 => .object "ColdMotor$Text"
  | 1 => .object "ColdMotor$Text"
  | 2 => .object "ColdMotor$Motor"
  | 3 => .object "ColdMotor$Plan"
  | 4 => .object "ColdMotor$Ahead"
  | 5 => .object "ColdMotor$Log"
  | 6 => .object "ColdMotor$Belief"
  | 7 => .object "ColdMotor$Trial"
  | 8 => .object "ColdMotor$State"
  | 9 => .object "ColdMotor$Mornings"
  | 10 => .array (.object "ColdMotor$Sheet")
  | _ => .int
abbrev wsX100 : List Cond := u_ws RX10 TX10 12
theorem nmX10 : ∀ a, a < 12 → ∀ b, b < 12 → a ≠ b → (TX10 a).2.1 ≠ (TX10 b).2.1 := by decide +kernel
theorem tyX10_ok : ∀ k, k < 12 → parseFieldDescriptor (TX10 k).2.2.1 = some (tyX10 k) := by decide +kernel
abbrev cX10_init : ByteArray := prog_1_method_1_code
def yX10_init : MethodName := ⟨RX10, "<init>", "()V"⟩
abbrev cX10_type : ByteArray := prog_1_method_2_code
def yX10_type : MethodName := ⟨RX10, "type", "(II)I"⟩
abbrev cX10_wipe : ByteArray := prog_1_method_3_code
def yX10_wipe : MethodName := ⟨RX10, "wipe", "(I)I"⟩
abbrev cX10_fault : ByteArray := prog_1_method_4_code
def yX10_fault : MethodName := ⟨RX10, "fault", "(I)I"⟩
abbrev cX10_motor : ByteArray := prog_1_method_5_code
def yX10_motor : MethodName := ⟨RX10, "motor", "(I)I"⟩
abbrev cX10_ahead : ByteArray := prog_1_method_6_code
def yX10_ahead : MethodName := ⟨RX10, "ahead", "(II)I"⟩
abbrev cX10_see : ByteArray := prog_1_method_7_code
def yX10_see : MethodName := ⟨RX10, "see", "(II)I"⟩
abbrev cX10_read : ByteArray := prog_1_method_8_code
def yX10_read : MethodName := ⟨RX10, "read", "(I)I"⟩
abbrev cX10_back : ByteArray := prog_1_method_9_code
def yX10_back : MethodName := ⟨RX10, "back", "()I"⟩
abbrev cX10_left : ByteArray := prog_1_method_10_code
def yX10_left : MethodName := ⟨RX10, "left", "()I"⟩
abbrev cX10_odds : ByteArray := prog_1_method_11_code
def yX10_odds : MethodName := ⟨RX10, "odds", "(II)J"⟩
abbrev cX10_trouble : ByteArray := prog_1_method_12_code
def yX10_trouble : MethodName := ⟨RX10, "trouble", "(II)J"⟩
abbrev cX10_state : ByteArray := prog_1_method_13_code
def yX10_state : MethodName := ⟨RX10, "state", "(II)I"⟩
abbrev cX10_sign : ByteArray := prog_1_method_14_code
def yX10_sign : MethodName := ⟨RX10, "sign", "(II)I"⟩
abbrev cX10_chance : ByteArray := prog_1_method_15_code
def yX10_chance : MethodName := ⟨RX10, "chance", "(III)J"⟩
abbrev cX10_parts : ByteArray := prog_1_method_16_code
def yX10_parts : MethodName := ⟨RX10, "parts", "(I)I"⟩
abbrev cX10_sure : ByteArray := prog_1_method_17_code
def yX10_sure : MethodName := ⟨RX10, "sure", "(II)J"⟩
abbrev cX10_best : ByteArray := prog_1_method_18_code
def yX10_best : MethodName := ⟨RX10, "best", "(II)J"⟩
abbrev cX10_habit : ByteArray := prog_1_method_19_code
def yX10_habit : MethodName := ⟨RX10, "habit", "(II)J"⟩
abbrev cX10_has : ByteArray := prog_1_method_20_code
def yX10_has : MethodName := ⟨RX10, "has", "(I)I"⟩
abbrev cX10_work : ByteArray := prog_1_method_21_code
def yX10_work : MethodName := ⟨RX10, "work", "(I)J"⟩
abbrev cX10_drowned : ByteArray := prog_1_method_22_code
def yX10_drowned : MethodName := ⟨RX10, "drowned", "(II)I"⟩
abbrev cX10_morning : ByteArray := prog_1_method_23_code
def yX10_morning : MethodName := ⟨RX10, "morning", "(III)I"⟩
abbrev cX10_says : ByteArray := prog_1_method_24_code
def yX10_says : MethodName := ⟨RX10, "says", "(IIIII)I"⟩
abbrev cX10_misses : ByteArray := prog_1_method_25_code
def yX10_misses : MethodName := ⟨RX10, "misses", "(III)I"⟩
abbrev cX10_fits : ByteArray := prog_1_method_26_code
def yX10_fits : MethodName := ⟨RX10, "fits", "(I)I"⟩
abbrev cX10_sheet : ByteArray := prog_1_method_27_code
def yX10_sheet : MethodName := ⟨RX10, "sheet", "(III)I"⟩
abbrev cX10_lose : ByteArray := prog_1_method_28_code
def yX10_lose : MethodName := ⟨RX10, "lose", "(I)I"⟩
abbrev cX10_put : ByteArray := prog_1_method_29_code
def yX10_put : MethodName := ⟨RX10, "put", "(IIII)I"⟩
abbrev cX10_get : ByteArray := prog_1_method_30_code
def yX10_get : MethodName := ⟨RX10, "get", "(III)I"⟩
abbrev cX10_copy : ByteArray := prog_1_method_31_code
def yX10_copy : MethodName := ⟨RX10, "copy", "(IIIII)I"⟩
abbrev cX10_write : ByteArray := prog_1_method_32_code
def yX10_write : MethodName := ⟨RX10, "write", "(II)I"⟩
abbrev cX10_count : ByteArray := prog_1_method_33_code
def yX10_count : MethodName := ⟨RX10, "count", "(I)I"⟩
abbrev cX10_digest : ByteArray := prog_1_method_34_code
def yX10_digest : MethodName := ⟨RX10, "digest", "()J"⟩
abbrev cX10_textOf : ByteArray := prog_1_method_35_code
def yX10_textOf : MethodName := ⟨RX10, "textOf", "(I)LColdMotor$Text;"⟩
abbrev cX10_understand : ByteArray := prog_1_method_36_code
def yX10_understand : MethodName := ⟨RX10, "understand", "(I)V"⟩
abbrev cX10_known : ByteArray := prog_1_method_37_code
def yX10_known : MethodName := ⟨RX10, "known", "()LColdMotor$Belief;"⟩
abbrev cX10_tried : ByteArray := prog_1_method_38_code
def yX10_tried : MethodName := ⟨RX10, "tried", "()LColdMotor$Trial;"⟩
abbrev cX10_found : ByteArray := prog_1_method_39_code
def yX10_found : MethodName := ⟨RX10, "found", "(I)I"⟩
abbrev cX10_isBelow : ByteArray := prog_1_method_40_code
def yX10_isBelow : MethodName := ⟨RX10, "isBelow", "(II)Z"⟩
abbrev cX10_isDay : ByteArray := prog_1_method_41_code
def yX10_isDay : MethodName := ⟨RX10, "isDay", "(II)Z"⟩
abbrev cX10_isLaw : ByteArray := prog_1_method_42_code
def yX10_isLaw : MethodName := ⟨RX10, "isLaw", "(III)Z"⟩
abbrev cX10_refusal : ByteArray := prog_1_method_43_code
def yX10_refusal : MethodName := ⟨RX10, "refusal", "(I)J"⟩
abbrev cX10_told : ByteArray := prog_1_method_44_code
def yX10_told : MethodName := ⟨RX10, "told", "(JJI)J"⟩
abbrev cX10_commonDivisor : ByteArray := prog_1_method_45_code
def yX10_commonDivisor : MethodName := ⟨RX10, "commonDivisor", "(JJ)J"⟩
def RX11 : String := "ColdMotorModel"
def TX11 : u_T := fun k => match k with
  | 0 => ("ColdMotorModel", "texts", "[I", true)
  | 1 => ("ColdMotorModel", "typed", "[I", true)
  | 2 => ("ColdMotorModel", "motor", "[I", true)
  | 3 => ("ColdMotorModel", "habitActs", "[I", true)
  | 4 => ("ColdMotorModel", "habitMany", "I", false)
  | 5 => ("ColdMotorModel", "at", "I", false)
  | 6 => ("ColdMotorModel", "states", "[I", true)
  | 7 => ("ColdMotorModel", "ahead", "[I", true)
  | 8 => ("ColdMotorModel", "seen", "I", false)
  | 9 => ("ColdMotorModel", "seenActs", "[I", true)
  | 10 => ("ColdMotorModel", "seenSigns", "[I", true)
  | 11 => ("ColdMotorModel", "weights", "[J", true)
  | 12 => ("ColdMotorModel", "all", "J", false)
  | 13 => ("ColdMotorModel", "signs", "[I", true)
  | 14 => ("ColdMotorModel", "done", "I", false)
  | 15 => ("ColdMotorModel", "mornings", "I", false)
  | 16 => ("ColdMotorModel", "ages", "[I", true)
  | 17 => ("ColdMotorModel", "colds", "[I", true)
  | 18 => ("ColdMotorModel", "turned", "[I", true)
  | 19 => ("ColdMotorModel", "isThere", "[Z", true)
  | 20 => ("ColdMotorModel", "forms", "[I", true)
  | 21 => ("ColdMotorModel", "sizes", "[I", true)
  | 22 => ("ColdMotorModel", "items", "[I", true)
  | 23 => ("ColdMotorModel", "moved", "[I", true)
  | _ => ("ColdMotorModel", "finding", "I", false)
def tyX11 : Nat → FieldType := fun k => match k with
  | 0 => .array .int
  | 1 => .array .int
  | 2 => .array .int
  | 3 => .array .int
  | 4 => .int
  | 5 => .int
  | 6 => .array .int
  | 7 => .array .int
  | 8 => .int
  | 9 => .array .int
  | 10 => .array .int
  | 11 => .array .long
  | 12 => .long
  | 13 => .array .int
  | 14 => .int
  | 15 => .int
  | 16 => .array .int
  | 17 => .array .int
  | 18 => .array .int
  | 19 => .array .boolean
  | 20 => .array .int
  | 21 => .array .int
  | 22 => .array .int
  | 23 => .array .int
  | _ => .int
abbrev wsX110 : List Cond := u_ws RX11 TX11 25
theorem nmX11 : ∀ a, a < 25 → ∀ b, b < 25 → a ≠ b → (TX11 a).2.1 ≠ (TX11 b).2.1 := by decide +kernel
theorem tyX11_ok : ∀ k, k < 25 → parseFieldDescriptor (TX11 k).2.2.1 = some (tyX11 k) := by decide +kernel
abbrev cX11_init : ByteArray := prog_13_method_1_code
def yX11_init : MethodName := ⟨RX11, "<init>", "()V"⟩
abbrev cX11_in : ByteArray := prog_13_method_3_code
def yX11_in : MethodName := ⟨RX11, "in", "(III)Z"⟩
abbrev cX11_isIn : ByteArray := prog_13_method_4_code
def yX11_isIn : MethodName := ⟨RX11, "isIn", "(II)Z"⟩
abbrev cX11_amount : ByteArray := prog_13_method_5_code
def yX11_amount : MethodName := ⟨RX11, "amount", "(I)I"⟩
abbrev cX11_no : ByteArray := prog_13_method_6_code
def yX11_no : MethodName := ⟨RX11, "no", "(I)J"⟩
abbrev cX11_lowest : ByteArray := prog_13_method_7_code
def yX11_lowest : MethodName := ⟨RX11, "lowest", "(JJI)J"⟩
abbrev cX11_isText : ByteArray := prog_13_method_8_code
def yX11_isText : MethodName := ⟨RX11, "isText", "(I)Z"⟩
abbrev cX11_type : ByteArray := prog_13_method_9_code
def yX11_type : MethodName := ⟨RX11, "type", "(II)I"⟩
abbrev cX11_wipe : ByteArray := prog_13_method_10_code
def yX11_wipe : MethodName := ⟨RX11, "wipe", "(I)I"⟩
abbrev cX11_byteAt : ByteArray := prog_13_method_11_code
def yX11_byteAt : MethodName := ⟨RX11, "byteAt", "(II)I"⟩
abbrev cX11_isFigure : ByteArray := prog_13_method_12_code
def yX11_isFigure : MethodName := ⟨RX11, "isFigure", "(I)Z"⟩
abbrev cX11_plain : ByteArray := prog_13_method_13_code
def yX11_plain : MethodName := ⟨RX11, "plain", "()V"⟩
abbrev cX11_letterOf : ByteArray := prog_13_method_14_code
def yX11_letterOf : MethodName := ⟨RX11, "letterOf", "(I)I"⟩
abbrev cX11_mostOf : ByteArray := prog_13_method_15_code
def yX11_mostOf : MethodName := ⟨RX11, "mostOf", "(I)I"⟩
abbrev cX11_motorFault : ByteArray := prog_13_method_16_code
def yX11_motorFault : MethodName := ⟨RX11, "motorFault", "()I"⟩
abbrev cX11_motorNow : ByteArray := prog_13_method_17_code
def yX11_motorNow : MethodName := ⟨RX11, "motorNow", "()I"⟩
abbrev cX11_habitNow : ByteArray := prog_13_method_18_code
def yX11_habitNow : MethodName := ⟨RX11, "habitNow", "()I"⟩
abbrev cX11_fault : ByteArray := prog_13_method_19_code
def yX11_fault : MethodName := ⟨RX11, "fault", "(I)I"⟩
abbrev cX11_motorOf : ByteArray := prog_13_method_20_code
def yX11_motorOf : MethodName := ⟨RX11, "motorOf", "(I)I"⟩
abbrev cX11_motor : ByteArray := prog_13_method_21_code
def yX11_motor : MethodName := ⟨RX11, "motor", "(I)I"⟩
abbrev cX11_begins : ByteArray := prog_13_method_22_code
def yX11_begins : MethodName := ⟨RX11, "begins", "(II)V"⟩
abbrev cX11_moves : ByteArray := prog_13_method_23_code
def yX11_moves : MethodName := ⟨RX11, "moves", "(III)V"⟩
abbrev cX11_lightFor : ByteArray := prog_13_method_24_code
def yX11_lightFor : MethodName := ⟨RX11, "lightFor", "(I)I"⟩
abbrev cX11_does : ByteArray := prog_13_method_25_code
def yX11_does : MethodName := ⟨RX11, "does", "(III)I"⟩
abbrev cX11_turns : ByteArray := prog_13_method_26_code
def yX11_turns : MethodName := ⟨RX11, "turns", "(II)I"⟩
abbrev cX11_ahead : ByteArray := prog_13_method_27_code
def yX11_ahead : MethodName := ⟨RX11, "ahead", "(II)I"⟩
abbrev cX11_more : ByteArray := prog_13_method_28_code
def yX11_more : MethodName := ⟨RX11, "more", "(II)I"⟩
abbrev cX11_see : ByteArray := prog_13_method_29_code
def yX11_see : MethodName := ⟨RX11, "see", "(II)I"⟩
abbrev cX11_read : ByteArray := prog_13_method_30_code
def yX11_read : MethodName := ⟨RX11, "read", "(I)I"⟩
abbrev cX11_back : ByteArray := prog_13_method_31_code
def yX11_back : MethodName := ⟨RX11, "back", "()I"⟩
abbrev cX11_partsOf : ByteArray := prog_13_method_32_code
def yX11_partsOf : MethodName := ⟨RX11, "partsOf", "(I)J"⟩
abbrev cX11_lays : ByteArray := prog_13_method_33_code
def yX11_lays : MethodName := ⟨RX11, "lays", "()V"⟩
abbrev cX11_leftNow : ByteArray := prog_13_method_34_code
def yX11_leftNow : MethodName := ⟨RX11, "leftNow", "()I"⟩
abbrev cX11_left : ByteArray := prog_13_method_35_code
def yX11_left : MethodName := ⟨RX11, "left", "()I"⟩
abbrev cX11_isSet : ByteArray := prog_13_method_36_code
def yX11_isSet : MethodName := ⟨RX11, "isSet", "(I)Z"⟩
abbrev cX11_odds : ByteArray := prog_13_method_37_code
def yX11_odds : MethodName := ⟨RX11, "odds", "(II)J"⟩
abbrev cX11_troubleNow : ByteArray := prog_13_method_38_code
def yX11_troubleNow : MethodName := ⟨RX11, "troubleNow", "(II)J"⟩
abbrev cX11_trouble : ByteArray := prog_13_method_39_code
def yX11_trouble : MethodName := ⟨RX11, "trouble", "(II)J"⟩
abbrev cX11_stateNow : ByteArray := prog_13_method_40_code
def yX11_stateNow : MethodName := ⟨RX11, "stateNow", "(II)I"⟩
abbrev cX11_state : ByteArray := prog_13_method_41_code
def yX11_state : MethodName := ⟨RX11, "state", "(II)I"⟩
abbrev cX11_sign : ByteArray := prog_13_method_42_code
def yX11_sign : MethodName := ⟨RX11, "sign", "(II)I"⟩
abbrev cX11_goesOn : ByteArray := prog_13_method_43_code
def yX11_goesOn : MethodName := ⟨RX11, "goesOn", "(III)V"⟩
abbrev cX11_groupBy : ByteArray := prog_13_method_44_code
def yX11_groupBy : MethodName := ⟨RX11, "groupBy", "(III)I"⟩
abbrev cX11_weightOf : ByteArray := prog_13_method_45_code
def yX11_weightOf : MethodName := ⟨RX11, "weightOf", "(I)J"⟩
abbrev cX11_those : ByteArray := prog_13_method_46_code
def yX11_those : MethodName := ⟨RX11, "those", "()I"⟩
abbrev cX11_chanceNow : ByteArray := prog_13_method_47_code
def yX11_chanceNow : MethodName := ⟨RX11, "chanceNow", "(III)J"⟩
abbrev cX11_chance : ByteArray := prog_13_method_48_code
def yX11_chance : MethodName := ⟨RX11, "chance", "(III)J"⟩
abbrev cX11_partsNow : ByteArray := prog_13_method_49_code
def yX11_partsNow : MethodName := ⟨RX11, "partsNow", "(I)I"⟩
abbrev cX11_parts : ByteArray := prog_13_method_50_code
def yX11_parts : MethodName := ⟨RX11, "parts", "(I)I"⟩
abbrev cX11_sure : ByteArray := prog_13_method_51_code
def yX11_sure : MethodName := ⟨RX11, "sure", "(II)J"⟩
abbrev cX11_inOne : ByteArray := prog_13_method_52_code
def yX11_inOne : MethodName := ⟨RX11, "inOne", "(II)J"⟩
abbrev cX11_inTwo : ByteArray := prog_13_method_53_code
def yX11_inTwo : MethodName := ⟨RX11, "inTwo", "(II)J"⟩
abbrev cX11_bestNow : ByteArray := prog_13_method_54_code
def yX11_bestNow : MethodName := ⟨RX11, "bestNow", "(II)J"⟩
abbrev cX11_best : ByteArray := prog_13_method_55_code
def yX11_best : MethodName := ⟨RX11, "best", "(II)J"⟩
abbrev cX11_runsBy : ByteArray := prog_13_method_56_code
def yX11_runsBy : MethodName := ⟨RX11, "runsBy", "(I)Z"⟩
abbrev cX11_habitOf : ByteArray := prog_13_method_57_code
def yX11_habitOf : MethodName := ⟨RX11, "habitOf", "(II)J"⟩
abbrev cX11_habit : ByteArray := prog_13_method_58_code
def yX11_habit : MethodName := ⟨RX11, "habit", "(II)J"⟩
abbrev cX11_hasNow : ByteArray := prog_13_method_59_code
def yX11_hasNow : MethodName := ⟨RX11, "hasNow", "(I)I"⟩
abbrev cX11_has : ByteArray := prog_13_method_60_code
def yX11_has : MethodName := ⟨RX11, "has", "(I)I"⟩
abbrev cX11_workNow : ByteArray := prog_13_method_61_code
def yX11_workNow : MethodName := ⟨RX11, "workNow", "(I)J"⟩
abbrev cX11_work : ByteArray := prog_13_method_62_code
def yX11_work : MethodName := ⟨RX11, "work", "(I)J"⟩
abbrev cX11_drownedNow : ByteArray := prog_13_method_63_code
def yX11_drownedNow : MethodName := ⟨RX11, "drownedNow", "(II)I"⟩
abbrev cX11_drowned : ByteArray := prog_13_method_64_code
def yX11_drowned : MethodName := ⟨RX11, "drowned", "(II)I"⟩
abbrev cX11_morning : ByteArray := prog_13_method_65_code
def yX11_morning : MethodName := ⟨RX11, "morning", "(III)I"⟩
abbrev cX11_isLaw : ByteArray := prog_13_method_66_code
def yX11_isLaw : MethodName := ⟨RX11, "isLaw", "(III)Z"⟩
abbrev cX11_saysOf : ByteArray := prog_13_method_67_code
def yX11_saysOf : MethodName := ⟨RX11, "saysOf", "(IIIII)I"⟩
abbrev cX11_says : ByteArray := prog_13_method_68_code
def yX11_says : MethodName := ⟨RX11, "says", "(IIIII)I"⟩
abbrev cX11_missesOf : ByteArray := prog_13_method_69_code
def yX11_missesOf : MethodName := ⟨RX11, "missesOf", "(III)I"⟩
abbrev cX11_misses : ByteArray := prog_13_method_70_code
def yX11_misses : MethodName := ⟨RX11, "misses", "(III)I"⟩
abbrev cX11_fitsNow : ByteArray := prog_13_method_71_code
def yX11_fitsNow : MethodName := ⟨RX11, "fitsNow", "(I)I"⟩
abbrev cX11_fits : ByteArray := prog_13_method_72_code
def yX11_fits : MethodName := ⟨RX11, "fits", "(I)I"⟩
abbrev cX11_meets : ByteArray := prog_13_method_73_code
def yX11_meets : MethodName := ⟨RX11, "meets", "(I)I"⟩
abbrev cX11_isSheet : ByteArray := prog_13_method_74_code
def yX11_isSheet : MethodName := ⟨RX11, "isSheet", "(I)Z"⟩
abbrev cX11_sheet : ByteArray := prog_13_method_75_code
def yX11_sheet : MethodName := ⟨RX11, "sheet", "(III)I"⟩
abbrev cX11_lose : ByteArray := prog_13_method_76_code
def yX11_lose : MethodName := ⟨RX11, "lose", "(I)I"⟩
abbrev cX11_lacks : ByteArray := prog_13_method_77_code
def yX11_lacks : MethodName := ⟨RX11, "lacks", "(III)I"⟩
abbrev cX11_keep : ByteArray := prog_13_method_78_code
def yX11_keep : MethodName := ⟨RX11, "keep", "(III)V"⟩
abbrev cX11_put : ByteArray := prog_13_method_79_code
def yX11_put : MethodName := ⟨RX11, "put", "(IIII)I"⟩
abbrev cX11_get : ByteArray := prog_13_method_80_code
def yX11_get : MethodName := ⟨RX11, "get", "(III)I"⟩
abbrev cX11_copy : ByteArray := prog_13_method_81_code
def yX11_copy : MethodName := ⟨RX11, "copy", "(IIIII)I"⟩
abbrev cX11_write : ByteArray := prog_13_method_82_code
def yX11_write : MethodName := ⟨RX11, "write", "(II)I"⟩
abbrev cX11_sumOf : ByteArray := prog_13_method_83_code
def yX11_sumOf : MethodName := ⟨RX11, "sumOf", "(I)I"⟩
abbrev cX11_actsOfHabit : ByteArray := prog_13_method_84_code
def yX11_actsOfHabit : MethodName := ⟨RX11, "actsOfHabit", "()I"⟩
abbrev cX11_count : ByteArray := prog_13_method_85_code
def yX11_count : MethodName := ⟨RX11, "count", "(I)I"⟩
abbrev cX11_digest : ByteArray := prog_13_method_86_code
def yX11_digest : MethodName := ⟨RX11, "digest", "()J"⟩
def RJ6 : String := "java/lang/Integer"
def TJ6 : u_T := fun k => match k with
  | _ => ("", "", "", false)
def tyJ6 : Nat → FieldType := fun k => match k with
  | _ => .int
abbrev wsJ60 : List Cond := u_ws RJ6 TJ6 0
theorem nmJ6 : ∀ a, a < 0 → ∀ b, b < 0 → a ≠ b → (TJ6 a).2.1 ≠ (TJ6 b).2.1 := by decide +kernel
theorem tyJ6_ok : ∀ k, k < 0 → parseFieldDescriptor (TJ6 k).2.2.1 = some (tyJ6 k) := by decide +kernel
abbrev cJ6_bitCount_0f7a4 : ByteArray := prog_14_method_49_code
def yJ6_bitCount_0f7a4 : MethodName := ⟨RJ6, "bitCount", "(I)I"⟩
def RJ9 : String := "java/lang/Math"
def TJ9 : u_T := fun k => match k with
  | _ => ("", "", "", false)
def tyJ9 : Nat → FieldType := fun k => match k with
  | _ => .int
abbrev wsJ90 : List Cond := u_ws RJ9 TJ9 0
theorem nmJ9 : ∀ a, a < 0 → ∀ b, b < 0 → a ≠ b → (TJ9 a).2.1 ≠ (TJ9 b).2.1 := by decide +kernel
theorem tyJ9_ok : ∀ k, k < 0 → parseFieldDescriptor (TJ9 k).2.2.1 = some (tyJ9 k) := by decide +kernel
abbrev cJ9_abs_0f7a4 : ByteArray := prog_15_method_59_code
def yJ9_abs_0f7a4 : MethodName := ⟨RJ9, "abs", "(I)I"⟩
abbrev cJ9_max_7cf53 : ByteArray := prog_15_method_65_code
def yJ9_max_7cf53 : MethodName := ⟨RJ9, "max", "(II)I"⟩
abbrev cJ9_min_7cf53 : ByteArray := prog_15_method_69_code
def yJ9_min_7cf53 : MethodName := ⟨RJ9, "min", "(II)I"⟩
def RJ10 : String := "java/lang/System"
def TJ10 : u_T := fun k => match k with
  | _ => ("", "", "", false)
def tyJ10 : Nat → FieldType := fun k => match k with
  | _ => .int
abbrev wsJ100 : List Cond := u_ws RJ10 TJ10 0
theorem nmJ10 : ∀ a, a < 0 → ∀ b, b < 0 → a ≠ b → (TJ10 a).2.1 ≠ (TJ10 b).2.1 := by decide +kernel
theorem tyJ10_ok : ∀ k, k < 0 → parseFieldDescriptor (TJ10 k).2.2.1 = some (tyJ10 k) := by decide +kernel
def RJ7 : String := "java/util/Arrays"
def TJ7 : u_T := fun k => match k with
  | _ => ("", "", "", false)
def tyJ7 : Nat → FieldType := fun k => match k with
  | _ => .int
abbrev wsJ70 : List Cond := u_ws RJ7 TJ7 0
theorem nmJ7 : ∀ a, a < 0 → ∀ b, b < 0 → a ≠ b → (TJ7 a).2.1 ≠ (TJ7 b).2.1 := by decide +kernel
theorem tyJ7_ok : ∀ k, k < 0 → parseFieldDescriptor (TJ7 k).2.2.1 = some (tyJ7 k) := by decide +kernel
abbrev cJ7_fill_53178 : ByteArray := prog_17_method_103_code
def yJ7_fill_53178 : MethodName := ⟨RJ7, "fill", "([II)V"⟩
def RL : String := "ColdMotorLaw"
abbrev cL_law : ByteArray := code
def yL_law : MethodName := ⟨RL, "law", "([I)Z"⟩
end
section
/-! the memory of both objects: ints and longs by cell and place; writes -/
abbrev gg_M : Type := (Nat → Nat → Int32) × (Nat → Nat → Int64)
def gg_wA (u : gg_M) (t : Nat) (f : Nat → Int32) : gg_M := (fun a => if a = t then f else u.1 a, u.2)
def gg_wB (u : gg_M) (t : Nat) (f : Nat → Int64) : gg_M := (u.1, fun a => if a = t then f else u.2 a)
def gg_wI (u : gg_M) (t j : Nat) (x : Int32) : gg_M := gg_wA u t (upd (u.1 t) j x)
def gg_wL (u : gg_M) (t j : Nat) (x : Int64) : gg_M := gg_wB u t (vp_updL (u.2 t) j x)
def gg_kd (t : Nat) : Nat := [10, 11, 8, 8, 20, 20, 4, 20, 5, 20, 0, 20, 2, 20, 20, 1, 21, 20, 24, 20, 20, 20, 24, 20, 20, 20, 20, 20, 20, 7, 7, 9, 20, 3, 20, 20, 20, 20, 23, 6, 6, 6, 6, 20, 20, 20, 20, 20, 20, 20, 20, 20, 20, 20, 20, 21, 20, 20, 20, 20, 22, 20, 20, 20, 20].getD t 99
def gg_al (t : Nat) : Nat := [0, 0, 0, 0, 60, 40, 0, 7, 0, 90, 0, 5, 0, 24, 24, 0, 128, 32, 3, 7, 7, 7, 3, 7, 7, 7, 4, 4, 3, 0, 0, 0, 32, 0, 16, 16, 16, 4, 4, 0, 0, 0, 0, 48, 48, 48, 48, 120, 2, 7, 200, 1024, 5, 24, 24, 32, 128, 16, 16, 16, 4, 4, 4, 192, 48].getD t 0
def gg_rf (t j : Nat) : Nat := ([[2, 3, 6, 8, 10, 12, 15, 31, 30, 33, 38, 0], [47, 48, 49, 50, 0, 0, 51, 52, 0, 53, 54, 55, 0, 56, 0, 0, 57, 58, 59, 60, 61, 62, 63, 64, 0], [4, 0], [5, 0], [], [], [7, 0], [], [9, 0, 0], [], [11], [], [13, 14, 0], [], [], [16, 17, 18, 22, 26, 27, 28, 29, 0, 0, 0], [], [], [19, 20, 21], [], [], [], [23, 24, 25], [], [], [], [], [], [], [0, 0, 0, 0, 0, 0, 0, 0], [0, 0, 0, 0, 0, 0, 0, 0], [32, 0, 0], [], [34, 35, 36, 37, 0, 0], [], [], [], [], [39, 40, 41, 42], [43, 0, 0], [44, 0, 0], [45, 0, 0], [46, 0, 0], [], [], [], [], [], [], [], [], [], [], [], [], [], [], [], [], [], [], [], [], [], []].getD t []).getD j 0
def gg_nf (c : Nat) : Nat := [1, 11, 3, 6, 2, 3, 3, 8, 2, 3, 12, 25].getD c 0
def gg_fk (c j : Nat) : Nat := ([[2], [2, 2, 2, 2, 2, 2, 2, 2, 0, 0, 0], [2, 2, 0], [2, 2, 2, 2, 0, 0], [2, 0], [2, 0, 0], [2, 0, 0], [0, 0, 0, 0, 0, 0, 0, 0], [2, 0], [2, 0, 0], [2, 2, 2, 2, 2, 2, 2, 2, 2, 2, 2, 0], [2, 2, 2, 2, 0, 0, 2, 2, 0, 2, 2, 2, 1, 2, 0, 0, 2, 2, 2, 2, 2, 2, 2, 2, 0]].getD c []).getD j 0
abbrev gg_cls : List vw_C := [(RX0, TX0, 1), (RX1, TX1, 11), (RX2, TX2, 3), (RX3, TX3, 6), (RX4, TX4, 2), (RX5, TX5, 3), (RX6, TX6, 3), (RX7, TX7, 8), (RX8, TX8, 2), (RX9, TX9, 3), (RX10, TX10, 12), (RX11, TX11, 25)]
def gg_ft (c j : Nat) : FieldType := match c with
  | 0 => tyX0 j
  | 1 => tyX1 j
  | 2 => tyX2 j
  | 3 => tyX3 j
  | 4 => tyX4 j
  | 5 => tyX5 j
  | 6 => tyX6 j
  | 7 => tyX7 j
  | 8 => tyX8 j
  | 9 => tyX9 j
  | 10 => tyX10 j
  | _ => tyX11 j
def gg_sn (k : Nat) : String × String × String := [("ColdMotor", "DIGEST_SETS", "[I"), ("ColdMotor$Motor", "LETTERS", "[C"), ("ColdMotor$Motor", "AT_FIRST", "[I"), ("ColdMotor$Motor", "MOST", "[I"), ("ColdMotor$State", "MINUTES", "[I")].getD k ("", "", "")
def gg_st (k : Nat) : FieldType := [.int, .char, .int, .int, .int].getD k .int
def gg_sl (k : Nat) : Nat := [3, 7, 7, 7, 10].getD k 0
def gg_sv (k j : Nat) : Int32 := ([[0, 3, 31], [112, 115, 116, 100, 99, 98, 109], [7, 6, 10, 4, 4, 12, 60], [9, 9, 20, 9, 9, 30, 99], [1, 1, 1, 1, 10, 8, 6, 2, 12, 15]].getD k []).getD j 0
def gg_ty (k : Nat) : FieldType := if k = 20 then .int else if k = 21 then .long else if k = 22 then .boolean else if k = 23 then .object RX6 else .array .int
def gg_cv (ad : Nat → Nat) (v : Value) : Value := match v with
  | .ref k => .ref (ad k)
  | w => w
def gg_fv (u : gg_M) (t j : Nat) : Value := match gg_fk (gg_kd t) j with
  | 0 => .int (u.1 t j)
  | 1 => .long (u.2 t j)
  | _ => .ref (gg_rf t j)
def gg_fs (ad : Nat → Nat) (u : gg_M) (t : Nat) : List Value := (List.range (gg_nf (gg_kd t))).map (fun j => gg_cv ad (gg_fv u t j))
def gg_ce (ad : Nat → Nat) (ca : Nat → ClassId) (u : gg_M) (t : Nat) : va_E :=
  if gg_kd t < 12 then .inr (gg_kd t, gg_fs ad u t)
  else if gg_kd t = 21 then .inl (ca t, gg_al t, .inr (.inl (u.2 t)))
  else if gg_kd t = 20 ∨ gg_kd t = 22 then .inl (ca t, gg_al t, .inl (u.1 t))
  else .inl (ca t, gg_al t, .inr (.inr (.inr (.inr (fun j => some (ad (gg_rf t j)))))))
def gg_ws (ad : Nat → Nat) (ca : Nat → ClassId) (u : gg_M) : va_W := (List.range 65).map (fun t => (ad t, gg_ce ad ca u t))
theorem gg_ws_at {ad : Nat → Nat} {ca : Nat → ClassId} {u : gg_M} {t : Nat} (ht : t < 65) : (gg_ws ad ca u)[t]? = some (ad t, gg_ce ad ca u t) := by
  simp [gg_ws, List.getElem?_map, List.getElem?_range ht]
theorem gg_ws_len {ad : Nat → Nat} {ca : Nat → ClassId} {u : gg_M} : (gg_ws ad ca u).length = 65 := by simp [gg_ws]
theorem gg_ws_of {ad : Nat → Nat} {ca : Nat → ClassId} {u : gg_M} {k : Nat} {q : Nat × va_E} (h : (gg_ws ad ca u)[k]? = some q) : k < 65 ∧ q = (ad k, gg_ce ad ca u k) := by
  have hk : k < 65 := by
    have := (List.getElem?_eq_some_iff.mp h).1
    rwa [gg_ws_len] at this
  exact ⟨hk, (Option.some.inj ((gg_ws_at hk).symm.trans h)).symm⟩
theorem gg_ws_set {ad : Nat → Nat} {ca : Nat → ClassId} {u u' : gg_M} {t : Nat} {e : va_E} (ht : t < 65) (h0 : gg_ce ad ca u' t = e) (h1 : ∀ a, a ≠ t → gg_ce ad ca u' a = gg_ce ad ca u a) : (gg_ws ad ca u).set t (ad t, e) = gg_ws ad ca u' := by
  apply List.ext_getElem?
  intro k
  by_cases hk : k = t
  · subst hk
    rw [List.getElem?_set_self (by rw [gg_ws_len]; exact ht), gg_ws_at ht, h0]
  · rw [List.getElem?_set_ne (Ne.symm hk)]
    by_cases h65 : k < 65
    · rw [gg_ws_at h65, gg_ws_at h65, h1 k hk]
    · rw [List.getElem?_eq_none (by rw [gg_ws_len]; omega), List.getElem?_eq_none (by rw [gg_ws_len]; omega)]
theorem gg_ce_o {ad : Nat → Nat} {ca : Nat → ClassId} {u : gg_M} {t c : Nat} (hk : gg_kd t = c) (hc : c < 12) : gg_ce ad ca u t = .inr (c, gg_fs ad u t) := by
  subst hk
  exact if_pos hc
theorem gg_ce_i {ad : Nat → Nat} {ca : Nat → ClassId} {u : gg_M} {t : Nat} (hk : gg_kd t = 20 ∨ gg_kd t = 22) : gg_ce ad ca u t = .inl (ca t, gg_al t, .inl (u.1 t)) := by
  unfold gg_ce
  rw [if_neg (by omega), if_neg (by omega), if_pos hk]
theorem gg_ce_l {ad : Nat → Nat} {ca : Nat → ClassId} {u : gg_M} {t : Nat} (hk : gg_kd t = 21) : gg_ce ad ca u t = .inl (ca t, gg_al t, .inr (.inl (u.2 t))) := by
  unfold gg_ce
  rw [if_neg (by omega), if_pos hk]
theorem gg_ce_r {ad : Nat → Nat} {ca : Nat → ClassId} {u : gg_M} {t : Nat} (hk : gg_kd t = 23 ∨ gg_kd t = 24) : gg_ce ad ca u t = .inl (ca t, gg_al t, .inr (.inr (.inr (.inr (fun j => some (ad (gg_rf t j))))))) := by
  unfold gg_ce
  rw [if_neg (by omega), if_neg (by omega), if_neg (by omega)]
theorem gg_fv_c {u u' : gg_M} {t : Nat} (h1 : u'.1 t = u.1 t) (h2 : u'.2 t = u.2 t) (j : Nat) : gg_fv u' t j = gg_fv u t j := by
  unfold gg_fv
  rw [h1, h2]
theorem gg_ce_c {ad : Nat → Nat} {ca : Nat → ClassId} {u u' : gg_M} {t : Nat} (h1 : u'.1 t = u.1 t) (h2 : u'.2 t = u.2 t) : gg_ce ad ca u' t = gg_ce ad ca u t := by
  unfold gg_ce gg_fs
  simp only [gg_fv_c h1 h2, h1, h2]
theorem gg_wA_1 (u : gg_M) (t : Nat) (f : Nat → Int32) : (gg_wA u t f).1 t = f := if_pos rfl
theorem gg_wA_n (u : gg_M) {t a : Nat} (f : Nat → Int32) (h : a ≠ t) : (gg_wA u t f).1 a = u.1 a := if_neg h
theorem gg_wB_1 (u : gg_M) (t : Nat) (f : Nat → Int64) : (gg_wB u t f).2 t = f := if_pos rfl
theorem gg_wB_n (u : gg_M) {t a : Nat} (f : Nat → Int64) (h : a ≠ t) : (gg_wB u t f).2 a = u.2 a := if_neg h
theorem gg_ce_wA {ad : Nat → Nat} {ca : Nat → ClassId} {u : gg_M} {t : Nat} {f : Nat → Int32} (a : Nat) (h : a ≠ t) : gg_ce ad ca (gg_wA u t f) a = gg_ce ad ca u a := gg_ce_c (gg_wA_n u f h) rfl
theorem gg_ce_wB {ad : Nat → Nat} {ca : Nat → ClassId} {u : gg_M} {t : Nat} {f : Nat → Int64} (a : Nat) (h : a ≠ t) : gg_ce ad ca (gg_wB u t f) a = gg_ce ad ca u a := gg_ce_c rfl (gg_wB_n u f h)
theorem gg_fs_at {ad : Nat → Nat} {u : gg_M} {t j : Nat} (hj : j < gg_nf (gg_kd t)) : (gg_fs ad u t)[j]? = some (gg_cv ad (gg_fv u t j)) := by
  simp [gg_fs, List.getElem?_map, List.getElem?_range hj]
theorem gg_fs_len {ad : Nat → Nat} {u : gg_M} {t : Nat} : (gg_fs ad u t).length = gg_nf (gg_kd t) := by simp [gg_fs]
theorem gg_fs_set {ad : Nat → Nat} {u u' : gg_M} {t j : Nat} {v : Value} (hj : j < gg_nf (gg_kd t)) (h0 : gg_cv ad (gg_fv u' t j) = v) (h1 : ∀ a, a ≠ j → gg_fv u' t a = gg_fv u t a) : (gg_fs ad u t).set j v = gg_fs ad u' t := by
  apply List.ext_getElem?
  intro k
  by_cases hk : k = j
  · subst hk
    rw [List.getElem?_set_self (by rw [gg_fs_len]; exact hj), gg_fs_at hj, h0]
  · rw [List.getElem?_set_ne (Ne.symm hk)]
    by_cases h65 : k < gg_nf (gg_kd t)
    · rw [gg_fs_at h65, gg_fs_at h65, h1 k hk]
    · rw [List.getElem?_eq_none (by rw [gg_fs_len]; omega), List.getElem?_eq_none (by rw [gg_fs_len]; omega)]
theorem gg_fv_wI {u : gg_M} {t j : Nat} {x : Int32} (hf : gg_fk (gg_kd t) j = 0) : gg_fv (gg_wI u t j x) t j = .int x := by
  unfold gg_fv
  rw [hf]
  show Value.int ((gg_wA u t _).1 t j) = _
  rw [gg_wA_1]
  exact congrArg Value.int (if_pos rfl)
theorem gg_fv_wIn {u : gg_M} {t j a : Nat} {x : Int32} (h : a ≠ j) : gg_fv (gg_wI u t j x) t a = gg_fv u t a := by
  unfold gg_fv
  have e : (gg_wI u t j x).1 t a = u.1 t a := by
    show (gg_wA u t _).1 t a = _
    rw [gg_wA_1]
    exact if_neg h
  rw [e]
  rfl
theorem gg_fv_wL {u : gg_M} {t j : Nat} {x : Int64} (hf : gg_fk (gg_kd t) j = 1) : gg_fv (gg_wL u t j x) t j = .long x := by
  unfold gg_fv
  rw [hf]
  show Value.long ((gg_wB u t _).2 t j) = _
  rw [gg_wB_1]
  exact congrArg Value.long (if_pos rfl)
theorem gg_fv_wLn {u : gg_M} {t j a : Nat} {x : Int64} (h : a ≠ j) : gg_fv (gg_wL u t j x) t a = gg_fv u t a := by
  unfold gg_fv
  have e : (gg_wL u t j x).2 t a = u.2 t a := by
    show (gg_wB u t _).2 t a = _
    rw [gg_wB_1]
    exact if_neg h
  rw [e]
  rfl
/-! locals: places, some of them known -/
def gg_kl (o : Option Value) : Option Value := match o with
  | some (.long _) => none
  | some (.double _) => none
  | w => w
def gg_s1 : List (Option Value) → Nat → Value → List (Option Value)
  | [], _, _ => []
  | _ :: r, 0, v => some v :: r
  | o :: r, 1, v => gg_kl o :: gg_s1 r 0 v
  | o :: r, n + 2, v => o :: gg_s1 r (n + 1) v
def gg_s2 : List (Option Value) → Nat → Value → List (Option Value)
  | [], _, _ => []
  | [_], 0, v => [some v]
  | _ :: _ :: r, 0, v => some v :: none :: r
  | o :: r, 1, v => gg_kl o :: gg_s2 r 0 v
  | o :: r, n + 2, v => o :: gg_s2 r (n + 1) v
def gg_lp (ad : Nat → Nat) : Nat → List (Option Value) → List (Nat × Value)
  | _, [] => []
  | i, none :: r => gg_lp ad (i + 1) r
  | i, some v :: r => (i, gg_cv ad v) :: gg_lp ad (i + 1) r
theorem gg_lp_mem (ad : Nat → Nat) : ∀ (L : List (Option Value)) (i k : Nat) (w : Value), (k, w) ∈ gg_lp ad i L ↔ ∃ j v, k = i + j ∧ L[j]? = some (some v) ∧ w = gg_cv ad v
  | [], i, k, w => by simp [gg_lp]
  | none :: r, i, k, w => by
    rw [gg_lp, gg_lp_mem ad r (i + 1) k w]
    constructor
    · rintro ⟨j, v, h1, h2, h3⟩
      exact ⟨j + 1, v, by omega, by simpa using h2, h3⟩
    · rintro ⟨j, v, h1, h2, h3⟩
      match j, h2 with
      | 0, h2 => simp at h2
      | j + 1, h2 => exact ⟨j, v, by omega, by simpa using h2, h3⟩
  | some x :: r, i, k, w => by
    rw [gg_lp, List.mem_cons, gg_lp_mem ad r (i + 1) k w]
    constructor
    · rintro (h | ⟨j, v, h1, h2, h3⟩)
      · cases h
        exact ⟨0, x, rfl, rfl, rfl⟩
      · exact ⟨j + 1, v, by omega, by simpa using h2, h3⟩
    · rintro ⟨j, v, h1, h2, h3⟩
      match j, h2 with
      | 0, h2 =>
        cases h2
        subst h1 h3
        exact Or.inl rfl
      | j + 1, h2 => exact Or.inr ⟨j, v, by omega, by simpa using h2, h3⟩
def gg_lv (ad : Nat → Nat) (ls : Array Slot) (nL : Nat) (L : List (Option Value)) : Prop := L.length = nL ∧ lv_has ls nL (gg_lp ad 0 L)
theorem gg_lv_at {ad : Nat → Nat} {ls : Array Slot} {nL i : Nat} {L : List (Option Value)} {v : Value} (h : gg_lv ad ls nL L) (hi : L[i]? = some (some v)) : ls[i]? = some (.val (gg_cv ad v)) :=
  h.2.2.2 (i, gg_cv ad v) ((gg_lp_mem ad L 0 i _).mpr ⟨i, v, (Nat.zero_add i).symm, hi, rfl⟩)
theorem gg_kl_some {o : Option Value} {v : Value} (h : gg_kl o = some v) : o = some v ∧ v.category = 1 := by
  cases o with
  | none => cases h
  | some w => cases w <;> cases h <;> exact ⟨rfl, rfl⟩
theorem gg_s1_len : ∀ (L : List (Option Value)) (i : Nat) (v : Value), (gg_s1 L i v).length = L.length
  | [], _, _ => rfl
  | _ :: r, 0, v => rfl
  | o :: r, 1, v => by rw [gg_s1, List.length_cons, List.length_cons, gg_s1_len r 0 v]
  | o :: r, n + 2, v => by rw [gg_s1, List.length_cons, List.length_cons, gg_s1_len r (n + 1) v]
theorem gg_s2_len : ∀ (L : List (Option Value)) (i : Nat) (v : Value), (gg_s2 L i v).length = L.length
  | [], _, _ => rfl
  | [_], 0, v => rfl
  | _ :: _ :: r, 0, v => rfl
  | o :: r, 1, v => by rw [gg_s2, List.length_cons, List.length_cons, gg_s2_len r 0 v]
  | o :: r, n + 2, v => by rw [gg_s2, List.length_cons, List.length_cons, gg_s2_len r (n + 1) v]
theorem gg_s1_at : ∀ (L : List (Option Value)) (i : Nat) (v : Value) (j : Nat) (w : Value), (gg_s1 L i v)[j]? = some (some w) → (j = i ∧ w = v) ∨ (j ≠ i ∧ L[j]? = some (some w) ∧ ¬ (j + 1 = i ∧ w.category = 2))
  | [], _, _, j, w, h => by simp [gg_s1] at h
  | o :: r, 0, v, j, w, h => by
    match j, h with
    | 0, h => exact Or.inl ⟨rfl, by cases h; rfl⟩
    | j + 1, h => exact Or.inr ⟨by omega, by simpa [gg_s1] using h, by omega⟩
  | o :: r, 1, v, j, w, h => by
    match j, h with
    | 0, h =>
      have h2 : gg_kl o = some w := by simpa [gg_s1] using h
      obtain ⟨e1, e2⟩ := gg_kl_some h2
      exact Or.inr ⟨by omega, by simp [e1], fun q => by omega⟩
    | j + 1, h =>
      have h2 : (gg_s1 r 0 v)[j]? = some (some w) := by simpa [gg_s1] using h
      rcases gg_s1_at r 0 v j w h2 with ⟨e1, e2⟩ | ⟨e1, e2, e3⟩
      · exact Or.inl ⟨by omega, e2⟩
      · exact Or.inr ⟨by omega, by simpa using e2, by omega⟩
  | o :: r, n + 2, v, j, w, h => by
    match j, h with
    | 0, h => exact Or.inr ⟨by omega, by simpa [gg_s1] using h, by omega⟩
    | j + 1, h =>
      have h2 : (gg_s1 r (n + 1) v)[j]? = some (some w) := by simpa [gg_s1] using h
      rcases gg_s1_at r (n + 1) v j w h2 with ⟨e1, e2⟩ | ⟨e1, e2, e3⟩
      · exact Or.inl ⟨by omega, e2⟩
      · exact Or.inr ⟨by omega, by simpa using e2, fun q => e3 ⟨by omega, q.2⟩⟩
theorem gg_s2_at : ∀ (L : List (Option Value)) (i : Nat) (v : Value) (j : Nat) (w : Value), (gg_s2 L i v)[j]? = some (some w) → (j = i ∧ w = v) ∨ (j ≠ i ∧ j ≠ i + 1 ∧ L[j]? = some (some w) ∧ ¬ (j + 1 = i ∧ w.category = 2))
  | [], _, _, j, w, h => by simp [gg_s2] at h
  | [o], 0, v, j, w, h => by
    match j, h with
    | 0, h => exact Or.inl ⟨rfl, by cases h; rfl⟩
    | j + 1, h => simp [gg_s2] at h
  | o :: o2 :: r, 0, v, j, w, h => by
    match j, h with
    | 0, h => exact Or.inl ⟨rfl, by cases h; rfl⟩
    | 1, h => simp [gg_s2] at h
    | j + 2, h => exact Or.inr ⟨by omega, by omega, by simpa [gg_s2] using h, by omega⟩
  | o :: r, 1, v, j, w, h => by
    match j, h with
    | 0, h =>
      have h2 : gg_kl o = some w := by simpa [gg_s2] using h
      obtain ⟨e1, e2⟩ := gg_kl_some h2
      exact Or.inr ⟨by omega, by omega, by simp [e1], fun q => by omega⟩
    | j + 1, h =>
      have h2 : (gg_s2 r 0 v)[j]? = some (some w) := by simpa [gg_s2] using h
      rcases gg_s2_at r 0 v j w h2 with ⟨e1, e2⟩ | ⟨e1, e2, e3, e4⟩
      · exact Or.inl ⟨by omega, e2⟩
      · exact Or.inr ⟨by omega, by omega, by simpa using e3, by omega⟩
  | o :: r, n + 2, v, j, w, h => by
    match j, h with
    | 0, h => exact Or.inr ⟨by omega, by omega, by simpa [gg_s2] using h, by omega⟩
    | j + 1, h =>
      have h2 : (gg_s2 r (n + 1) v)[j]? = some (some w) := by simpa [gg_s2] using h
      rcases gg_s2_at r (n + 1) v j w h2 with ⟨e1, e2⟩ | ⟨e1, e2, e3, e4⟩
      · exact Or.inl ⟨by omega, e2⟩
      · exact Or.inr ⟨by omega, by omega, by simpa using e3, fun q => e4 ⟨by omega, q.2⟩⟩
theorem gg_cat (ad : Nat → Nat) (v : Value) : (gg_cv ad v).category = v.category := by cases v <;> rfl
theorem gg_lv_s1 {ad : Nat → Nat} {ls : Array Slot} {nL i : Nat} {L : List (Option Value)} {v : Value} (hl : L.length = nL) (h : lv_has ls nL ((i, gg_cv ad v) :: (gg_lp ad 0 L).filter (fun q => !(q.1 == i) && !(q.1 + 1 == i && q.2.category == 2)))) : gg_lv ad ls nL (gg_s1 L i v) := by
  refine ⟨by rw [gg_s1_len]; exact hl, h.1, h.2.1, fun q hq => ?_⟩
  obtain ⟨k, w⟩ := q
  obtain ⟨j, v', e1, e2, e3⟩ := (gg_lp_mem ad _ 0 k w).mp hq
  have ek : k = j := by omega
  subst ek
  rcases gg_s1_at L i v k v' e2 with ⟨f1, f2⟩ | ⟨f1, f2, f3⟩
  · subst f1 f2 e3
    exact h.2.2 _ List.mem_cons_self
  · refine h.2.2 (k, w) (List.mem_cons_of_mem _ (List.mem_filter.mpr ⟨(gg_lp_mem ad L 0 k w).mpr ⟨k, v', by omega, f2, e3⟩, ?_⟩))
    subst e3
    simp only [gg_cat, Bool.and_eq_true, Bool.not_eq_true', beq_eq_false_iff_ne, ne_eq, Bool.and_eq_false_iff]
    refine ⟨f1, ?_⟩
    by_cases hc : k + 1 = i
    · exact Or.inr (fun q => f3 ⟨hc, q⟩)
    · exact Or.inl hc
theorem gg_lv_s2 {ad : Nat → Nat} {ls : Array Slot} {nL i : Nat} {L : List (Option Value)} {v : Value} (hl : L.length = nL) (h : lv_has ls nL ((i, gg_cv ad v) :: (gg_lp ad 0 L).filter (fun q => !(q.1 == i) && (!(q.1 == i + 1) && !(q.1 + 1 == i && q.2.category == 2))))) : gg_lv ad ls nL (gg_s2 L i v) := by
  refine ⟨by rw [gg_s2_len]; exact hl, h.1, h.2.1, fun q hq => ?_⟩
  obtain ⟨k, w⟩ := q
  obtain ⟨j, v', e1, e2, e3⟩ := (gg_lp_mem ad _ 0 k w).mp hq
  have ek : k = j := by omega
  subst ek
  rcases gg_s2_at L i v k v' e2 with ⟨f1, f2⟩ | ⟨f1, f1', f2, f3⟩
  · subst f1 f2 e3
    exact h.2.2 _ List.mem_cons_self
  · refine h.2.2 (k, w) (List.mem_cons_of_mem _ (List.mem_filter.mpr ⟨(gg_lp_mem ad L 0 k w).mpr ⟨k, v', by omega, f2, e3⟩, ?_⟩))
    subst e3
    simp only [gg_cat, Bool.and_eq_true, Bool.not_eq_true', beq_eq_false_iff_ne, ne_eq, Bool.and_eq_false_iff]
    refine ⟨f1, f1', ?_⟩
    by_cases hc : k + 1 = i
    · exact Or.inr (fun q => f3 ⟨hc, q⟩)
    · exact Or.inl hc
/-- the locals at a method's entry -/
def gg_eL : List Value → List (Option Value)
  | [] => []
  | v :: r => if v.category = 2 then some v :: none :: gg_eL r else some v :: gg_eL r
theorem gg_eL_args (ad : Nat → Nat) : ∀ (vs : List Value) (i : Nat), gg_lp ad i (gg_eL vs) = lv_args i (vs.map (gg_cv ad))
  | [], i => rfl
  | v :: r, i => by
    rw [gg_eL, List.map_cons, lv_args, gg_cat]
    by_cases hc : v.category = 2
    · rw [if_pos hc, if_pos hc, gg_lp, gg_lp, gg_eL_args ad r (i + 2)]
    · rw [if_neg hc, if_neg hc, gg_lp, gg_eL_args ad r (i + 1)]
theorem gg_lp_pad (ad : Nat → Nat) : ∀ (L : List (Option Value)) (i n : Nat), gg_lp ad i (L ++ List.replicate n none) = gg_lp ad i L
  | [], i, 0 => rfl
  | [], i, n + 1 => by
    rw [List.nil_append, List.replicate_succ, gg_lp]
    have := gg_lp_pad ad [] (i + 1) n
    rwa [List.nil_append] at this
  | none :: r, i, n => by rw [List.cons_append, gg_lp, gg_lp, gg_lp_pad ad r (i + 1) n]
  | some v :: r, i, n => by rw [List.cons_append, gg_lp, gg_lp, gg_lp_pad ad r (i + 1) n]
theorem gg_eL_len (ad : Nat → Nat) : ∀ vs : List Value, (lg_sl (vs.map (gg_cv ad))).length = (gg_eL vs).length
  | [] => rfl
  | v :: r => by
    have ih := gg_eL_len ad r
    unfold lg_sl at ih ⊢
    rw [List.map_cons, List.flatMap_cons, List.length_append, ih, gg_eL, gg_cat]
    by_cases hc : v.category = 2
    · rw [if_pos hc, if_pos hc]; simp; omega
    · rw [if_neg hc, if_neg hc]; simp; omega
end
section
/-! the judgement: from this frame, with this memory, the method comes to its end -/
def gg_tG : List Cond := lw_tbl.filter goodWord
def gg_nw : List (String × Nat × MethodName × String) := [(RX10, 30, yX5_init, RX10), (RX10, 37, yX0_init, RX10), (RX10, 44, yX2_init, RX10), (RX10, 51, yX1_init, RX10), (RX1, 38, yX7_init, RX10), (RX10, 58, yX9_init, RX10), (RX10, 65, yX7_init, RX10), (RX10, 72, yX3_init, RX10), (RX10, 83, yX6_init, RX10), (RX6, 32, yX10_isBelow, RX10), (RX2, 22, yX10_isBelow, RX10), (RX7, 47, yX10_isBelow, RX10), (RX1, 98, yX10_isBelow, RX10), (RX10, 201, yX1_weightRunning, RX10), (RX3, 28, yX10_isBelow, RX10)]
def gg_N (U : State) : Prop := ∀ q ∈ gg_nw, va_Nw (.methodLinkNest q.1 q.2.1 q.2.2.1 q.2.2.2) U
def gg_K (D : va_G) (ca : Nat → ClassId) (U : State) : Prop := (∀ (c : Nat) (q : vw_C), gg_cls[c]? = some q → u_Kn U q.1 q.2.1 q.2.2 (D.1 c) (D.2 c)) ∧ ∀ t, t < 65 → 20 ≤ gg_kd t → ArrOfT U (ca t) (gg_ty (gg_kd t)) ∧ va_RA U (ca t) (gg_ty (gg_kd t))
def gg_S (ad : Nat → Nat) (A : Nat → Prop) (U : State) (H : Heap) : Prop := ∀ k, k < 5 → va_Z (gg_sn k).1 (gg_sn k).2.1 (gg_sn k).2.2 (.ref (ad (100 + k))) A U H ∧ va_T (gg_st k) (ad (100 + k)) (gg_sl k) (fun j => .int (gg_sv k j)) A U H
def gg_rok (rt : Option FieldType) (cc : ByteArray) (pc : Nat) (v : Option Value) : Prop := match v with
  | none => rt = none ∧ decode cc pc = .ok (.return_, 1)
  | some (.int x) => (∃ ty, rt = some ty ∧ narrow ty (.int x) = .int x) ∧ decode cc pc = .ok (.ireturn, 1)
  | some (.long _) => rt = some .long ∧ decode cc pc = .ok (.lreturn, 1)
  | some (.ref _) => (∃ n, rt = some (.object n)) ∧ decode cc pc = .ok (.areturn, 1)
  | _ => False
abbrev gg_T : Type := Nat → List (Option Value) → List Value → gg_M → Prop
def gg_G (p : Program) (l : Launch) (e : Env) (R : Room) (s : State) (m : MethodId) (args : Array Value) (below : List Frame) (meth : Method) (c : Code) (D : va_G) (ca : Nat → ClassId) (ad : Nat → Nat) (A : Nat → Prop) (cells slots : Nat) (Q : State → Prop) (nL : Nat) : gg_T :=
  fun pc L st u => ∀ (H : Heap) (locs : List Loc) (ls : Array Slot), va_P D gg_cls (gg_ws ad ca u) H → va_S A s.heap H locs → gg_lv ad ls nL L → W p l e R s m args below meth c H locs cells slots Q (F0 m pc ls (st.map (gg_cv ad)))
def gg_Cx (X : Option (Nat × (Nat → Int32))) (cc : ByteArray) (nL : Nat) (own : String) (rt : Option FieldType) (h : Nat) (E : Option Value → gg_M → Prop) (p : Program) (l : Launch) (e : Env) (R : Room) (s : State) (m : MethodId) (args : Array Value) (below : List Frame) (meth : Method) (c : Code) (D : va_G) (ca : Nat → ClassId) (ad : Nat → Nat) (A : Nat → Prop) (cells slots : Nat) (Q : State → Prop) : Prop :=
  p.tables.exec = Jvm.exec ∧ c.code = cc ∧ c.maxLocals = nL ∧ s.vm.findClass own = some m.cls ∧ (∀ w ∈ gg_tG, w.before args s = true) ∧ (h ≤ R.frames ∧ 64 * h ≤ R.locals ∧ cells ≤ R.cells ∧ slots ≤ R.slots) ∧
  gg_K D ca s ∧ gg_S ad A s s.heap ∧ (∀ i j, i < 65 → j < 65 → ad i = ad j → i = j) ∧ (∀ i, i < 65 → A (ad i)) ∧ gg_N s ∧ (∀ L xs, X = some (L, xs) → va_T .int (ad 110) L (fun j => .int (xs j)) A s s.heap) ∧
  ∀ (H : Heap) (locs : List Loc) (ls : Array Slot) (pc : Nat) (v : Option Value) (u : gg_M), va_P D gg_cls (gg_ws ad ca u) H → va_S A s.heap H locs → E v u → gg_rok rt cc pc v → W p l e R s m args below meth c H locs cells slots Q (F0 m pc ls (v.map (gg_cv ad)).toList)
/-- G is the judgement of a method with code cc, nL places, of the class own, whose ends may be E, with frames for h more -/
def gg_Cl (X : Option (Nat × (Nat → Int32))) (cc : ByteArray) (nL : Nat) (own : String) (rt : Option FieldType) (h : Nat) (E : Option Value → gg_M → Prop) (G : gg_T) : Prop :=
  ∃ (p : Program) (l : Launch) (e : Env) (R : Room) (s : State) (m : MethodId) (args : Array Value) (below : List Frame) (meth : Method) (c : Code) (D : va_G) (ca : Nat → ClassId) (ad : Nat → Nat) (A : Nat → Prop) (cells slots : Nat) (Q : State → Prop), gg_Cx X cc nL own rt h E p l e R s m args below meth c D ca ad A cells slots Q ∧ G = gg_G p l e R s m args below meth c D ca ad A cells slots Q nL
/-! a method's contract -/
def gg_AS (ad : Nat → Nat) : Nat → Prop := fun q => ∃ k, k < 65 ∧ q = ad k
def gg_rm (h : Nat) : Room := { frames := h, cells := 0, slots := 0, locals := 64 * h }
def gg_Wd (D : va_G) (ca : Nat → ClassId) (ad : Nat → Nat) (u : gg_M) (U : State) : Prop := va_P D gg_cls (gg_ws ad ca u) U.heap ∧ gg_K D ca U ∧ gg_S ad (gg_AS ad) U U.heap ∧ (∀ i j, i < 65 → j < 65 → ad i = ad j → i = j) ∧ gg_N U
def gg_QR (D : va_G) (ca : Nat → ClassId) (ad : Nat → Nat) (E : Option Value → gg_M → Prop) : Array Value → State → Outcome → State → Prop := fun _ st o t => (∃ (v : Option Value) (u : gg_M), o = .returned (v.map (gg_cv ad)) ∧ E v u ∧ va_P D gg_cls (gg_ws ad ca u) t.heap) ∧ va_F (gg_AS ad) st t
def gg_Mt (h : Nat) (y : MethodName) (cy : ByteArray) (nLy : Nat) (rt : Option FieldType) (As : List Value) (u : gg_M) (E : Option Value → gg_M → Prop) : Prop :=
  ∀ (l : Launch) (D : va_G) (ca : Nat → ClassId) (ad : Nat → Nat), Met l y (.code y cy nLy rt :: gg_tG) (gg_rm h) (va_Pc (As.map (gg_cv ad)) (gg_Wd D ca ad u)) (gg_QR D ca ad E) 0 0 (gg_AS ad)
theorem gg_K.moved {D : va_G} {ca : Nat → ClassId} {u U : State} (hvm : u.vm.Alike U.vm) (h : gg_K D ca u) : gg_K D ca U := ⟨fun c q hq => u_Kn_moved hvm (h.1 c q hq), fun t h1 h2 => ⟨arrOfT_moved hvm (h.2 t h1 h2).1, (h.2 t h1 h2).2.moved hvm⟩⟩
theorem gg_K.va {D : va_G} {ca : Nat → ClassId} {U : State} (h : gg_K D ca U) {t : Nat} (ht : t < 65) (hk : 20 ≤ gg_kd t) : va_K D gg_cls [(ca t, gg_ty (gg_kd t))] U :=
  ⟨h.1, fun k q hq => by
    match k, hq with
    | 0, hq => cases hq; exact h.2 t ht hk
    | k + 1, hq => simp at hq⟩
theorem gg_K.v0 {D : va_G} {ca : Nat → ClassId} {U : State} (h : gg_K D ca U) : va_K D gg_cls [] U := ⟨h.1, fun k q hq => by simp at hq⟩
theorem gg_S.moved {ad : Nat → Nat} {A : Nat → Prop} {u U : State} {H : Heap} (hvm : u.vm.Alike U.vm) (h : gg_S ad A u H) : gg_S ad A U H := fun k hk => ⟨(h k hk).1.moved hvm, (h k hk).2.moved hvm⟩
theorem gg_S.kept {ad : Nat → Nat} {A : Nat → Prop} {U : State} {H H1 : Heap} (h : gg_S ad A U H) (hq : ∀ a : Nat, a < H.size → ¬ A a → H1[a]? = H[a]?) : gg_S ad A U H1 := fun k hk => ⟨(h k hk).1.kept hq, (h k hk).2.kept hq⟩
theorem gg_S.narrow {ad : Nat → Nat} {A B : Nat → Prop} {U : State} {H : Heap} (h : gg_S ad A U H) (hAB : ∀ q, B q → A q) : gg_S ad B U H := fun k hk => ⟨(h k hk).1.narrow hAB, (h k hk).2.narrow hAB⟩
theorem gg_N.same {u U : State} (h : u.vm = U.vm) (hN : gg_N u) : gg_N U := fun q hq => va_Nw.same rfl h (hN q hq)
theorem gg_N.warm {s U : State} (hW : s.WarmedH U.vm) (hN : gg_N s) : gg_N U := fun q hq => va_Nw.warmM hW (hN q hq)
theorem gg_va_D {ad : Nat → Nat} {ca : Nat → ClassId} {A : Nat → Prop} {u : gg_M} (hI : ∀ i j, i < 65 → j < 65 → ad i = ad j → i = j) (hA : ∀ i, i < 65 → A (ad i)) : va_D A (gg_ws ad ca u) := by
  refine ⟨fun i j p q hp hq e => ?_, fun k q hq => ?_⟩
  · obtain ⟨h1, rfl⟩ := gg_ws_of hp
    obtain ⟨h2, rfl⟩ := gg_ws_of hq
    exact hI i j h1 h2 e
  · obtain ⟨h1, rfl⟩ := gg_ws_of hq
    exact hA k h1
theorem gg_blind (D : va_G) (ca : Nat → ClassId) (ad : Nat → Nat) (u : gg_M) (As : List Value) : FrameBlind (va_Pc (As.map (gg_cv ad)) (gg_Wd D ca ad u)) := by
  intro a U g mk h
  obtain ⟨h0, h1, h2, h3, h4, h5⟩ := h
  exact ⟨h0, h1, h2.moved (u := U) (U := U.calling g mk a) (Vm.Alike.refl U.vm), h3.moved (u := U) (U := U.calling g mk a) (Vm.Alike.refl U.vm), h4, h5.same rfl⟩
/-- a contract out of the body's walk -/
theorem gg_intro {h : Nat} {y : MethodName} {cy : ByteArray} {nLy : Nat} {rt : Option FieldType} {own : String} {As : List Value} {L : List (Option Value)} {u : gg_M} {E : Option Value → gg_M → Prop} (hy : plainFor y = true) (ho : y.cls = own) (hL : gg_eL As ++ List.replicate (nLy - (gg_eL As).length) none = L) (hlen : (gg_eL As).length ≤ nLy)
    (hb : ∀ G, gg_Cl none cy nLy own rt h E G → G 0 L [] u) : gg_Mt h y cy nLy rt As u E := by
  intro l D ca ad
  refine va_MetF (cc := cy) (maxL := nLy) (ret := rt) hy rfl ?_
  intro p e s m args below meth c s₁ B hml hv
  obtain ⟨rfl, hP, hK, hS, hI, hN⟩ := hv
  have hx := B.exec
  have hbb := B.bytes
  have hr := B.returns
  have hts := atoms_spec (ws := Cond.code y cy nLy rt :: gg_tG) B.pre
  have hown : s.vm.findClass own = some m.cls := by rw [← ho]; exact findClass_of_methodNamed B.named
  have hlocks := B.notSynchronized
  have hle := lv_entry (As.map (gg_cv ad)) (n := nLy) (by rw [gg_eL_len]; exact hlen)
  rw [lg_entry_eq]
  generalize (lg_sl (As.map (gg_cv ad)) ++ List.replicate (nLy - (lg_sl (As.map (gg_cv ad))).length) Slot.unset).toArray = ls at hle ⊢
  refine hb (gg_G p l e (headSpec (Cond.code y cy nLy rt :: gg_tG) (gg_rm h)).room s m _ below meth c D ca ad (gg_AS ad) 0 0 (MQ below (gg_QR D ca ad E) _ s 0 0 (gg_AS ad)) nLy) ⟨p, l, e, _, s, m, _, below, meth, c, D, ca, ad, gg_AS ad, 0, 0, _, ⟨hx, hbb, hml, hown, fun w hw => hts w (List.mem_cons_of_mem _ hw), ⟨Nat.le_refl h, Nat.le_refl _, Nat.le_refl 0, Nat.le_refl 0⟩, hK, hS, hI, fun i hi => ⟨i, hi, rfl⟩, hN, fun _ _ h => (by cases h), ?_⟩, rfl⟩ s.heap [] ls hP va_S.rf ⟨?_, ?_⟩
  · intro H locs ls pc v u' hP' hS' hE hk
    have hq : ∀ t : State, t.heap = H → s.WarmedH t.vm → gg_QR D ca ad E (As.map (gg_cv ad)).toArray s (.returned (v.map (gg_cv ad))) t := fun t ht _ => ⟨⟨v, u', rfl, hE, by rw [ht]; exact hP'⟩, hS'.F ht⟩
    match v, hk, hq with
    | none, hk, hq => exact W.vret hx hbb (hr.trans hk.1) hq hS'.2.2 hk.2
    | some (.int x), hk, hq =>
      obtain ⟨⟨ty, h1, h2⟩, h3⟩ := hk
      exact W.zret hx hbb (hr.trans h1) h2 hq hS'.2.2 h3
    | some (.long x), hk, hq => exact W.lret hx hbb (hr.trans hk.1) hq hS'.2.2 hk.2
    | some (.ref x), hk, hq =>
      obtain ⟨⟨n, h1⟩, h3⟩ := hk
      exact W.aret hx hbb (hr.trans h1) (Or.inl ⟨n, rfl⟩) (Or.inr ⟨_, rfl⟩) hq hS'.2.2 h3
    | some .null, hk, hq => exact hk.elim
    | some (.float _), hk, hq => exact hk.elim
    | some (.double _), hk, hq => exact hk.elim
  · rw [← hL, List.length_append, List.length_replicate]
    omega
  · rw [← hL, gg_lp_pad, gg_eL_args]
    exact hle
/-! the end of a call -/
theorem gg_calld {p : Program} {l : Launch} {e : Env} {R : Room} {s : State} {m : MethodId} {args : Array Value} {below : List Frame} {meth : Method} {c : Code} {H : Heap} {locs : List Loc} {cells slots : Nat} {Q : State → Prop} {pc : Nat} {ls : Array Slot} {rest st0 : List Value} {a : Array Value} {A : Nat → Prop} {D : va_G} {ca : Nat → ClassId} {ad : Nat → Nat} {E : Option Value → gg_M → Prop}
    (hr : va_Run p l e R s m args below meth c H locs cells slots 0 0 (F0 m pc ls st0) rest (gg_QR D ca ad E a) (gg_AS ad)) (hS : va_S A s.heap H locs) (hA : ∀ q, gg_AS ad q → A q)
    (kk : ∀ (v : Option Value) (u : gg_M) (H1 : Heap) (locs1 : List Loc), E v u → va_P D gg_cls (gg_ws ad ca u) H1 → va_S A s.heap H1 locs1 → W p l e R s m args below meth c H1 locs1 cells slots Q (F0 m (pc + 3) ls ((v.map (gg_cv ad)).toList ++ rest))) : W p l e R s m args below meth c H locs cells slots Q (F0 m pc ls st0) := by
  intro T hT X
  obtain ⟨v, st₀, t, T', Lc, h0, X', hL, e1, e2, ⟨⟨r, u, hv, hp, hb⟩, hz, hk⟩, st⟩ := hr T hT X
  cases hv
  rw [h0] at hz hk
  obtain ⟨t2, a1, b1⟩ := kk r u T'.heap (locs ++ Lc) hp (by rw [e1]; exact hb)
    ⟨Nat.le_trans hS.1 (by rw [e1]; exact hz), fun q h1 h2 => by rw [e1, hk q (Nat.lt_of_lt_of_le h1 hS.1) (fun z => h2 (hA q z))]; exact hS.2.1 q h1 h2, fun q hq => by
      rcases List.mem_append.mp hq with h | h
      · exact hS.2.2 q h
      · exact hA _ (hL q h)⟩ T' rfl X'
  exact ⟨t2, st t2 a1, b1⟩
end
section
def gu_ushr (x y : Int32) : Int32 := (x.toUInt32 >>> (y.toUInt32 &&& Int32.toUInt32 31)).toInt32
def gu_lshl (x : Int64) (y : Int32) : Int64 := x <<< (y.toInt64 &&& 63)
def gu_lushr (x : Int64) (y : Int32) : Int64 := (x.toUInt64 >>> (y.toInt64.toUInt64 &&& Int64.toUInt64 63)).toInt64
theorem gg_vin {i : Int32} {n : Nat} (h : (decide (i < 0) || decide (n ≤ i.toNatClampNeg)) = false) : vp_in i n := by
  unfold vp_in
  simpa using h
theorem gg_nb {x : Int32} (h : x = 0 ∨ x = 1) : narrow .boolean (.int x) = .int x ∧ fits .boolean (.int x) = true := by
  rcases h with rfl | rfl <;> exact ⟨by decide, by decide⟩
theorem gg_fvI {u : gg_M} {t j c : Nat} (h : gg_kd t = c) (hf : gg_fk c j = 0) : gg_fv u t j = .int (u.1 t j) := by
  unfold gg_fv
  rw [h, hf]
  rfl
theorem gg_fvR {u : gg_M} {t j c : Nat} (h : gg_kd t = c) (hf : gg_fk c j = 2) : gg_fv u t j = .ref (gg_rf t j) := by
  unfold gg_fv
  rw [h, hf]
  rfl
def gg_FL (own : String) (idx c0 j : Nat) : Prop := ∃ q : vw_C, gg_cls[c0]? = some q ∧ j < q.2.2 ∧ Cond.fieldLink own idx (q.2.1 j).1 (q.2.1 j).2.1 (q.2.1 j).2.2.1 ∈ gg_tG
def gg_FP (own : String) (idx c0 j : Nat) : Prop := ∃ q : vw_C, gg_cls[c0]? = some q ∧ j < q.2.2 ∧ Cond.fieldLink own idx (q.2.1 j).1 (q.2.1 j).2.1 (q.2.1 j).2.2.1 ∈ gg_tG ∧ (q.2.1 j).2.2.2 = false
def gg_Y (y : MethodName) (cy : ByteArray) (nLy : Nat) (rt : Option FieldType) (n : Nat) : Prop := Cond.code y cy nLy rt ∈ gg_tG ∧ Cond.initialized y.cls ∈ gg_tG ∧ (y.cls ≠ "java/lang/invoke/MethodHandle" ∧ y.cls ≠ "java/lang/invoke/VarHandle") ∧ (∀ sig, parseMethodDescriptor y.desc = some sig → n = sig.parameters.length) ∧ nLy ≤ 40
def gg_YV (y : MethodName) : Prop := Cond.instanceMethod y ∈ gg_tG ∧ Cond.selects y.cls y y ∈ gg_tG
theorem gg_Y_of {y : MethodName} {cy : ByteArray} {nLy : Nat} {rt : Option FieldType} {n : Nat} (h1 : Cond.code y cy nLy rt ∈ gg_tG) (h2 : Cond.initialized y.cls ∈ gg_tG) (h3 : y.cls ≠ "java/lang/invoke/MethodHandle" ∧ y.cls ≠ "java/lang/invoke/VarHandle") (h4 : (parseMethodDescriptor y.desc).map (fun d => d.parameters.length) = some n) (h5 : nLy ≤ 40) : gg_Y y cy nLy rt n := ⟨h1, h2, h3, fun sig h => by rw [h] at h4; exact (Option.some.inj h4).symm, h5⟩
theorem gg_in {w : Cond} (i : Nat) (h : lw_tbl[i]? = some w) (hg : goodWord w = true) : w ∈ gg_tG := List.mem_filter.mpr ⟨List.mem_of_getElem? h, hg⟩
theorem gg_inX0 : ∀ w ∈ u_ws RX0 TX0 1, w ∈ gg_tG := by decide +kernel
theorem gg_inX1 : ∀ w ∈ u_ws RX1 TX1 11, w ∈ gg_tG := by decide +kernel
theorem gg_inX2 : ∀ w ∈ u_ws RX2 TX2 3, w ∈ gg_tG := by decide +kernel
theorem gg_inX3 : ∀ w ∈ u_ws RX3 TX3 6, w ∈ gg_tG := by decide +kernel
theorem gg_inX4 : ∀ w ∈ u_ws RX4 TX4 2, w ∈ gg_tG := by decide +kernel
theorem gg_inX5 : ∀ w ∈ u_ws RX5 TX5 3, w ∈ gg_tG := by decide +kernel
theorem gg_inX6 : ∀ w ∈ u_ws RX6 TX6 3, w ∈ gg_tG := by decide +kernel
theorem gg_inX7 : ∀ w ∈ u_ws RX7 TX7 8, w ∈ gg_tG := by decide +kernel
theorem gg_inX8 : ∀ w ∈ u_ws RX8 TX8 2, w ∈ gg_tG := by decide +kernel
theorem gg_inX9 : ∀ w ∈ u_ws RX9 TX9 3, w ∈ gg_tG := by decide +kernel
theorem gg_inX10 : ∀ w ∈ u_ws RX10 TX10 12, w ∈ gg_tG := by decide +kernel
theorem gg_inX11 : ∀ w ∈ u_ws RX11 TX11 25, w ∈ gg_tG := by decide +kernel
theorem gg_clsF {c0 : Nat} {q : vw_C} (h : gg_cls[c0]? = some q) : c0 < 12 ∧ q.2.2 = gg_nf c0 ∧ (∀ w ∈ u_ws q.1 q.2.1 q.2.2, w ∈ gg_tG) ∧ (∀ k, k < q.2.2 → parseFieldDescriptor (q.2.1 k).2.2.1 = some (gg_ft c0 k)) ∧ ∀ a, a < q.2.2 → ∀ b, b < q.2.2 → a ≠ b → (q.2.1 a).2.1 ≠ (q.2.1 b).2.1 := by
  match c0, h with
  | 0, h => cases h; exact ⟨by decide, rfl, gg_inX0, tyX0_ok, nmX0⟩
  | 1, h => cases h; exact ⟨by decide, rfl, gg_inX1, tyX1_ok, nmX1⟩
  | 2, h => cases h; exact ⟨by decide, rfl, gg_inX2, tyX2_ok, nmX2⟩
  | 3, h => cases h; exact ⟨by decide, rfl, gg_inX3, tyX3_ok, nmX3⟩
  | 4, h => cases h; exact ⟨by decide, rfl, gg_inX4, tyX4_ok, nmX4⟩
  | 5, h => cases h; exact ⟨by decide, rfl, gg_inX5, tyX5_ok, nmX5⟩
  | 6, h => cases h; exact ⟨by decide, rfl, gg_inX6, tyX6_ok, nmX6⟩
  | 7, h => cases h; exact ⟨by decide, rfl, gg_inX7, tyX7_ok, nmX7⟩
  | 8, h => cases h; exact ⟨by decide, rfl, gg_inX8, tyX8_ok, nmX8⟩
  | 9, h => cases h; exact ⟨by decide, rfl, gg_inX9, tyX9_ok, nmX9⟩
  | 10, h => cases h; exact ⟨by decide, rfl, gg_inX10, tyX10_ok, nmX10⟩
  | 11, h => cases h; exact ⟨by decide, rfl, gg_inX11, tyX11_ok, nmX11⟩
  | k + 12, h => simp at h
section GGR
variable {X : Option (Nat × (Nat → Int32))} {cc : ByteArray} {nL : Nat} {own : String} {rt : Option FieldType} {h : Nat} {E : Option Value → gg_M → Prop} {G : gg_T} {pc : Nat} {L : List (Option Value)} {st : List Value} {u : gg_M}
theorem gg_iconst (hG : gg_Cl X cc nL own rt h E G) {n : Int} {v : Int32} (hd : decode cc pc = .ok (.iconst n, 1)) (hv : Int32.ofInt n = v) (k : G (pc + 1) L (.int v :: st) u) : G pc L (st) u := by
  obtain ⟨p, l, e, R, s, m, args, below, meth, c, D, ca, ad, A, cells, slots, Q, ⟨hx, hb, hml, hown, hts, hR, hK, hS0, hI, hA, hN, hX, hE⟩, rfl⟩ := hG
  intro H locs ls hP hS hl
  exact lv_iconst hx hb hd hv (k H locs ls hP hS hl)
theorem gg_bipush (hG : gg_Cl X cc nL own rt h E G) {n : Int} {v : Int32} (hd : decode cc pc = .ok (.bipush n, 2)) (hv : (Int8.ofInt n).toInt32 = v) (k : G (pc + 2) L (.int v :: st) u) : G pc L (st) u := by
  obtain ⟨p, l, e, R, s, m, args, below, meth, c, D, ca, ad, A, cells, slots, Q, ⟨hx, hb, hml, hown, hts, hR, hK, hS0, hI, hA, hN, hX, hE⟩, rfl⟩ := hG
  intro H locs ls hP hS hl
  exact lv_bipush hx hb hd hv (k H locs ls hP hS hl)
theorem gg_sipush (hG : gg_Cl X cc nL own rt h E G) {n : Int} {v : Int32} (hd : decode cc pc = .ok (.sipush n, 3)) (hv : (Int16.ofInt n).toInt32 = v) (k : G (pc + 3) L (.int v :: st) u) : G pc L (st) u := by
  obtain ⟨p, l, e, R, s, m, args, below, meth, c, D, ca, ad, A, cells, slots, Q, ⟨hx, hb, hml, hown, hts, hR, hK, hS0, hI, hA, hN, hX, hE⟩, rfl⟩ := hG
  intro H locs ls hP hS hl
  exact lv_sipush hx hb hd hv (k H locs ls hP hS hl)
theorem gg_lconst (hG : gg_Cl X cc nL own rt h E G) {n : Fin 2} {v : Int64} (hd : decode cc pc = .ok (.lconst n, 1)) (hv : Int64.ofNat (n : Nat) = v) (k : G (pc + 1) L (.long v :: st) u) : G pc L (st) u := by
  obtain ⟨p, l, e, R, s, m, args, below, meth, c, D, ca, ad, A, cells, slots, Q, ⟨hx, hb, hml, hown, hts, hR, hK, hS0, hI, hA, hN, hX, hE⟩, rfl⟩ := hG
  intro H locs ls hP hS hl
  exact lv_lconst hx hb hd hv (k H locs ls hP hS hl)
theorem gg_ldc (hG : gg_Cl X cc nL own rt h E G) {idx : Nat} {v : Int32} (hd : decode cc pc = .ok (.ldc idx, 2)) (hc : Cond.constant own idx v ∈ gg_tG) (k : G (pc + 2) L (.int v :: st) u) : G pc L st u := by
  obtain ⟨p, l, e, R, s, m, args, below, meth, c, D, ca, ad, A, cells, slots, Q, ⟨hx, hb, hml, hown, hts, hR, hK, hS0, hI, hA, hN, hX, hE⟩, rfl⟩ := hG
  intro H locs ls hP hS hl
  exact lv_ldc hx hb hown (hts _ hc) hd (k H locs ls hP hS hl)
theorem gg_ldcw (hG : gg_Cl X cc nL own rt h E G) {idx : Nat} {v : Int32} (hd : decode cc pc = .ok (.ldc_w idx, 3)) (hc : Cond.constant own idx v ∈ gg_tG) (k : G (pc + 3) L (.int v :: st) u) : G pc L st u := by
  obtain ⟨p, l, e, R, s, m, args, below, meth, c, D, ca, ad, A, cells, slots, Q, ⟨hx, hb, hml, hown, hts, hR, hK, hS0, hI, hA, hN, hX, hE⟩, rfl⟩ := hG
  intro H locs ls hP hS hl
  exact lv_ldcw hx hb hown (hts _ hc) hd (k H locs ls hP hS hl)
theorem gg_ldc2 (hG : gg_Cl X cc nL own rt h E G) {idx : Nat} {v : Int64} (hd : decode cc pc = .ok (.ldc2_w idx, 3)) (hc : Cond.constantLong own idx v ∈ gg_tG) (k : G (pc + 3) L (.long v :: st) u) : G pc L st u := by
  obtain ⟨p, l, e, R, s, m, args, below, meth, c, D, ca, ad, A, cells, slots, Q, ⟨hx, hb, hml, hown, hts, hR, hK, hS0, hI, hA, hN, hX, hE⟩, rfl⟩ := hG
  intro H locs ls hP hS hl
  exact lv_ldc2 hx hb hown (hts _ hc) hd (k H locs ls hP hS hl)
theorem gg_iload_n (hG : gg_Cl X cc nL own rt h E G) {k0 : Fin 4} {i : Nat} {x : Int32} (hd : decode cc pc = .ok (.iload_n k0, 1)) (hi : (k0 : Nat) = i) (hL : L[i]? = some (some (.int x))) (k : G (pc + 1) L (.int x :: st) u) : G pc L st u := by
  obtain ⟨p, l, e, R, s, m, args, below, meth, c, D, ca, ad, A, cells, slots, Q, ⟨hx, hb, hml, hown, hts, hR, hK, hS0, hI, hA, hN, hX, hE⟩, rfl⟩ := hG
  intro H locs ls hP hS hl
  exact lv_iload_n hx hb hd hi (gg_lv_at hl hL) (k H locs ls hP hS hl)
theorem gg_iload (hG : gg_Cl X cc nL own rt h E G) {i : Nat} {x : Int32} (hd : decode cc pc = .ok (.iload i, 2)) (hL : L[i]? = some (some (.int x))) (k : G (pc + 2) L (.int x :: st) u) : G pc L st u := by
  obtain ⟨p, l, e, R, s, m, args, below, meth, c, D, ca, ad, A, cells, slots, Q, ⟨hx, hb, hml, hown, hts, hR, hK, hS0, hI, hA, hN, hX, hE⟩, rfl⟩ := hG
  intro H locs ls hP hS hl
  exact lv_iload hx hb hd (gg_lv_at hl hL) (k H locs ls hP hS hl)
theorem gg_istore_n (hG : gg_Cl X cc nL own rt h E G) {k0 : Fin 4} {i : Nat} {x : Int32} {L1 : List (Option Value)} (hd : decode cc pc = .ok (.istore_n k0, 1)) (hi : (k0 : Nat) = i) (hn : i < nL) (hL : gg_s1 L i (.int x) = L1) (k : G (pc + 1) L1 st u) : G pc L (.int x :: st) u := by
  obtain ⟨p, l, e, R, s, m, args, below, meth, c, D, ca, ad, A, cells, slots, Q, ⟨hx, hb, hml, hown, hts, hR, hK, hS0, hI, hA, hN, hX, hE⟩, rfl⟩ := hG
  intro H locs ls hP hS hl
  exact lv_istore_n hx hb hd hi hl.2 hn rfl (fun ls1 hl1 => k H locs ls1 hP hS (hL ▸ gg_lv_s1 (v := .int x) hl.1 hl1))
theorem gg_istore (hG : gg_Cl X cc nL own rt h E G) {i : Nat} {x : Int32} {L1 : List (Option Value)} (hd : decode cc pc = .ok (.istore i, 2)) (hn : i < nL) (hL : gg_s1 L i (.int x) = L1) (k : G (pc + 2) L1 st u) : G pc L (.int x :: st) u := by
  obtain ⟨p, l, e, R, s, m, args, below, meth, c, D, ca, ad, A, cells, slots, Q, ⟨hx, hb, hml, hown, hts, hR, hK, hS0, hI, hA, hN, hX, hE⟩, rfl⟩ := hG
  intro H locs ls hP hS hl
  exact lv_istore hx hb hd hl.2 hn rfl (fun ls1 hl1 => k H locs ls1 hP hS (hL ▸ gg_lv_s1 (v := .int x) hl.1 hl1))
theorem gg_lload_n (hG : gg_Cl X cc nL own rt h E G) {k0 : Fin 4} {i : Nat} {x : Int64} (hd : decode cc pc = .ok (.lload_n k0, 1)) (hi : (k0 : Nat) = i) (hL : L[i]? = some (some (.long x))) (k : G (pc + 1) L (.long x :: st) u) : G pc L st u := by
  obtain ⟨p, l, e, R, s, m, args, below, meth, c, D, ca, ad, A, cells, slots, Q, ⟨hx, hb, hml, hown, hts, hR, hK, hS0, hI, hA, hN, hX, hE⟩, rfl⟩ := hG
  intro H locs ls hP hS hl
  exact lv_lload_n hx hb hd hi (gg_lv_at hl hL) (k H locs ls hP hS hl)
theorem gg_lload (hG : gg_Cl X cc nL own rt h E G) {i : Nat} {x : Int64} (hd : decode cc pc = .ok (.lload i, 2)) (hL : L[i]? = some (some (.long x))) (k : G (pc + 2) L (.long x :: st) u) : G pc L st u := by
  obtain ⟨p, l, e, R, s, m, args, below, meth, c, D, ca, ad, A, cells, slots, Q, ⟨hx, hb, hml, hown, hts, hR, hK, hS0, hI, hA, hN, hX, hE⟩, rfl⟩ := hG
  intro H locs ls hP hS hl
  exact lv_lload hx hb hd (gg_lv_at hl hL) (k H locs ls hP hS hl)
theorem gg_lstore_n (hG : gg_Cl X cc nL own rt h E G) {k0 : Fin 4} {i : Nat} {x : Int64} {L1 : List (Option Value)} (hd : decode cc pc = .ok (.lstore_n k0, 1)) (hi : (k0 : Nat) = i) (hn : i + 1 < nL) (hL : gg_s2 L i (.long x) = L1) (k : G (pc + 1) L1 st u) : G pc L (.long x :: st) u := by
  obtain ⟨p, l, e, R, s, m, args, below, meth, c, D, ca, ad, A, cells, slots, Q, ⟨hx, hb, hml, hown, hts, hR, hK, hS0, hI, hA, hN, hX, hE⟩, rfl⟩ := hG
  intro H locs ls hP hS hl
  exact lv_lstore_n hx hb hd hi hl.2 hn rfl (fun ls1 hl1 => k H locs ls1 hP hS (hL ▸ gg_lv_s2 (v := .long x) hl.1 hl1))
theorem gg_lstore (hG : gg_Cl X cc nL own rt h E G) {i : Nat} {x : Int64} {L1 : List (Option Value)} (hd : decode cc pc = .ok (.lstore i, 2)) (hn : i + 1 < nL) (hL : gg_s2 L i (.long x) = L1) (k : G (pc + 2) L1 st u) : G pc L (.long x :: st) u := by
  obtain ⟨p, l, e, R, s, m, args, below, meth, c, D, ca, ad, A, cells, slots, Q, ⟨hx, hb, hml, hown, hts, hR, hK, hS0, hI, hA, hN, hX, hE⟩, rfl⟩ := hG
  intro H locs ls hP hS hl
  exact lv_lstore hx hb hd hl.2 hn rfl (fun ls1 hl1 => k H locs ls1 hP hS (hL ▸ gg_lv_s2 (v := .long x) hl.1 hl1))
theorem gg_aload_n (hG : gg_Cl X cc nL own rt h E G) {k0 : Fin 4} {i : Nat} {x : Nat} (hd : decode cc pc = .ok (.aload_n k0, 1)) (hi : (k0 : Nat) = i) (hL : L[i]? = some (some (.ref x))) (k : G (pc + 1) L (.ref x :: st) u) : G pc L st u := by
  obtain ⟨p, l, e, R, s, m, args, below, meth, c, D, ca, ad, A, cells, slots, Q, ⟨hx, hb, hml, hown, hts, hR, hK, hS0, hI, hA, hN, hX, hE⟩, rfl⟩ := hG
  intro H locs ls hP hS hl
  exact lv_aload_n hx hb hd hi (gg_lv_at hl hL) (k H locs ls hP hS hl)
theorem gg_aload (hG : gg_Cl X cc nL own rt h E G) {i : Nat} {x : Nat} (hd : decode cc pc = .ok (.aload i, 2)) (hL : L[i]? = some (some (.ref x))) (k : G (pc + 2) L (.ref x :: st) u) : G pc L st u := by
  obtain ⟨p, l, e, R, s, m, args, below, meth, c, D, ca, ad, A, cells, slots, Q, ⟨hx, hb, hml, hown, hts, hR, hK, hS0, hI, hA, hN, hX, hE⟩, rfl⟩ := hG
  intro H locs ls hP hS hl
  exact lv_aload hx hb hd (gg_lv_at hl hL) (k H locs ls hP hS hl)
theorem gg_astore_n (hG : gg_Cl X cc nL own rt h E G) {k0 : Fin 4} {i : Nat} {x : Nat} {L1 : List (Option Value)} (hd : decode cc pc = .ok (.astore_n k0, 1)) (hi : (k0 : Nat) = i) (hn : i < nL) (hL : gg_s1 L i (.ref x) = L1) (k : G (pc + 1) L1 st u) : G pc L (.ref x :: st) u := by
  obtain ⟨p, l, e, R, s, m, args, below, meth, c, D, ca, ad, A, cells, slots, Q, ⟨hx, hb, hml, hown, hts, hR, hK, hS0, hI, hA, hN, hX, hE⟩, rfl⟩ := hG
  intro H locs ls hP hS hl
  exact lv_astore_n hx hb hd hi hl.2 hn rfl (fun ls1 hl1 => k H locs ls1 hP hS (hL ▸ gg_lv_s1 (v := .ref x) hl.1 hl1))
theorem gg_astore (hG : gg_Cl X cc nL own rt h E G) {i : Nat} {x : Nat} {L1 : List (Option Value)} (hd : decode cc pc = .ok (.astore i, 2)) (hn : i < nL) (hL : gg_s1 L i (.ref x) = L1) (k : G (pc + 2) L1 st u) : G pc L (.ref x :: st) u := by
  obtain ⟨p, l, e, R, s, m, args, below, meth, c, D, ca, ad, A, cells, slots, Q, ⟨hx, hb, hml, hown, hts, hR, hK, hS0, hI, hA, hN, hX, hE⟩, rfl⟩ := hG
  intro H locs ls hP hS hl
  exact lv_astore hx hb hd hl.2 hn rfl (fun ls1 hl1 => k H locs ls1 hP hS (hL ▸ gg_lv_s1 (v := .ref x) hl.1 hl1))
theorem gg_iinc (hG : gg_Cl X cc nL own rt h E G) {i : Nat} {n : Int} {x v : Int32} {L1 : List (Option Value)} (hd : decode cc pc = .ok (.iinc i n, 3)) (hi : L[i]? = some (some (.int x))) (hv : x + Int32.ofInt n = v) (hn : i < nL) (hL : gg_s1 L i (.int v) = L1) (k : G (pc + 3) L1 st u) : G pc L st u := by
  obtain ⟨p, l, e, R, s, m, args, below, meth, c, D, ca, ad, A, cells, slots, Q, ⟨hx, hb, hml, hown, hts, hR, hK, hS0, hI, hA, hN, hX, hE⟩, rfl⟩ := hG
  intro H locs ls hP hS hl
  have hm : (i, Value.int x) ∈ gg_lp ad 0 L := (gg_lp_mem ad L 0 i (.int x)).mpr ⟨i, .int x, (Nat.zero_add i).symm, hi, rfl⟩
  obtain ⟨k1, hk1⟩ := List.getElem?_of_mem hm
  exact lv_iinc hx hb hd hl.2 hk1 hv hn rfl (fun ls1 hl1 => k H locs ls1 hP hS (hL ▸ gg_lv_s1 (v := .int v) hl.1 hl1))
theorem gg_iadd (hG : gg_Cl X cc nL own rt h E G) {x y : Int32} (hd : decode cc pc = .ok (.iadd, 1))  (k : G (pc + 1) L (.int (x + y) :: st) u) : G pc L (.int y :: .int x :: st) u := by
  obtain ⟨p, l, e, R, s, m, args, below, meth, c, D, ca, ad, A, cells, slots, Q, ⟨hx, hb, hml, hown, hts, hR, hK, hS0, hI, hA, hN, hX, hE⟩, rfl⟩ := hG
  intro H locs ls hP hS hl
  exact lv_iadd hx hb hd  (k H locs ls hP hS hl)
theorem gg_isub (hG : gg_Cl X cc nL own rt h E G) {x y : Int32} (hd : decode cc pc = .ok (.isub, 1))  (k : G (pc + 1) L (.int (x - y) :: st) u) : G pc L (.int y :: .int x :: st) u := by
  obtain ⟨p, l, e, R, s, m, args, below, meth, c, D, ca, ad, A, cells, slots, Q, ⟨hx, hb, hml, hown, hts, hR, hK, hS0, hI, hA, hN, hX, hE⟩, rfl⟩ := hG
  intro H locs ls hP hS hl
  exact lv_isub hx hb hd  (k H locs ls hP hS hl)
theorem gg_imul (hG : gg_Cl X cc nL own rt h E G) {x y : Int32} (hd : decode cc pc = .ok (.imul, 1))  (k : G (pc + 1) L (.int (x * y) :: st) u) : G pc L (.int y :: .int x :: st) u := by
  obtain ⟨p, l, e, R, s, m, args, below, meth, c, D, ca, ad, A, cells, slots, Q, ⟨hx, hb, hml, hown, hts, hR, hK, hS0, hI, hA, hN, hX, hE⟩, rfl⟩ := hG
  intro H locs ls hP hS hl
  exact lv_imul hx hb hd  (k H locs ls hP hS hl)
theorem gg_iand (hG : gg_Cl X cc nL own rt h E G) {x y : Int32} (hd : decode cc pc = .ok (.iand, 1))  (k : G (pc + 1) L (.int (x &&& y) :: st) u) : G pc L (.int y :: .int x :: st) u := by
  obtain ⟨p, l, e, R, s, m, args, below, meth, c, D, ca, ad, A, cells, slots, Q, ⟨hx, hb, hml, hown, hts, hR, hK, hS0, hI, hA, hN, hX, hE⟩, rfl⟩ := hG
  intro H locs ls hP hS hl
  exact lv_iand hx hb hd  (k H locs ls hP hS hl)
theorem gg_ior (hG : gg_Cl X cc nL own rt h E G) {x y : Int32} (hd : decode cc pc = .ok (.ior, 1))  (k : G (pc + 1) L (.int (x ||| y) :: st) u) : G pc L (.int y :: .int x :: st) u := by
  obtain ⟨p, l, e, R, s, m, args, below, meth, c, D, ca, ad, A, cells, slots, Q, ⟨hx, hb, hml, hown, hts, hR, hK, hS0, hI, hA, hN, hX, hE⟩, rfl⟩ := hG
  intro H locs ls hP hS hl
  exact lv_ior hx hb hd  (k H locs ls hP hS hl)
theorem gg_ishl (hG : gg_Cl X cc nL own rt h E G) {x y : Int32} (hd : decode cc pc = .ok (.ishl, 1))  (k : G (pc + 1) L (.int (x <<< (y &&& 31)) :: st) u) : G pc L (.int y :: .int x :: st) u := by
  obtain ⟨p, l, e, R, s, m, args, below, meth, c, D, ca, ad, A, cells, slots, Q, ⟨hx, hb, hml, hown, hts, hR, hK, hS0, hI, hA, hN, hX, hE⟩, rfl⟩ := hG
  intro H locs ls hP hS hl
  exact lv_ishl hx hb hd  (k H locs ls hP hS hl)
theorem gg_ishr (hG : gg_Cl X cc nL own rt h E G) {x y : Int32} (hd : decode cc pc = .ok (.ishr, 1))  (k : G (pc + 1) L (.int (x >>> (y &&& 31)) :: st) u) : G pc L (.int y :: .int x :: st) u := by
  obtain ⟨p, l, e, R, s, m, args, below, meth, c, D, ca, ad, A, cells, slots, Q, ⟨hx, hb, hml, hown, hts, hR, hK, hS0, hI, hA, hN, hX, hE⟩, rfl⟩ := hG
  intro H locs ls hP hS hl
  exact lv_ishr hx hb hd  (k H locs ls hP hS hl)
theorem gg_idiv (hG : gg_Cl X cc nL own rt h E G) {x y : Int32} (hd : decode cc pc = .ok (.idiv, 1)) (hne : ¬ y = 0) (k : G (pc + 1) L (.int (x / y) :: st) u) : G pc L (.int y :: .int x :: st) u := by
  obtain ⟨p, l, e, R, s, m, args, below, meth, c, D, ca, ad, A, cells, slots, Q, ⟨hx, hb, hml, hown, hts, hR, hK, hS0, hI, hA, hN, hX, hE⟩, rfl⟩ := hG
  intro H locs ls hP hS hl
  exact lv_idiv hx hb hd hne (k H locs ls hP hS hl)
theorem gg_irem (hG : gg_Cl X cc nL own rt h E G) {x y : Int32} (hd : decode cc pc = .ok (.irem, 1)) (hne : ¬ y = 0) (k : G (pc + 1) L (.int (x - x / y * y) :: st) u) : G pc L (.int y :: .int x :: st) u := by
  obtain ⟨p, l, e, R, s, m, args, below, meth, c, D, ca, ad, A, cells, slots, Q, ⟨hx, hb, hml, hown, hts, hR, hK, hS0, hI, hA, hN, hX, hE⟩, rfl⟩ := hG
  intro H locs ls hP hS hl
  exact lv_irem hx hb hd hne (k H locs ls hP hS hl)
theorem gg_ineg (hG : gg_Cl X cc nL own rt h E G) {x : Int32} (hd : decode cc pc = .ok (.ineg, 1))  (k : G (pc + 1) L (.int (-x) :: st) u) : G pc L (.int x :: st) u := by
  obtain ⟨p, l, e, R, s, m, args, below, meth, c, D, ca, ad, A, cells, slots, Q, ⟨hx, hb, hml, hown, hts, hR, hK, hS0, hI, hA, hN, hX, hE⟩, rfl⟩ := hG
  intro H locs ls hP hS hl
  exact lv_ineg hx hb hd  (k H locs ls hP hS hl)
theorem gg_iushr (hG : gg_Cl X cc nL own rt h E G) {x y : Int32} (hd : decode cc pc = .ok (.iushr, 1))  (k : G (pc + 1) L (.int (gu_ushr x y) :: st) u) : G pc L (.int y :: .int x :: st) u := by
  obtain ⟨p, l, e, R, s, m, args, below, meth, c, D, ca, ad, A, cells, slots, Q, ⟨hx, hb, hml, hown, hts, hR, hK, hS0, hI, hA, hN, hX, hE⟩, rfl⟩ := hG
  intro H locs ls hP hS hl
  exact lv_iushr hx hb hd rfl (k H locs ls hP hS hl)
theorem gg_ladd (hG : gg_Cl X cc nL own rt h E G) {x y : Int64} (hd : decode cc pc = .ok (.ladd, 1))  (k : G (pc + 1) L (.long (x + y) :: st) u) : G pc L (.long y :: .long x :: st) u := by
  obtain ⟨p, l, e, R, s, m, args, below, meth, c, D, ca, ad, A, cells, slots, Q, ⟨hx, hb, hml, hown, hts, hR, hK, hS0, hI, hA, hN, hX, hE⟩, rfl⟩ := hG
  intro H locs ls hP hS hl
  exact lv_ladd hx hb hd  (k H locs ls hP hS hl)
theorem gg_lsub (hG : gg_Cl X cc nL own rt h E G) {x y : Int64} (hd : decode cc pc = .ok (.lsub, 1))  (k : G (pc + 1) L (.long (x - y) :: st) u) : G pc L (.long y :: .long x :: st) u := by
  obtain ⟨p, l, e, R, s, m, args, below, meth, c, D, ca, ad, A, cells, slots, Q, ⟨hx, hb, hml, hown, hts, hR, hK, hS0, hI, hA, hN, hX, hE⟩, rfl⟩ := hG
  intro H locs ls hP hS hl
  exact lv_lsub hx hb hd  (k H locs ls hP hS hl)
theorem gg_lmul (hG : gg_Cl X cc nL own rt h E G) {x y : Int64} (hd : decode cc pc = .ok (.lmul, 1))  (k : G (pc + 1) L (.long (x * y) :: st) u) : G pc L (.long y :: .long x :: st) u := by
  obtain ⟨p, l, e, R, s, m, args, below, meth, c, D, ca, ad, A, cells, slots, Q, ⟨hx, hb, hml, hown, hts, hR, hK, hS0, hI, hA, hN, hX, hE⟩, rfl⟩ := hG
  intro H locs ls hP hS hl
  exact lv_lmul hx hb hd  (k H locs ls hP hS hl)
theorem gg_lor (hG : gg_Cl X cc nL own rt h E G) {x y : Int64} (hd : decode cc pc = .ok (.lor, 1))  (k : G (pc + 1) L (.long (x ||| y) :: st) u) : G pc L (.long y :: .long x :: st) u := by
  obtain ⟨p, l, e, R, s, m, args, below, meth, c, D, ca, ad, A, cells, slots, Q, ⟨hx, hb, hml, hown, hts, hR, hK, hS0, hI, hA, hN, hX, hE⟩, rfl⟩ := hG
  intro H locs ls hP hS hl
  exact lv_lor hx hb hd  (k H locs ls hP hS hl)
theorem gg_ldiv (hG : gg_Cl X cc nL own rt h E G) {x y : Int64} (hd : decode cc pc = .ok (.ldiv, 1)) (hne : ¬ y = 0) (k : G (pc + 1) L (.long (x / y) :: st) u) : G pc L (.long y :: .long x :: st) u := by
  obtain ⟨p, l, e, R, s, m, args, below, meth, c, D, ca, ad, A, cells, slots, Q, ⟨hx, hb, hml, hown, hts, hR, hK, hS0, hI, hA, hN, hX, hE⟩, rfl⟩ := hG
  intro H locs ls hP hS hl
  exact lv_ldiv hx hb hd hne (k H locs ls hP hS hl)
theorem gg_lrem (hG : gg_Cl X cc nL own rt h E G) {x y : Int64} (hd : decode cc pc = .ok (.lrem, 1)) (hne : ¬ y = 0) (k : G (pc + 1) L (.long (x - x / y * y) :: st) u) : G pc L (.long y :: .long x :: st) u := by
  obtain ⟨p, l, e, R, s, m, args, below, meth, c, D, ca, ad, A, cells, slots, Q, ⟨hx, hb, hml, hown, hts, hR, hK, hS0, hI, hA, hN, hX, hE⟩, rfl⟩ := hG
  intro H locs ls hP hS hl
  exact lv_lrem hx hb hd hne (k H locs ls hP hS hl)
theorem gg_lshl (hG : gg_Cl X cc nL own rt h E G) {x : Int64} {y : Int32} (hd : decode cc pc = .ok (.lshl, 1))  (k : G (pc + 1) L (.long (gu_lshl x y) :: st) u) : G pc L (.int y :: .long x :: st) u := by
  obtain ⟨p, l, e, R, s, m, args, below, meth, c, D, ca, ad, A, cells, slots, Q, ⟨hx, hb, hml, hown, hts, hR, hK, hS0, hI, hA, hN, hX, hE⟩, rfl⟩ := hG
  intro H locs ls hP hS hl
  exact lv_lshl hx hb hd rfl (k H locs ls hP hS hl)
theorem gg_lushr (hG : gg_Cl X cc nL own rt h E G) {x : Int64} {y : Int32} (hd : decode cc pc = .ok (.lushr, 1))  (k : G (pc + 1) L (.long (gu_lushr x y) :: st) u) : G pc L (.int y :: .long x :: st) u := by
  obtain ⟨p, l, e, R, s, m, args, below, meth, c, D, ca, ad, A, cells, slots, Q, ⟨hx, hb, hml, hown, hts, hR, hK, hS0, hI, hA, hN, hX, hE⟩, rfl⟩ := hG
  intro H locs ls hP hS hl
  exact lv_lushr hx hb hd rfl (k H locs ls hP hS hl)
theorem gg_lcmp (hG : gg_Cl X cc nL own rt h E G) {x y : Int64} (hd : decode cc pc = .ok (.lcmp, 1))  (k : G (pc + 1) L (.int (lg_cmp x y) :: st) u) : G pc L (.long y :: .long x :: st) u := by
  obtain ⟨p, l, e, R, s, m, args, below, meth, c, D, ca, ad, A, cells, slots, Q, ⟨hx, hb, hml, hown, hts, hR, hK, hS0, hI, hA, hN, hX, hE⟩, rfl⟩ := hG
  intro H locs ls hP hS hl
  exact W.lcmp hx hb hd  (k H locs ls hP hS hl)
theorem gg_i2l (hG : gg_Cl X cc nL own rt h E G) {x : Int32} (hd : decode cc pc = .ok (.i2l, 1))  (k : G (pc + 1) L (.long x.toInt64 :: st) u) : G pc L (.int x :: st) u := by
  obtain ⟨p, l, e, R, s, m, args, below, meth, c, D, ca, ad, A, cells, slots, Q, ⟨hx, hb, hml, hown, hts, hR, hK, hS0, hI, hA, hN, hX, hE⟩, rfl⟩ := hG
  intro H locs ls hP hS hl
  exact lv_i2l hx hb hd rfl (k H locs ls hP hS hl)
theorem gg_l2i (hG : gg_Cl X cc nL own rt h E G) {x : Int64} (hd : decode cc pc = .ok (.l2i, 1))  (k : G (pc + 1) L (.int x.toInt32 :: st) u) : G pc L (.long x :: st) u := by
  obtain ⟨p, l, e, R, s, m, args, below, meth, c, D, ca, ad, A, cells, slots, Q, ⟨hx, hb, hml, hown, hts, hR, hK, hS0, hI, hA, hN, hX, hE⟩, rfl⟩ := hG
  intro H locs ls hP hS hl
  exact lv_l2i hx hb hd rfl (k H locs ls hP hS hl)
theorem gg_i2b (hG : gg_Cl X cc nL own rt h E G) {x : Int32} (hd : decode cc pc = .ok (.i2b, 1))  (k : G (pc + 1) L (.int x.toInt8.toInt32 :: st) u) : G pc L (.int x :: st) u := by
  obtain ⟨p, l, e, R, s, m, args, below, meth, c, D, ca, ad, A, cells, slots, Q, ⟨hx, hb, hml, hown, hts, hR, hK, hS0, hI, hA, hN, hX, hE⟩, rfl⟩ := hG
  intro H locs ls hP hS hl
  exact lv_i2b hx hb hd rfl (k H locs ls hP hS hl)
theorem gg_i2s (hG : gg_Cl X cc nL own rt h E G) {x : Int32} (hd : decode cc pc = .ok (.i2s, 1))  (k : G (pc + 1) L (.int x.toInt16.toInt32 :: st) u) : G pc L (.int x :: st) u := by
  obtain ⟨p, l, e, R, s, m, args, below, meth, c, D, ca, ad, A, cells, slots, Q, ⟨hx, hb, hml, hown, hts, hR, hK, hS0, hI, hA, hN, hX, hE⟩, rfl⟩ := hG
  intro H locs ls hP hS hl
  exact lv_i2s hx hb hd rfl (k H locs ls hP hS hl)
theorem gg_dup (hG : gg_Cl X cc nL own rt h E G) {v : Value} (hd : decode cc pc = .ok (.dup, 1)) (hv : v.category = 1) (k : G (pc + 1) L (v :: v :: st) u) : G pc L (v :: st) u := by
  obtain ⟨p, l, e, R, s, m, args, below, meth, c, D, ca, ad, A, cells, slots, Q, ⟨hx, hb, hml, hown, hts, hR, hK, hS0, hI, hA, hN, hX, hE⟩, rfl⟩ := hG
  intro H locs ls hP hS hl
  exact lv_dup hx hb hd ((gg_cat ad v).trans hv) (k H locs ls hP hS hl)
theorem gg_dup2 (hG : gg_Cl X cc nL own rt h E G) {v w : Value} (hd : decode cc pc = .ok (.dup2, 1)) (hv : v.category = 1) (hw : w.category = 1) (k : G (pc + 1) L (v :: w :: v :: w :: st) u) : G pc L (v :: w :: st) u := by
  obtain ⟨p, l, e, R, s, m, args, below, meth, c, D, ca, ad, A, cells, slots, Q, ⟨hx, hb, hml, hown, hts, hR, hK, hS0, hI, hA, hN, hX, hE⟩, rfl⟩ := hG
  intro H locs ls hP hS hl
  exact lv_dup2_11 hx hb hd ((gg_cat ad v).trans hv) ((gg_cat ad w).trans hw) (k H locs ls hP hS hl)
theorem gg_if_eq (hG : gg_Cl X cc nL own rt h E G) {x : Int32} {off : Int} {tgt : Nat} (hd : decode cc pc = .ok (.ifCond .eq off, 3)) (ht : (pc : Int) + off = (tgt : Int)) (kt : x = 0 → G tgt L st u) (kf : ¬ x = 0 → G (pc + 3) L st u) : G pc L (.int x :: st) u := by
  obtain ⟨p, l, e, R, s, m, args, below, meth, c, D, ca, ad, A, cells, slots, Q, ⟨hx, hb, hml, hown, hts, hR, hK, hS0, hI, hA, hN, hX, hE⟩, rfl⟩ := hG
  intro H locs ls hP hS hl
  exact lv_if_eq hx hb hd ht (fun q => kt q H locs ls hP hS hl) (fun q => kf q H locs ls hP hS hl)
theorem gg_ic_eq (hG : gg_Cl X cc nL own rt h E G) {x y : Int32} {off : Int} {tgt : Nat} (hd : decode cc pc = .ok (.if_icmp .eq off, 3)) (ht : (pc : Int) + off = (tgt : Int)) (kt : x = y → G tgt L st u) (kf : ¬ x = y → G (pc + 3) L st u) : G pc L (.int y :: .int x :: st) u := by
  obtain ⟨p, l, e, R, s, m, args, below, meth, c, D, ca, ad, A, cells, slots, Q, ⟨hx, hb, hml, hown, hts, hR, hK, hS0, hI, hA, hN, hX, hE⟩, rfl⟩ := hG
  intro H locs ls hP hS hl
  exact lv_icmp_eq hx hb hd ht (fun q => kt q H locs ls hP hS hl) (fun q => kf q H locs ls hP hS hl)
theorem gg_if_ne (hG : gg_Cl X cc nL own rt h E G) {x : Int32} {off : Int} {tgt : Nat} (hd : decode cc pc = .ok (.ifCond .ne off, 3)) (ht : (pc : Int) + off = (tgt : Int)) (kt : ¬ x = 0 → G tgt L st u) (kf : x = 0 → G (pc + 3) L st u) : G pc L (.int x :: st) u := by
  obtain ⟨p, l, e, R, s, m, args, below, meth, c, D, ca, ad, A, cells, slots, Q, ⟨hx, hb, hml, hown, hts, hR, hK, hS0, hI, hA, hN, hX, hE⟩, rfl⟩ := hG
  intro H locs ls hP hS hl
  exact lv_if_ne hx hb hd ht (fun q => kt q H locs ls hP hS hl) (fun q => kf q H locs ls hP hS hl)
theorem gg_ic_ne (hG : gg_Cl X cc nL own rt h E G) {x y : Int32} {off : Int} {tgt : Nat} (hd : decode cc pc = .ok (.if_icmp .ne off, 3)) (ht : (pc : Int) + off = (tgt : Int)) (kt : ¬ x = y → G tgt L st u) (kf : x = y → G (pc + 3) L st u) : G pc L (.int y :: .int x :: st) u := by
  obtain ⟨p, l, e, R, s, m, args, below, meth, c, D, ca, ad, A, cells, slots, Q, ⟨hx, hb, hml, hown, hts, hR, hK, hS0, hI, hA, hN, hX, hE⟩, rfl⟩ := hG
  intro H locs ls hP hS hl
  exact lv_icmp_ne hx hb hd ht (fun q => kt q H locs ls hP hS hl) (fun q => kf q H locs ls hP hS hl)
theorem gg_if_lt (hG : gg_Cl X cc nL own rt h E G) {x : Int32} {off : Int} {tgt : Nat} (hd : decode cc pc = .ok (.ifCond .lt off, 3)) (ht : (pc : Int) + off = (tgt : Int)) (kt : x < 0 → G tgt L st u) (kf : ¬ x < 0 → G (pc + 3) L st u) : G pc L (.int x :: st) u := by
  obtain ⟨p, l, e, R, s, m, args, below, meth, c, D, ca, ad, A, cells, slots, Q, ⟨hx, hb, hml, hown, hts, hR, hK, hS0, hI, hA, hN, hX, hE⟩, rfl⟩ := hG
  intro H locs ls hP hS hl
  exact lv_if_lt hx hb hd ht (fun q => kt q H locs ls hP hS hl) (fun q => kf q H locs ls hP hS hl)
theorem gg_ic_lt (hG : gg_Cl X cc nL own rt h E G) {x y : Int32} {off : Int} {tgt : Nat} (hd : decode cc pc = .ok (.if_icmp .lt off, 3)) (ht : (pc : Int) + off = (tgt : Int)) (kt : x < y → G tgt L st u) (kf : ¬ x < y → G (pc + 3) L st u) : G pc L (.int y :: .int x :: st) u := by
  obtain ⟨p, l, e, R, s, m, args, below, meth, c, D, ca, ad, A, cells, slots, Q, ⟨hx, hb, hml, hown, hts, hR, hK, hS0, hI, hA, hN, hX, hE⟩, rfl⟩ := hG
  intro H locs ls hP hS hl
  exact lv_icmp_lt hx hb hd ht (fun q => kt q H locs ls hP hS hl) (fun q => kf q H locs ls hP hS hl)
theorem gg_if_ge (hG : gg_Cl X cc nL own rt h E G) {x : Int32} {off : Int} {tgt : Nat} (hd : decode cc pc = .ok (.ifCond .ge off, 3)) (ht : (pc : Int) + off = (tgt : Int)) (kt : 0 ≤ x → G tgt L st u) (kf : ¬ 0 ≤ x → G (pc + 3) L st u) : G pc L (.int x :: st) u := by
  obtain ⟨p, l, e, R, s, m, args, below, meth, c, D, ca, ad, A, cells, slots, Q, ⟨hx, hb, hml, hown, hts, hR, hK, hS0, hI, hA, hN, hX, hE⟩, rfl⟩ := hG
  intro H locs ls hP hS hl
  exact lv_if_ge hx hb hd ht (fun q => kt q H locs ls hP hS hl) (fun q => kf q H locs ls hP hS hl)
theorem gg_ic_ge (hG : gg_Cl X cc nL own rt h E G) {x y : Int32} {off : Int} {tgt : Nat} (hd : decode cc pc = .ok (.if_icmp .ge off, 3)) (ht : (pc : Int) + off = (tgt : Int)) (kt : y ≤ x → G tgt L st u) (kf : ¬ y ≤ x → G (pc + 3) L st u) : G pc L (.int y :: .int x :: st) u := by
  obtain ⟨p, l, e, R, s, m, args, below, meth, c, D, ca, ad, A, cells, slots, Q, ⟨hx, hb, hml, hown, hts, hR, hK, hS0, hI, hA, hN, hX, hE⟩, rfl⟩ := hG
  intro H locs ls hP hS hl
  exact lv_icmp_ge hx hb hd ht (fun q => kt q H locs ls hP hS hl) (fun q => kf q H locs ls hP hS hl)
theorem gg_if_gt (hG : gg_Cl X cc nL own rt h E G) {x : Int32} {off : Int} {tgt : Nat} (hd : decode cc pc = .ok (.ifCond .gt off, 3)) (ht : (pc : Int) + off = (tgt : Int)) (kt : 0 < x → G tgt L st u) (kf : ¬ 0 < x → G (pc + 3) L st u) : G pc L (.int x :: st) u := by
  obtain ⟨p, l, e, R, s, m, args, below, meth, c, D, ca, ad, A, cells, slots, Q, ⟨hx, hb, hml, hown, hts, hR, hK, hS0, hI, hA, hN, hX, hE⟩, rfl⟩ := hG
  intro H locs ls hP hS hl
  exact lv_if_gt hx hb hd ht (fun q => kt q H locs ls hP hS hl) (fun q => kf q H locs ls hP hS hl)
theorem gg_ic_gt (hG : gg_Cl X cc nL own rt h E G) {x y : Int32} {off : Int} {tgt : Nat} (hd : decode cc pc = .ok (.if_icmp .gt off, 3)) (ht : (pc : Int) + off = (tgt : Int)) (kt : y < x → G tgt L st u) (kf : ¬ y < x → G (pc + 3) L st u) : G pc L (.int y :: .int x :: st) u := by
  obtain ⟨p, l, e, R, s, m, args, below, meth, c, D, ca, ad, A, cells, slots, Q, ⟨hx, hb, hml, hown, hts, hR, hK, hS0, hI, hA, hN, hX, hE⟩, rfl⟩ := hG
  intro H locs ls hP hS hl
  exact lv_icmp_gt hx hb hd ht (fun q => kt q H locs ls hP hS hl) (fun q => kf q H locs ls hP hS hl)
theorem gg_if_le (hG : gg_Cl X cc nL own rt h E G) {x : Int32} {off : Int} {tgt : Nat} (hd : decode cc pc = .ok (.ifCond .le off, 3)) (ht : (pc : Int) + off = (tgt : Int)) (kt : x ≤ 0 → G tgt L st u) (kf : ¬ x ≤ 0 → G (pc + 3) L st u) : G pc L (.int x :: st) u := by
  obtain ⟨p, l, e, R, s, m, args, below, meth, c, D, ca, ad, A, cells, slots, Q, ⟨hx, hb, hml, hown, hts, hR, hK, hS0, hI, hA, hN, hX, hE⟩, rfl⟩ := hG
  intro H locs ls hP hS hl
  exact lv_if_le hx hb hd ht (fun q => kt q H locs ls hP hS hl) (fun q => kf q H locs ls hP hS hl)
theorem gg_ic_le (hG : gg_Cl X cc nL own rt h E G) {x y : Int32} {off : Int} {tgt : Nat} (hd : decode cc pc = .ok (.if_icmp .le off, 3)) (ht : (pc : Int) + off = (tgt : Int)) (kt : x ≤ y → G tgt L st u) (kf : ¬ x ≤ y → G (pc + 3) L st u) : G pc L (.int y :: .int x :: st) u := by
  obtain ⟨p, l, e, R, s, m, args, below, meth, c, D, ca, ad, A, cells, slots, Q, ⟨hx, hb, hml, hown, hts, hR, hK, hS0, hI, hA, hN, hX, hE⟩, rfl⟩ := hG
  intro H locs ls hP hS hl
  exact lv_icmp_le hx hb hd ht (fun q => kt q H locs ls hP hS hl) (fun q => kf q H locs ls hP hS hl)
theorem gg_goto (hG : gg_Cl X cc nL own rt h E G) {off : Int} {tgt : Nat} (hd : decode cc pc = .ok (.goto off, 3)) (ht : (pc : Int) + off = (tgt : Int)) (k : G tgt L st u) : G pc L st u := by
  obtain ⟨p, l, e, R, s, m, args, below, meth, c, D, ca, ad, A, cells, slots, Q, ⟨hx, hb, hml, hown, hts, hR, hK, hS0, hI, hA, hN, hX, hE⟩, rfl⟩ := hG
  intro H locs ls hP hS hl
  exact lv_goto hx hb hd ht (k H locs ls hP hS hl)
theorem gg_tabOut (hG : gg_Cl X cc nL own rt h E G) {dflt lo hi : Int} {offs : Array Int} {len : Nat} {x : Int32} {tgt : Nat} (hd : decode cc pc = .ok (.tableswitch dflt lo hi offs, len)) (hq : x.toInt < lo ∨ hi < x.toInt) (ht : (pc : Int) + dflt = (tgt : Int)) (k : G tgt L st u) : G pc L (.int x :: st) u := by
  obtain ⟨p, l, e, R, s, m, args, below, meth, c, D, ca, ad, A, cells, slots, Q, ⟨hx, hb, hml, hown, hts, hR, hK, hS0, hI, hA, hN, hX, hE⟩, rfl⟩ := hG
  intro H locs ls hP hS hl
  exact lv_tableOut hx hb hd hq ht (k H locs ls hP hS hl)
theorem gg_tabIn (hG : gg_Cl X cc nL own rt h E G) {dflt lo hi : Int} {offs : Array Int} {len : Nat} {x : Int32} {off : Int} {tgt : Nat} (hd : decode cc pc = .ok (.tableswitch dflt lo hi offs, len)) (h1 : ¬ x.toInt < lo) (h2 : ¬ hi < x.toInt) (ho : offs[(x.toInt - lo).toNat]? = some off) (ht : (pc : Int) + off = (tgt : Int)) (k : G tgt L st u) : G pc L (.int x :: st) u := by
  obtain ⟨p, l, e, R, s, m, args, below, meth, c, D, ca, ad, A, cells, slots, Q, ⟨hx, hb, hml, hown, hts, hR, hK, hS0, hI, hA, hN, hX, hE⟩, rfl⟩ := hG
  intro H locs ls hP hS hl
  exact lv_tableIn hx hb hd h1 h2 ho ht (k H locs ls hP hS hl)
theorem gg_ni {x : Int32} (k : ∀ y : Int32, y = x → G pc L (.int y :: st) u) : G pc L (.int x :: st) u := k x rfl
theorem gg_nl {x : Int64} (k : ∀ y : Int64, y = x → G pc L (.long y :: st) u) : G pc L (.long x :: st) u := k x rfl
theorem gg_nu (k : ∀ v : gg_M, v = u → G pc L st v) : G pc L st u := k u rfl
theorem gg_get (hG : gg_Cl X cc nL own rt h E G) {t c0 j idx : Nat} {v : Value} (hd : decode cc pc = .ok (.getfield idx, 3)) (ht : t < 65) (hk : gg_kd t = c0) (hf : gg_FL own idx c0 j) (hv : gg_fv u t j = v) (k : G (pc + 3) L (v :: st) u) : G pc L (.ref t :: st) u := by
  obtain ⟨p, l, e, R, s, m, args, below, meth, c, D, ca, ad, A, cells, slots, Q, ⟨hx, hb, hml, hown, hts, hR, hK, hS0, hI, hA, hN, hX, hE⟩, rfl⟩ := hG
  intro H locs ls hP hS hl
  obtain ⟨q, hq, hj, hw⟩ := hf
  obtain ⟨hc0, hn, hin, hty, hnm⟩ := gg_clsF hq
  subst hk
  exact va_get hx hb (C := q.1) (T := q.2.1) (N := q.2.2) hts hin hown hK.v0 hP t (by rw [gg_ws_at ht, gg_ce_o rfl hc0]) hq j hj (hts _ hw) (fun _ z => z) (by rw [gg_fs_at (hn ▸ hj), hv]) hd (k H locs ls hP hS hl)
theorem gg_putI (hG : gg_Cl X cc nL own rt h E G) {t c0 j idx : Nat} {x : Int32} (hd : decode cc pc = .ok (.putfield idx, 3)) (ht : t < 65) (hk : gg_kd t = c0) (hf : gg_FP own idx c0 j) (hfk : gg_fk c0 j = 0) (hn1 : narrow (gg_ft c0 j) (.int x) = .int x) (hft : fits (gg_ft c0 j) (.int x) = true) (k : G (pc + 3) L st (gg_wI u t j x)) : G pc L (.int x :: .ref t :: st) u := by
  obtain ⟨p, l, e, R, s, m, args, below, meth, c, D, ca, ad, A, cells, slots, Q, ⟨hx, hb, hml, hown, hts, hR, hK, hS0, hI, hA, hN, hX, hE⟩, rfl⟩ := hG
  intro H locs ls hP hS hl
  obtain ⟨q, hq, hj, hw, hfin⟩ := hf
  obtain ⟨hc0, hn, hin, hty, hnm⟩ := gg_clsF hq
  subst hk
  have hj2 : j < gg_nf (gg_kd t) := hn ▸ hj
  refine va_put hx hb (C := q.1) (T := q.2.1) (N := q.2.2) hts hin (gg_ft (gg_kd t)) hty hnm hown hK.v0 hP (gg_va_D hI hA) hS t (by rw [gg_ws_at ht, gg_ce_o rfl hc0]) hq j hj (hts _ hw) (fun _ z => z) hfin (hty j hj) hn1 hft (by rw [gg_fs_len]; exact hj2) hd (fun H1 locs1 hP1 _ hS1 => ?_)
  rw [gg_ws_set ht (u' := gg_wI u t j x) (by rw [gg_ce_o rfl hc0, ← gg_fs_set (v := .int x) hj2 (by rw [gg_fv_wI hfk]; rfl) (fun a ha => gg_fv_wIn ha)]; rfl) (fun a ha => gg_ce_wA a ha)] at hP1
  exact k H1 locs1 ls hP1 hS1 hl
theorem gg_putL (hG : gg_Cl X cc nL own rt h E G) {t c0 j idx : Nat} {x : Int64} (hd : decode cc pc = .ok (.putfield idx, 3)) (ht : t < 65) (hk : gg_kd t = c0) (hf : gg_FP own idx c0 j) (hfk : gg_fk c0 j = 1) (hn1 : narrow (gg_ft c0 j) (.long x) = .long x) (hft : fits (gg_ft c0 j) (.long x) = true) (k : G (pc + 3) L st (gg_wL u t j x)) : G pc L (.long x :: .ref t :: st) u := by
  obtain ⟨p, l, e, R, s, m, args, below, meth, c, D, ca, ad, A, cells, slots, Q, ⟨hx, hb, hml, hown, hts, hR, hK, hS0, hI, hA, hN, hX, hE⟩, rfl⟩ := hG
  intro H locs ls hP hS hl
  obtain ⟨q, hq, hj, hw, hfin⟩ := hf
  obtain ⟨hc0, hn, hin, hty, hnm⟩ := gg_clsF hq
  subst hk
  have hj2 : j < gg_nf (gg_kd t) := hn ▸ hj
  refine va_put hx hb (C := q.1) (T := q.2.1) (N := q.2.2) hts hin (gg_ft (gg_kd t)) hty hnm hown hK.v0 hP (gg_va_D hI hA) hS t (by rw [gg_ws_at ht, gg_ce_o rfl hc0]) hq j hj (hts _ hw) (fun _ z => z) hfin (hty j hj) hn1 hft (by rw [gg_fs_len]; exact hj2) hd (fun H1 locs1 hP1 _ hS1 => ?_)
  rw [gg_ws_set ht (u' := gg_wL u t j x) (by rw [gg_ce_o rfl hc0, ← gg_fs_set (v := .long x) hj2 (by rw [gg_fv_wL hfk]; rfl) (fun a ha => gg_fv_wLn ha)]; rfl) (fun a ha => gg_ce_wB a ha)] at hP1
  exact k H1 locs1 ls hP1 hS1 hl
theorem gg_iald (hG : gg_Cl X cc nL own rt h E G) {t j : Nat} {i : Int32} (hd : decode cc pc = .ok (.iaload, 1)) (ht : t < 65) (hk : gg_kd t = 20) (hi : vp_in i (gg_al t)) (hj : i.toNatClampNeg = j) (k : G (pc + 1) L (.int (u.1 t j) :: st) u) : G pc L (.int i :: .ref t :: st) u := by
  obtain ⟨p, l, e, R, s, m, args, below, meth, c, D, ca, ad, A, cells, slots, Q, ⟨hx, hb, hml, hown, hts, hR, hK, hS0, hI, hA, hN, hX, hE⟩, rfl⟩ := hG
  intro H locs ls hP hS hl
  subst hj
  have hKt := hK.va ht (by omega)
  rw [hk] at hKt
  exact va_iald hx hb hKt hP t 0 (by rw [gg_ws_at ht, gg_ce_i (Or.inl hk)]) rfl hi hd (k H locs ls hP hS hl)
theorem gg_zald (hG : gg_Cl X cc nL own rt h E G) {t j : Nat} {i : Int32} (hd : decode cc pc = .ok (.baload, 1)) (ht : t < 65) (hk : gg_kd t = 22) (hi : vp_in i (gg_al t)) (hj : i.toNatClampNeg = j) (k : G (pc + 1) L (.int (u.1 t j) :: st) u) : G pc L (.int i :: .ref t :: st) u := by
  obtain ⟨p, l, e, R, s, m, args, below, meth, c, D, ca, ad, A, cells, slots, Q, ⟨hx, hb, hml, hown, hts, hR, hK, hS0, hI, hA, hN, hX, hE⟩, rfl⟩ := hG
  intro H locs ls hP hS hl
  subst hj
  have hKt := hK.va ht (by omega)
  rw [hk] at hKt
  exact va_zald hx hb hKt hP t 0 (by rw [gg_ws_at ht, gg_ce_i (Or.inr hk)]) rfl hi hd (k H locs ls hP hS hl)
theorem gg_lald (hG : gg_Cl X cc nL own rt h E G) {t j : Nat} {i : Int32} (hd : decode cc pc = .ok (.laload, 1)) (ht : t < 65) (hk : gg_kd t = 21) (hi : vp_in i (gg_al t)) (hj : i.toNatClampNeg = j) (k : G (pc + 1) L (.long (u.2 t j) :: st) u) : G pc L (.int i :: .ref t :: st) u := by
  obtain ⟨p, l, e, R, s, m, args, below, meth, c, D, ca, ad, A, cells, slots, Q, ⟨hx, hb, hml, hown, hts, hR, hK, hS0, hI, hA, hN, hX, hE⟩, rfl⟩ := hG
  intro H locs ls hP hS hl
  subst hj
  have hKt := hK.va ht (by omega)
  rw [hk] at hKt
  exact va_lald hx hb hKt hP t 0 (by rw [gg_ws_at ht, gg_ce_l hk]) rfl hi hd (k H locs ls hP hS hl)
theorem gg_iast (hG : gg_Cl X cc nL own rt h E G) {t j : Nat} {i x : Int32} (hd : decode cc pc = .ok (.iastore, 1)) (ht : t < 65) (hk : gg_kd t = 20) (hi : vp_in i (gg_al t)) (hj : i.toNatClampNeg = j) (k : G (pc + 1) L st (gg_wI u t j x)) : G pc L (.int x :: .int i :: .ref t :: st) u := by
  obtain ⟨p, l, e, R, s, m, args, below, meth, c, D, ca, ad, A, cells, slots, Q, ⟨hx, hb, hml, hown, hts, hR, hK, hS0, hI, hA, hN, hX, hE⟩, rfl⟩ := hG
  intro H locs ls hP hS hl
  subst hj
  have hKt := hK.va ht (by omega)
  rw [hk] at hKt
  refine va_iast hx hb hKt hP (gg_va_D hI hA) hS t 0 (by rw [gg_ws_at ht, gg_ce_i (Or.inl hk)]) rfl hi hd (fun H1 locs1 hP1 _ hS1 => ?_)
  rw [gg_ws_set ht (u' := gg_wI u t i.toNatClampNeg x) (by rw [gg_ce_i (Or.inl hk)]; exact congrArg (fun f => Sum.inl (ca t, gg_al t, Sum.inl f)) (gg_wA_1 u t _)) (fun a ha => gg_ce_wA a ha)] at hP1
  exact k H1 locs1 ls hP1 hS1 hl
theorem gg_zast (hG : gg_Cl X cc nL own rt h E G) {t j : Nat} {i x : Int32} (hd : decode cc pc = .ok (.bastore, 1)) (ht : t < 65) (hk : gg_kd t = 22) (hi : vp_in i (gg_al t)) (hj : i.toNatClampNeg = j) (k : G (pc + 1) L st (gg_wI u t j (vp_nar .boolean x))) : G pc L (.int x :: .int i :: .ref t :: st) u := by
  obtain ⟨p, l, e, R, s, m, args, below, meth, c, D, ca, ad, A, cells, slots, Q, ⟨hx, hb, hml, hown, hts, hR, hK, hS0, hI, hA, hN, hX, hE⟩, rfl⟩ := hG
  intro H locs ls hP hS hl
  subst hj
  have hKt := hK.va ht (by omega)
  rw [hk] at hKt
  refine va_zast hx hb hKt hP (gg_va_D hI hA) hS t 0 (by rw [gg_ws_at ht, gg_ce_i (Or.inr hk)]) rfl hi hd (fun H1 locs1 hP1 _ hS1 => ?_)
  rw [gg_ws_set ht (u' := gg_wI u t i.toNatClampNeg (vp_nar .boolean x)) (by rw [gg_ce_i (Or.inr hk)]; exact congrArg (fun f => Sum.inl (ca t, gg_al t, Sum.inl f)) (gg_wA_1 u t _)) (fun a ha => gg_ce_wA a ha)] at hP1
  exact k H1 locs1 ls hP1 hS1 hl
theorem gg_last (hG : gg_Cl X cc nL own rt h E G) {t j : Nat} {i : Int32} {x : Int64} (hd : decode cc pc = .ok (.lastore, 1)) (ht : t < 65) (hk : gg_kd t = 21) (hi : vp_in i (gg_al t)) (hj : i.toNatClampNeg = j) (k : G (pc + 1) L st (gg_wL u t j x)) : G pc L (.long x :: .int i :: .ref t :: st) u := by
  obtain ⟨p, l, e, R, s, m, args, below, meth, c, D, ca, ad, A, cells, slots, Q, ⟨hx, hb, hml, hown, hts, hR, hK, hS0, hI, hA, hN, hX, hE⟩, rfl⟩ := hG
  intro H locs ls hP hS hl
  subst hj
  have hKt := hK.va ht (by omega)
  rw [hk] at hKt
  refine va_last hx hb hKt hP (gg_va_D hI hA) hS t 0 (by rw [gg_ws_at ht, gg_ce_l hk]) rfl hi hd (fun H1 locs1 hP1 _ hS1 => ?_)
  rw [gg_ws_set ht (u' := gg_wL u t i.toNatClampNeg x) (by rw [gg_ce_l hk]; exact congrArg (fun f => Sum.inl (ca t, gg_al t, Sum.inr (Sum.inl f))) (gg_wB_1 u t _)) (fun a ha => gg_ce_wB a ha)] at hP1
  exact k H1 locs1 ls hP1 hS1 hl
theorem gg_aald (hG : gg_Cl X cc nL own rt h E G) {t r j : Nat} {i : Int32} (hd : decode cc pc = .ok (.aaload, 1)) (ht : t < 65) (hk : gg_kd t = 23 ∨ gg_kd t = 24) (hi : vp_in i (gg_al t)) (hj : i.toNatClampNeg = j) (hr : gg_rf t j = r) (k : G (pc + 1) L (.ref r :: st) u) : G pc L (.int i :: .ref t :: st) u := by
  obtain ⟨p, l, e, R, s, m, args, below, meth, c, D, ca, ad, A, cells, slots, Q, ⟨hx, hb, hml, hown, hts, hR, hK, hS0, hI, hA, hN, hX, hE⟩, rfl⟩ := hG
  intro H locs ls hP hS hl
  subst hj
  have hKt := (hK.2 t ht (by omega)).1
  have hlt : i.toNatClampNeg < gg_al t := Nat.not_le.mp fun q => hi (Or.inr q)
  have hc := hP t _ (gg_ws_at ht)
  rw [gg_ce_r hk] at hc
  subst hr
  exact W.aald (v := .ref (ad (gg_rf t i.toNatClampNeg))) (ty := gg_ty (gg_kd t)) hx hb hc (hKt (gg_al t) (fun j => va_rf (some (ad (gg_rf t j))))) (by rcases hk with q | q <;> rw [q] <;> rfl) (fun q => by cases q) (by show ¬ (i < 0 ∨ (arrV _ _ _).slots.size ≤ _); rw [arrV_size]; exact hi) (by show (arrV _ _ _).slots[_]? = _; rw [arrV_read _ _ hlt]; rfl) rfl rfl hd (k H locs ls hP hS hl)
theorem gg_alen (hG : gg_Cl X cc nL own rt h E G) {t : Nat} {v : Int32} (hd : decode cc pc = .ok (.arraylength, 1)) (ht : t < 65) (hk : gg_kd t = 20) (hv : Int32.ofNat (gg_al t) = v) (k : G (pc + 1) L (.int v :: st) u) : G pc L (.ref t :: st) u := by
  obtain ⟨p, l, e, R, s, m, args, below, meth, c, D, ca, ad, A, cells, slots, Q, ⟨hx, hb, hml, hown, hts, hR, hK, hS0, hI, hA, hN, hX, hE⟩, rfl⟩ := hG
  intro H locs ls hP hS hl
  have hKt := hK.va ht (by omega)
  rw [hk] at hKt
  exact va_alen hx hb hKt hP t 0 (by rw [gg_ws_at ht, gg_ce_i (Or.inl hk)]) rfl hv hd (k H locs ls hP hS hl)
theorem gg_gets (hG : gg_Cl X cc nL own rt h E G) {k0 idx : Nat} (hd : decode cc pc = .ok (.getstatic idx, 3)) (hk : k0 < 5) (hw : Cond.fieldLink own idx (gg_sn k0).1 (gg_sn k0).2.1 (gg_sn k0).2.2 ∈ gg_tG) (k : G (pc + 3) L (.ref (100 + k0) :: st) u) : G pc L st u := by
  obtain ⟨p, l, e, R, s, m, args, below, meth, c, D, ca, ad, A, cells, slots, Q, ⟨hx, hb, hml, hown, hts, hR, hK, hS0, hI, hA, hN, hX, hE⟩, rfl⟩ := hG
  intro H locs ls hP hS hl
  exact va_gets hx hb (hS0 k0 hk).1 hS hown (hts _ hw) (fun _ z => z) hd (k H locs ls hP hS hl)
theorem gg_ti (hG : gg_Cl X cc nL own rt h E G) {k0 j : Nat} {i : Int32} (hd : decode cc pc = .ok (.iaload, 1)) (hk : k0 < 5) (hty : gg_st k0 = .int) (hi : vp_in i (gg_sl k0)) (hj : i.toNatClampNeg = j) (k : G (pc + 1) L (.int (gg_sv k0 j) :: st) u) : G pc L (.int i :: .ref (100 + k0) :: st) u := by
  obtain ⟨p, l, e, R, s, m, args, below, meth, c, D, ca, ad, A, cells, slots, Q, ⟨hx, hb, hml, hown, hts, hR, hK, hS0, hI, hA, hN, hX, hE⟩, rfl⟩ := hG
  intro H locs ls hP hS hl
  subst hj
  have hT := (hS0 k0 hk).2
  rw [hty] at hT
  exact va_ti hx hb hT hS hi rfl hd (k H locs ls hP hS hl)
theorem gg_tc (hG : gg_Cl X cc nL own rt h E G) {k0 j : Nat} {i : Int32} (hd : decode cc pc = .ok (.caload, 1)) (hk : k0 < 5) (hty : gg_st k0 = .char) (hi : vp_in i (gg_sl k0)) (hj : i.toNatClampNeg = j) (k : G (pc + 1) L (.int (gg_sv k0 j) :: st) u) : G pc L (.int i :: .ref (100 + k0) :: st) u := by
  obtain ⟨p, l, e, R, s, m, args, below, meth, c, D, ca, ad, A, cells, slots, Q, ⟨hx, hb, hml, hown, hts, hR, hK, hS0, hI, hA, hN, hX, hE⟩, rfl⟩ := hG
  intro H locs ls hP hS hl
  subst hj
  have hT := (hS0 k0 hk).2
  rw [hty] at hT
  exact va_tc hx hb hT hS hi rfl hd (k H locs ls hP hS hl)
theorem gg_tlen (hG : gg_Cl X cc nL own rt h E G) {k0 : Nat} {v : Int32} (hd : decode cc pc = .ok (.arraylength, 1)) (hk : k0 < 5) (hv : Int32.ofNat (gg_sl k0) = v) (k : G (pc + 1) L (.int v :: st) u) : G pc L (.ref (100 + k0) :: st) u := by
  obtain ⟨p, l, e, R, s, m, args, below, meth, c, D, ca, ad, A, cells, slots, Q, ⟨hx, hb, hml, hown, hts, hR, hK, hS0, hI, hA, hN, hX, hE⟩, rfl⟩ := hG
  intro H locs ls hP hS hl
  exact va_tlen hx hb (hS0 k0 hk).2 hS hv hd (k H locs ls hP hS hl)
theorem gg_sld (hG : gg_Cl X cc nL own rt h E G) {N j : Nat} {xs : Nat → Int32} {i : Int32} (hd : decode cc pc = .ok (.iaload, 1)) (hq : X = some (N, xs)) (hi : vp_in i N) (hj : i.toNatClampNeg = j) (k : G (pc + 1) L (.int (xs j) :: st) u) : G pc L (.int i :: .ref 110 :: st) u := by
  obtain ⟨p, l, e, R, s, m, args, below, meth, c, D, ca, ad, A, cells, slots, Q, ⟨hx, hb, hml, hown, hts, hR, hK, hS0, hI, hA, hN, hX, hE⟩, rfl⟩ := hG
  intro H locs ls hP hS hl
  subst hj
  exact va_ti hx hb (hX N xs hq) hS hi rfl hd (k H locs ls hP hS hl)
theorem gg_slen (hG : gg_Cl X cc nL own rt h E G) {N : Nat} {xs : Nat → Int32} {v : Int32} (hd : decode cc pc = .ok (.arraylength, 1)) (hq : X = some (N, xs)) (hv : Int32.ofNat N = v) (k : G (pc + 1) L (.int v :: st) u) : G pc L (.ref 110 :: st) u := by
  obtain ⟨p, l, e, R, s, m, args, below, meth, c, D, ca, ad, A, cells, slots, Q, ⟨hx, hb, hml, hown, hts, hR, hK, hS0, hI, hA, hN, hX, hE⟩, rfl⟩ := hG
  intro H locs ls hP hS hl
  exact va_tlen hx hb (hX N xs hq) hS hv hd (k H locs ls hP hS hl)
theorem gg_copy (hG : gg_Cl X cc nL own rt h E G) {t0 t1 : Nat} {sp dp n : Int32} {idx : Nat} (hd : decode cc pc = .ok (.invokestatic idx, 3)) (h0 : t0 < 65) (h1 : t1 < 65) (k0 : gg_kd t0 = 20) (k1 : gg_kd t1 = 20) (hw : Cond.methodLink own idx arraycopyName ∈ gg_tG) (w2 : Cond.native arraycopyName ∈ gg_tG) (w3 : Cond.static arraycopyName ∈ gg_tG) (w4 : Cond.initialized "java/lang/System" ∈ gg_tG) (q1 : ¬ sp < 0) (q2 : ¬ dp < 0) (q3 : ¬ n < 0) (q4 : sp.toNatClampNeg + n.toNatClampNeg ≤ gg_al t0) (q5 : dp.toNatClampNeg + n.toNatClampNeg ≤ gg_al t1) (hh : 2 ≤ h) (hst : st = []) (k : G (pc + 3) L st (gg_wA u t1 (va_cpy (u.1 t0) (u.1 t1) sp.toNatClampNeg dp.toNatClampNeg n.toNatClampNeg))) : G pc L (.int n :: .int dp :: .ref t1 :: .int sp :: .ref t0 :: st) u := by
  obtain ⟨p, l, e, R, s, m, args, below, meth, c, D, ca, ad, A, cells, slots, Q, ⟨hx, hb, hml, hown, hts, hR, hK, hS0, hI, hA, hN, hX, hE⟩, rfl⟩ := hG
  intro H locs ls hP hS hl
  subst hst
  have a0 := hK.2 t0 h0 (by omega)
  have a1 := hK.2 t1 h1 (by omega)
  rw [k0] at a0
  rw [k1] at a1
  have hK2 : va_K D gg_cls [(ca t0, .int), (ca t1, .int)] s := ⟨hK.1, fun k q hq => by
    match k, hq with
    | 0, hq => cases hq; exact a0
    | 1, hq => cases hq; exact a1
    | k + 2, hq => simp at hq⟩
  refine va_copyi hx hb (hml.trans hl.2.1.symm) hown (hts _ hw) (hts _ w2) (hts _ w3) (hts _ w4) hK2 hP (gg_va_D hI hA) hS t0 t1 0 1 (by rw [gg_ws_at h0, gg_ce_i (Or.inl k0)]) (by rw [gg_ws_at h1, gg_ce_i (Or.inl k1)]) rfl rfl rfl q1 q2 q3 q4 q5 (fun _ _ => rfl) (Nat.le_trans (Nat.le_trans (by decide) hh) hR.1) (Nat.le_trans (show 0 + (nativeFrameWords "java/lang/System" "arraycopy" 5 + 11) ≤ 64 * 2 by decide +kernel) (Nat.le_trans (Nat.mul_le_mul_left 64 hh) hR.2.1)) hd (fun H1 locs1 hP1 _ hS1 => ?_)
  rw [gg_ws_set h1 (u' := gg_wA u t1 (va_cpy (u.1 t0) (u.1 t1) sp.toNatClampNeg dp.toNatClampNeg n.toNatClampNeg)) (by rw [gg_ce_i (Or.inl k1), gg_wA_1]) (fun a ha => gg_ce_wA a ha)] at hP1
  exact k H1 locs1 ls hP1 hS1 hl
theorem gg_iret (hG : gg_Cl X cc nL own rt h E G) {x : Int32} {ty : FieldType} (hd : decode cc pc = .ok (.ireturn, 1)) (hr : rt = some ty) (hn : narrow ty (.int x) = .int x) (k : E (some (.int x)) u) : G pc L [.int x] u := by
  obtain ⟨p, l, e, R, s, m, args, below, meth, c, D, ca, ad, A, cells, slots, Q, ⟨hx, hb, hml, hown, hts, hR, hK, hS0, hI, hA, hN, hX, hE⟩, rfl⟩ := hG
  intro H locs ls hP hS hl
  exact hE H locs ls pc (some (.int x)) u hP hS k ⟨⟨ty, hr, hn⟩, hd⟩
theorem gg_lret (hG : gg_Cl X cc nL own rt h E G) {x : Int64} (hd : decode cc pc = .ok (.lreturn, 1)) (hr : rt = some .long) (k : E (some (.long x)) u) : G pc L [.long x] u := by
  obtain ⟨p, l, e, R, s, m, args, below, meth, c, D, ca, ad, A, cells, slots, Q, ⟨hx, hb, hml, hown, hts, hR, hK, hS0, hI, hA, hN, hX, hE⟩, rfl⟩ := hG
  intro H locs ls hP hS hl
  exact hE H locs ls pc (some (.long x)) u hP hS k ⟨hr, hd⟩
theorem gg_aret (hG : gg_Cl X cc nL own rt h E G) {t : Nat} {n : String} (hd : decode cc pc = .ok (.areturn, 1)) (hr : rt = some (.object n)) (k : E (some (.ref t)) u) : G pc L [.ref t] u := by
  obtain ⟨p, l, e, R, s, m, args, below, meth, c, D, ca, ad, A, cells, slots, Q, ⟨hx, hb, hml, hown, hts, hR, hK, hS0, hI, hA, hN, hX, hE⟩, rfl⟩ := hG
  intro H locs ls hP hS hl
  exact hE H locs ls pc (some (.ref t)) u hP hS k ⟨⟨n, hr⟩, hd⟩
theorem gg_vret (hG : gg_Cl X cc nL own rt h E G)  (hd : decode cc pc = .ok (.return_, 1)) (hr : rt = none) (k : E none u) : G pc L [] u := by
  obtain ⟨p, l, e, R, s, m, args, below, meth, c, D, ca, ad, A, cells, slots, Q, ⟨hx, hb, hml, hown, hts, hR, hK, hS0, hI, hA, hN, hX, hE⟩, rfl⟩ := hG
  intro H locs ls hP hS hl
  exact hE H locs ls pc none u hP hS k ⟨hr, hd⟩
theorem gg_xv (hG : gg_Cl X cc nL own rt h E G) {idx nLy n h1 : Nat} {y : MethodName} {cy : ByteArray} {rt1 : Option FieldType} {As sk : List Value} {E1 : Option Value → gg_M → Prop} {t : Nat} (hd : decode cc pc = .ok (.invokevirtual idx, 3)) (hw : Cond.methodLink own idx y ∈ gg_tG) (hY : gg_Y y cy nLy rt1 n) (hV : gg_YV y) (ht : t < 65) (hk : ∃ q, gg_cls[gg_kd t]? = some q ∧ q.1 = y.cls) (hM : gg_Mt h1 y cy nLy rt1 (.ref t :: As) u E1) (hn : As.length = n) (hh : h1 < h) (hc : (st.map fun v => v.category).sum ≤ 8) (hs : sk = As.reverse ++ .ref t :: st) (k : ∀ v u1, E1 v u1 → G (pc + 3) L (v.toList ++ st) u1) : G pc L sk u := by
  obtain ⟨p, l, e, R, s, m, args, below, meth, c, D, ca, ad, A, cells, slots, Q, ⟨hx, hb, hml, hown, hts, hR, hK, hS0, hI, hA, hN, hX, hE⟩, rfl⟩ := hG
  intro H locs ls hP hS hl
  have hAq : ∀ q, gg_AS ad q → A q := fun q hq => by obtain ⟨k, hk, rfl⟩ := hq; exact hA k hk
  have hws : ∀ w ∈ (Cond.code y cy nLy rt1 :: gg_tG), w ∈ gg_tG ∧ ((w.onTables && w.keeps) = true ∨ ∃ ty, w = .arrayClass ty) := fun w hw => by
    have hw2 : w ∈ gg_tG := (List.mem_cons.mp hw).elim (fun e => e ▸ hY.1) id
    exact ⟨hw2, good_of_word (List.mem_filter.mp hw2).2⟩
  have hU : ∀ U : State, U.heap = H → s.WarmedH U.vm → gg_Wd D ca ad u U := fun U hUh hUW => by
    refine ⟨by rw [hUh]; exact hP, hK.moved hUW.alike, ?_, hI, hN.warm hUW⟩
    rw [hUh]
    exact ((hS0.kept (fun a h1 h2 => hS.2.1 a h1 h2)).moved hUW.alike).narrow hAq
  have hcat : ((st.map (gg_cv ad)).map fun v => v.category).sum ≤ 8 := by
    rw [List.map_map]
    exact Nat.le_trans (Nat.le_of_eq (congrArg List.sum (List.map_congr_left (fun v _ => gg_cat ad v)))) hc
  subst hs
  obtain ⟨q, hq, hqc⟩ := hk
  have hcl := gg_clsF hq
  have hrec := va_recv hK.v0 hP (ci := gg_kd t) (q0 := t) hq (by rw [gg_ws_at ht, gg_ce_o rfl hcl.1])
  rw [hqc] at hrec
  have hroom : (gg_rm h1).frames + 1 ≤ R.frames ∧ 8 + (nLy + 11) + (gg_rm h1).locals ≤ R.locals := ⟨Nat.le_trans hh hR.1, Nat.le_trans (by show 8 + (nLy + 11) + 64 * h1 ≤ 64 * h; have := hY.2.2.2.2; omega) hR.2.1⟩
  refine gg_calld (va_runV (As := As.map (gg_cv ad)) (rest := st.map (gg_cv ad)) (b := ad t) (C := y.cls) (n := n) (Ts := gg_tG) ⟨hx, hb, hml, hown, hts⟩ (hM l D ca ad) ⟨⟨rfl, rfl, hroom.1, hroom.2, pay_in hts hws, List.mem_cons_self, hts _ hY.1, hts _ hY.2.1, ⟨hY.2.2.1.1, hY.2.2.1.2⟩, fun sig hsg => hY.2.2.2.1 sig hsg, hts _ hw⟩, hts _ hV.1, hts _ hV.2⟩ ⟨gg_blind D ca ad u (.ref t :: As), hrec, fun U h1 h2 => ⟨rfl, hU U h1 h2⟩⟩ rfl (by rw [List.length_map]; exact hn) hl.2.1 (by simp [gg_cv, List.map_reverse]) (lv_room hcat) hd ⟨hR.2.2.1, hR.2.2.2⟩) hS hAq (fun v u1 H1 locs1 hE1 hP1 hS1 => ?_)
  have hk := k v u1 hE1 H1 locs1 ls hP1 hS1 hl
  rwa [List.map_append, show v.toList.map (gg_cv ad) = (v.map (gg_cv ad)).toList by cases v <;> rfl] at hk
theorem gg_xvN (hG : gg_Cl X cc nL own rt h E G) {idx nLy n h1 : Nat} {y : MethodName} {cy : ByteArray} {rt1 : Option FieldType} {As sk : List Value} {E1 : Option Value → gg_M → Prop} {t : Nat} (hd : decode cc pc = .ok (.invokevirtual idx, 3)) (hw : (own, idx, y, RX10) ∈ gg_nw) (hY : gg_Y y cy nLy rt1 n) (hV : gg_YV y) (ht : t < 65) (hk : ∃ q, gg_cls[gg_kd t]? = some q ∧ q.1 = y.cls) (hM : gg_Mt h1 y cy nLy rt1 (.ref t :: As) u E1) (hn : As.length = n) (hh : h1 < h) (hc : (st.map fun v => v.category).sum ≤ 8) (hs : sk = As.reverse ++ .ref t :: st) (k : ∀ v u1, E1 v u1 → G (pc + 3) L (v.toList ++ st) u1) : G pc L sk u := by
  obtain ⟨p, l, e, R, s, m, args, below, meth, c, D, ca, ad, A, cells, slots, Q, ⟨hx, hb, hml, hown, hts, hR, hK, hS0, hI, hA, hN, hX, hE⟩, rfl⟩ := hG
  intro H locs ls hP hS hl
  have hAq : ∀ q, gg_AS ad q → A q := fun q hq => by obtain ⟨k, hk, rfl⟩ := hq; exact hA k hk
  have hws : ∀ w ∈ (Cond.code y cy nLy rt1 :: gg_tG), w ∈ gg_tG ∧ ((w.onTables && w.keeps) = true ∨ ∃ ty, w = .arrayClass ty) := fun w hw => by
    have hw2 : w ∈ gg_tG := (List.mem_cons.mp hw).elim (fun e => e ▸ hY.1) id
    exact ⟨hw2, good_of_word (List.mem_filter.mp hw2).2⟩
  have hU : ∀ U : State, U.heap = H → s.WarmedH U.vm → gg_Wd D ca ad u U := fun U hUh hUW => by
    refine ⟨by rw [hUh]; exact hP, hK.moved hUW.alike, ?_, hI, hN.warm hUW⟩
    rw [hUh]
    exact ((hS0.kept (fun a h1 h2 => hS.2.1 a h1 h2)).moved hUW.alike).narrow hAq
  have hcat : ((st.map (gg_cv ad)).map fun v => v.category).sum ≤ 8 := by
    rw [List.map_map]
    exact Nat.le_trans (Nat.le_of_eq (congrArg List.sum (List.map_congr_left (fun v _ => gg_cat ad v)))) hc
  subst hs
  obtain ⟨q, hq, hqc⟩ := hk
  have hcl := gg_clsF hq
  have hrec := va_recv hK.v0 hP (ci := gg_kd t) (q0 := t) hq (by rw [gg_ws_at ht, gg_ce_o rfl hcl.1])
  rw [hqc] at hrec
  have hroom : (gg_rm h1).frames + 1 ≤ R.frames ∧ 8 + (nLy + 11) + (gg_rm h1).locals ≤ R.locals := ⟨Nat.le_trans hh hR.1, Nat.le_trans (by show 8 + (nLy + 11) + 64 * h1 ≤ 64 * h; have := hY.2.2.2.2; omega) hR.2.1⟩
  refine gg_calld (va_runVN (As := As.map (gg_cv ad)) (rest := st.map (gg_cv ad)) (b := ad t) (C := y.cls) (n := n) (Ts := gg_tG) (host := RX10) ⟨hx, hb, hml, hown, hts⟩ (hM l D ca ad) ⟨⟨⟨rfl, rfl, hroom.1, hroom.2, pay_in hts hws, List.mem_cons_self⟩, hts _ hY.1, hts _ hY.2.1, ⟨hY.2.2.1.1, hY.2.2.1.2⟩, fun sig hsg => hY.2.2.2.1 sig hsg, va_Nw.use rfl (hN _ hw)⟩, hts _ hV.1, hts _ hV.2⟩ ⟨gg_blind D ca ad u (.ref t :: As), hrec, fun U h1 h2 => ⟨rfl, hU U h1 h2⟩⟩ rfl (by rw [List.length_map]; exact hn) hl.2.1 (by simp [gg_cv, List.map_reverse]) (lv_room hcat) hd ⟨hR.2.2.1, hR.2.2.2⟩) hS hAq (fun v u1 H1 locs1 hE1 hP1 hS1 => ?_)
  have hk := k v u1 hE1 H1 locs1 ls hP1 hS1 hl
  rwa [List.map_append, show v.toList.map (gg_cv ad) = (v.map (gg_cv ad)).toList by cases v <;> rfl] at hk
theorem gg_xs (hG : gg_Cl X cc nL own rt h E G) {idx nLy n h1 : Nat} {y : MethodName} {cy : ByteArray} {rt1 : Option FieldType} {As sk : List Value} {E1 : Option Value → gg_M → Prop}  (hd : decode cc pc = .ok (.invokestatic idx, 3)) (hw : Cond.methodLink own idx y ∈ gg_tG) (hY : gg_Y y cy nLy rt1 n) (hV : Cond.static y ∈ gg_tG) (hM : gg_Mt h1 y cy nLy rt1 As u E1) (hn : As.length = n) (hh : h1 < h) (hc : (st.map fun v => v.category).sum ≤ 8) (hs : sk = As.reverse ++ st) (k : ∀ v u1, E1 v u1 → G (pc + 3) L (v.toList ++ st) u1) : G pc L sk u := by
  obtain ⟨p, l, e, R, s, m, args, below, meth, c, D, ca, ad, A, cells, slots, Q, ⟨hx, hb, hml, hown, hts, hR, hK, hS0, hI, hA, hN, hX, hE⟩, rfl⟩ := hG
  intro H locs ls hP hS hl
  have hAq : ∀ q, gg_AS ad q → A q := fun q hq => by obtain ⟨k, hk, rfl⟩ := hq; exact hA k hk
  have hws : ∀ w ∈ (Cond.code y cy nLy rt1 :: gg_tG), w ∈ gg_tG ∧ ((w.onTables && w.keeps) = true ∨ ∃ ty, w = .arrayClass ty) := fun w hw => by
    have hw2 : w ∈ gg_tG := (List.mem_cons.mp hw).elim (fun e => e ▸ hY.1) id
    exact ⟨hw2, good_of_word (List.mem_filter.mp hw2).2⟩
  have hU : ∀ U : State, U.heap = H → s.WarmedH U.vm → gg_Wd D ca ad u U := fun U hUh hUW => by
    refine ⟨by rw [hUh]; exact hP, hK.moved hUW.alike, ?_, hI, hN.warm hUW⟩
    rw [hUh]
    exact ((hS0.kept (fun a h1 h2 => hS.2.1 a h1 h2)).moved hUW.alike).narrow hAq
  have hcat : ((st.map (gg_cv ad)).map fun v => v.category).sum ≤ 8 := by
    rw [List.map_map]
    exact Nat.le_trans (Nat.le_of_eq (congrArg List.sum (List.map_congr_left (fun v _ => gg_cat ad v)))) hc
  subst hs
  have hroom : (gg_rm h1).frames + 1 ≤ R.frames ∧ 8 + (nLy + 11) + (gg_rm h1).locals ≤ R.locals := ⟨Nat.le_trans hh hR.1, Nat.le_trans (by show 8 + (nLy + 11) + 64 * h1 ≤ 64 * h; have := hY.2.2.2.2; omega) hR.2.1⟩
  refine gg_calld (va_runS (As := As.map (gg_cv ad)) (rest := st.map (gg_cv ad)) (n := n) (Ts := gg_tG) ⟨hx, hb, hml, hown, hts⟩ (hM l D ca ad) ⟨⟨rfl, rfl, hroom.1, hroom.2, pay_in hts hws, List.mem_cons_self, hts _ hY.1, hts _ hY.2.1, ⟨hY.2.2.1.1, hY.2.2.1.2⟩, fun sig hsg => hY.2.2.2.1 sig hsg, hts _ hw⟩, hts _ hV⟩ ⟨gg_blind D ca ad u As, fun U h1 h2 => ⟨rfl, hU U h1 h2⟩⟩ rfl (by rw [List.length_map]; exact hn) hl.2.1 (by simp [List.map_reverse]) (lv_room hcat) hd ⟨hR.2.2.1, hR.2.2.2⟩) hS hAq (fun v u1 H1 locs1 hE1 hP1 hS1 => ?_)
  have hk := k v u1 hE1 H1 locs1 ls hP1 hS1 hl
  rwa [List.map_append, show v.toList.map (gg_cv ad) = (v.map (gg_cv ad)).toList by cases v <;> rfl] at hk
theorem gg_xsN (hG : gg_Cl X cc nL own rt h E G) {idx nLy n h1 : Nat} {y : MethodName} {cy : ByteArray} {rt1 : Option FieldType} {As sk : List Value} {E1 : Option Value → gg_M → Prop}  (hd : decode cc pc = .ok (.invokestatic idx, 3)) (hw : (own, idx, y, RX10) ∈ gg_nw) (hY : gg_Y y cy nLy rt1 n) (hV : Cond.static y ∈ gg_tG) (hM : gg_Mt h1 y cy nLy rt1 As u E1) (hn : As.length = n) (hh : h1 < h) (hc : (st.map fun v => v.category).sum ≤ 8) (hs : sk = As.reverse ++ st) (k : ∀ v u1, E1 v u1 → G (pc + 3) L (v.toList ++ st) u1) : G pc L sk u := by
  obtain ⟨p, l, e, R, s, m, args, below, meth, c, D, ca, ad, A, cells, slots, Q, ⟨hx, hb, hml, hown, hts, hR, hK, hS0, hI, hA, hN, hX, hE⟩, rfl⟩ := hG
  intro H locs ls hP hS hl
  have hAq : ∀ q, gg_AS ad q → A q := fun q hq => by obtain ⟨k, hk, rfl⟩ := hq; exact hA k hk
  have hws : ∀ w ∈ (Cond.code y cy nLy rt1 :: gg_tG), w ∈ gg_tG ∧ ((w.onTables && w.keeps) = true ∨ ∃ ty, w = .arrayClass ty) := fun w hw => by
    have hw2 : w ∈ gg_tG := (List.mem_cons.mp hw).elim (fun e => e ▸ hY.1) id
    exact ⟨hw2, good_of_word (List.mem_filter.mp hw2).2⟩
  have hU : ∀ U : State, U.heap = H → s.WarmedH U.vm → gg_Wd D ca ad u U := fun U hUh hUW => by
    refine ⟨by rw [hUh]; exact hP, hK.moved hUW.alike, ?_, hI, hN.warm hUW⟩
    rw [hUh]
    exact ((hS0.kept (fun a h1 h2 => hS.2.1 a h1 h2)).moved hUW.alike).narrow hAq
  have hcat : ((st.map (gg_cv ad)).map fun v => v.category).sum ≤ 8 := by
    rw [List.map_map]
    exact Nat.le_trans (Nat.le_of_eq (congrArg List.sum (List.map_congr_left (fun v _ => gg_cat ad v)))) hc
  subst hs
  have hroom : (gg_rm h1).frames + 1 ≤ R.frames ∧ 8 + (nLy + 11) + (gg_rm h1).locals ≤ R.locals := ⟨Nat.le_trans hh hR.1, Nat.le_trans (by show 8 + (nLy + 11) + 64 * h1 ≤ 64 * h; have := hY.2.2.2.2; omega) hR.2.1⟩
  refine gg_calld (va_runSN (As := As.map (gg_cv ad)) (rest := st.map (gg_cv ad)) (n := n) (Ts := gg_tG) (host := RX10) ⟨hx, hb, hml, hown, hts⟩ (hM l D ca ad) ⟨⟨⟨rfl, rfl, hroom.1, hroom.2, pay_in hts hws, List.mem_cons_self⟩, hts _ hY.1, hts _ hY.2.1, ⟨hY.2.2.1.1, hY.2.2.1.2⟩, fun sig hsg => hY.2.2.2.1 sig hsg, va_Nw.use rfl (hN _ hw)⟩, hts _ hV, trivial⟩ ⟨gg_blind D ca ad u As, fun U h1 h2 => ⟨rfl, hU U h1 h2⟩⟩ rfl (by rw [List.length_map]; exact hn) hl.2.1 (by simp [List.map_reverse]) (lv_room hcat) hd ⟨hR.2.2.1, hR.2.2.2⟩) hS hAq (fun v u1 H1 locs1 hE1 hP1 hS1 => ?_)
  have hk := k v u1 hE1 H1 locs1 ls hP1 hS1 hl
  rwa [List.map_append, show v.toList.map (gg_cv ad) = (v.map (gg_cv ad)).toList by cases v <;> rfl] at hk
def gg_eI (Q : Int32 → gg_M → Prop) : Option Value → gg_M → Prop := fun v u => ∃ x, v = some (.int x) ∧ Q x u
def gg_eJ (Q : Int64 → gg_M → Prop) : Option Value → gg_M → Prop := fun v u => ∃ x, v = some (.long x) ∧ Q x u
def gg_eR (Q : Nat → gg_M → Prop) : Option Value → gg_M → Prop := fun v u => ∃ x, v = some (.ref x) ∧ Q x u
def gg_eV (Q : gg_M → Prop) : Option Value → gg_M → Prop := fun v u => v = none ∧ Q u
theorem gg_ki {Q : Int32 → gg_M → Prop} (k : ∀ x u1, Q x u1 → G pc L (.int x :: st) u1) : ∀ v u1, gg_eI Q v u1 → G pc L (v.toList ++ st) u1 := by
  rintro v u1 ⟨x, rfl, hq⟩
  exact k x u1 hq
theorem gg_kj {Q : Int64 → gg_M → Prop} (k : ∀ x u1, Q x u1 → G pc L (.long x :: st) u1) : ∀ v u1, gg_eJ Q v u1 → G pc L (v.toList ++ st) u1 := by
  rintro v u1 ⟨x, rfl, hq⟩
  exact k x u1 hq
theorem gg_kr {Q : Nat → gg_M → Prop} (k : ∀ x u1, Q x u1 → G pc L (.ref x :: st) u1) : ∀ v u1, gg_eR Q v u1 → G pc L (v.toList ++ st) u1 := by
  rintro v u1 ⟨x, rfl, hq⟩
  exact k x u1 hq
theorem gg_kv {Q : gg_M → Prop} (k : ∀ u1, Q u1 → G pc L st u1) : ∀ v u1, gg_eV Q v u1 → G pc L (v.toList ++ st) u1 := by
  rintro v u1 ⟨rfl, hq⟩
  exact k u1 hq
def gg_mask : List Bool → List (Option Value) → List (Option Value)
  | b :: r, o :: L => (if b then o else none) :: gg_mask r L
  | _, L => L
theorem gg_mask_len : ∀ (r : List Bool) (L : List (Option Value)), (gg_mask r L).length = L.length
  | [], L => rfl
  | b :: r, [] => rfl
  | b :: r, o :: L => by rw [gg_mask, List.length_cons, List.length_cons, gg_mask_len r L]
theorem gg_mask_at : ∀ (r : List Bool) (L : List (Option Value)) (j : Nat) (w : Value), (gg_mask r L)[j]? = some (some w) → L[j]? = some (some w)
  | [], L, j, w, h => h
  | b :: r, [], j, w, h => h
  | b :: r, o :: L, 0, w, h => by
    cases b
    · simp [gg_mask] at h
    · simpa [gg_mask] using h
  | b :: r, o :: L, j + 1, w, h => by
    have h2 : (gg_mask r L)[j]? = some (some w) := by simpa [gg_mask] using h
    simpa using gg_mask_at r L j w h2
theorem gg_mk (hG : gg_Cl X cc nL own rt h E G) {L1 : List (Option Value)} (r : List Bool) (hL : gg_mask r L = L1) (k : G pc L1 st u) : G pc L st u := by
  obtain ⟨p, l, e, R, s, m, args, below, meth, c, D, ca, ad, A, cells, slots, Q, ⟨hx, hb, hml, hown, hts, hR, hK, hS0, hI, hA, hN, hX, hE⟩, rfl⟩ := hG
  intro H locs ls hP hS hl
  subst hL
  refine k H locs ls hP hS ⟨by rw [gg_mask_len]; exact hl.1, hl.2.1, hl.2.2.1, fun q hq => ?_⟩
  obtain ⟨i, w⟩ := q
  obtain ⟨j, v, e1, e2, e3⟩ := (gg_lp_mem ad _ 0 i w).mp hq
  exact hl.2.2.2 _ ((gg_lp_mem ad L 0 i w).mpr ⟨j, v, e1, gg_mask_at r L j v e2, e3⟩)
end GGR
def gg_loop {S : Type} (body : S → (S → Prop) → Prop) (s0 : S) : Prop := ∃ (I : S → Prop) (m : S → Nat), I s0 ∧ ∀ s, I s → body s (fun s1 => I s1 ∧ m s1 < m s)
theorem gg_loop_use {S : Type} {body : S → (S → Prop) → Prop} {s0 : S} {P : S → Prop} (h : gg_loop body s0) (hb : ∀ s rc, body s rc → (∀ s1, rc s1 → P s1) → P s) : P s0 := by
  obtain ⟨I, m, h0, hs⟩ := h
  have key : ∀ n s, m s < n → I s → P s := by
    intro n
    induction n with
    | zero => intro s hn; omega
    | succ n ih =>
      intro s hn hI
      exact hb s _ (hs s hI) (fun s1 h1 => ih s1 (by omega) h1.1)
  exact key _ s0 (Nat.lt_succ_self _) h0
theorem gg_getD {l : List Nat} {t d : Nat} (h : l.length ≤ t) : l.getD t d = d := by simp [List.getD, List.getElem?_eq_none h]
theorem gg_kd_lt {t c : Nat} (h : gg_kd t = c) (hc : c ≠ 99) : t < 65 := by
  rcases Nat.lt_or_ge t 65 with q | q
  · exact q
  · exact absurd (h.symm.trans (show gg_kd t = 99 from gg_getD q)) hc
theorem gg_rcv {t c : Nat} {q : vw_C} (h : gg_kd t = c) (hq : gg_cls[c]? = some q) : ∃ q1, gg_cls[gg_kd t]? = some q1 ∧ q1.1 = q.1 := ⟨q, by rw [h]; exact hq, rfl⟩
theorem gg_rf8a : ∀ t, t < 65 → gg_kd t = 8 → gg_kd (gg_rf t 0) = 20 := by decide +kernel
theorem gg_rf8 {t : Nat} (h : gg_kd t = 8) : gg_kd (gg_rf t 0) = 20 := gg_rf8a t (gg_kd_lt h (by decide)) h
theorem gg_rf6a : ∀ t, t < 65 → gg_kd t = 6 → gg_kd (gg_rf t 0) = 20 := by decide +kernel
theorem gg_rf6 {t : Nat} (h : gg_kd t = 6) : gg_kd (gg_rf t 0) = 20 := gg_rf6a t (gg_kd_lt h (by decide)) h
theorem gg_rf38a : ∀ j, j < 4 → gg_kd (gg_rf 38 j) = 6 := by decide +kernel
theorem gg_rf38 {i : Int32} (h : vp_in i (gg_al 38)) : gg_kd (gg_rf 38 i.toNatClampNeg) = 6 := gg_rf38a _ (Nat.not_le.mp fun q => h (Or.inr q))
theorem gg_rf18a : ∀ j, j < 3 → gg_kd (gg_rf 18 j) = 20 := by decide +kernel
theorem gg_rf18 {i : Int32} (h : vp_in i (gg_al 18)) : gg_kd (gg_rf 18 i.toNatClampNeg) = 20 := gg_rf18a _ (Nat.not_le.mp fun q => h (Or.inr q))
theorem gg_rf22a : ∀ j, j < 3 → gg_kd (gg_rf 22 j) = 20 := by decide +kernel
theorem gg_rf22 {i : Int32} (h : vp_in i (gg_al 22)) : gg_kd (gg_rf 22 i.toNatClampNeg) = 20 := gg_rf22a _ (Nat.not_le.mp fun q => h (Or.inr q))
end
section
theorem fl_RX10_14 : gg_FL RX10 14 10 0 := ⟨(RX10, TX10, 12), rfl, by decide, (gg_in 320 (by decide +kernel) (by decide +kernel))⟩
theorem fl_RX10_18 : gg_FL RX10 18 10 1 := ⟨(RX10, TX10, 12), rfl, by decide, (gg_in 321 (by decide +kernel) (by decide +kernel))⟩
theorem fl_RX10_24 : gg_FL RX10 24 10 2 := ⟨(RX10, TX10, 12), rfl, by decide, (gg_in 322 (by decide +kernel) (by decide +kernel))⟩
theorem fl_RX10_31 : gg_FL RX10 31 10 3 := ⟨(RX10, TX10, 12), rfl, by decide, (gg_in 323 (by decide +kernel) (by decide +kernel))⟩
theorem fl_RX10_38 : gg_FL RX10 38 10 4 := ⟨(RX10, TX10, 12), rfl, by decide, (gg_in 324 (by decide +kernel) (by decide +kernel))⟩
theorem fl_RX10_45 : gg_FL RX10 45 10 5 := ⟨(RX10, TX10, 12), rfl, by decide, (gg_in 325 (by decide +kernel) (by decide +kernel))⟩
theorem fl_RX10_52 : gg_FL RX10 52 10 6 := ⟨(RX10, TX10, 12), rfl, by decide, (gg_in 326 (by decide +kernel) (by decide +kernel))⟩
theorem fl_RX10_59 : gg_FL RX10 59 10 7 := ⟨(RX10, TX10, 12), rfl, by decide, (gg_in 327 (by decide +kernel) (by decide +kernel))⟩
theorem fl_RX10_66 : gg_FL RX10 66 10 8 := ⟨(RX10, TX10, 12), rfl, by decide, (gg_in 328 (by decide +kernel) (by decide +kernel))⟩
theorem fl_RX10_73 : gg_FL RX10 73 10 9 := ⟨(RX10, TX10, 12), rfl, by decide, (gg_in 329 (by decide +kernel) (by decide +kernel))⟩
theorem fl_RX10_79 : gg_FL RX10 79 10 10 := ⟨(RX10, TX10, 12), rfl, by decide, (gg_in 330 (by decide +kernel) (by decide +kernel))⟩
theorem fl_RX10_99 : gg_FL RX10 99 8 1 := ⟨(RX8, TX8, 2), rfl, by decide, (gg_in 88 (by decide +kernel) (by decide +kernel))⟩
theorem fp_RX10_99 : gg_FP RX10 99 8 1 := ⟨(RX8, TX8, 2), rfl, by decide, (gg_in 88 (by decide +kernel) (by decide +kernel)), rfl⟩
theorem fl_RX10_103 : gg_FL RX10 103 4 1 := ⟨(RX4, TX4, 2), rfl, by decide, (gg_in 113 (by decide +kernel) (by decide +kernel))⟩
theorem fl_RX10_106 : gg_FL RX10 106 5 2 := ⟨(RX5, TX5, 3), rfl, by decide, (gg_in 130 (by decide +kernel) (by decide +kernel))⟩
theorem fl_RX10_107 : gg_FL RX10 107 4 0 := ⟨(RX4, TX4, 2), rfl, by decide, (gg_in 111 (by decide +kernel) (by decide +kernel))⟩
theorem fl_RX10_111 : gg_FL RX10 111 0 0 := ⟨(RX0, TX0, 1), rfl, by decide, (gg_in 145 (by decide +kernel) (by decide +kernel))⟩
theorem fl_RX10_114 : gg_FL RX10 114 1 8 := ⟨(RX1, TX1, 11), rfl, by decide, (gg_in 225 (by decide +kernel) (by decide +kernel))⟩
theorem fp_RX10_114 : gg_FP RX10 114 1 8 := ⟨(RX1, TX1, 11), rfl, by decide, (gg_in 225 (by decide +kernel) (by decide +kernel)), rfl⟩
theorem fl_RX10_120 : gg_FL RX10 120 2 2 := ⟨(RX2, TX2, 3), rfl, by decide, (gg_in 159 (by decide +kernel) (by decide +kernel))⟩
theorem fp_RX10_120 : gg_FP RX10 120 2 2 := ⟨(RX2, TX2, 3), rfl, by decide, (gg_in 159 (by decide +kernel) (by decide +kernel)), rfl⟩
theorem fl_RX10_129 : gg_FL RX10 129 6 2 := ⟨(RX6, TX6, 3), rfl, by decide, (gg_in 312 (by decide +kernel) (by decide +kernel))⟩
theorem fl_RX10_140 : gg_FL RX10 140 1 9 := ⟨(RX1, TX1, 11), rfl, by decide, (gg_in 227 (by decide +kernel) (by decide +kernel))⟩
theorem fl_RX10_152 : gg_FL RX10 152 1 10 := ⟨(RX1, TX1, 11), rfl, by decide, (gg_in 229 (by decide +kernel) (by decide +kernel))⟩
theorem fl_RX10_155 : gg_FL RX10 155 1 1 := ⟨(RX1, TX1, 11), rfl, by decide, (gg_in 212 (by decide +kernel) (by decide +kernel))⟩
theorem fl_RX10_165 : gg_FL RX10 165 1 0 := ⟨(RX1, TX1, 11), rfl, by decide, (gg_in 210 (by decide +kernel) (by decide +kernel))⟩
theorem fl_RX10_185 : gg_FL RX10 185 1 3 := ⟨(RX1, TX1, 11), rfl, by decide, (gg_in 216 (by decide +kernel) (by decide +kernel))⟩
theorem fl_RX10_189 : gg_FL RX10 189 1 2 := ⟨(RX1, TX1, 11), rfl, by decide, (gg_in 214 (by decide +kernel) (by decide +kernel))⟩
theorem fl_RX10_195 : gg_FL RX10 195 1 4 := ⟨(RX1, TX1, 11), rfl, by decide, (gg_in 218 (by decide +kernel) (by decide +kernel))⟩
theorem fl_RX10_198 : gg_FL RX10 198 1 5 := ⟨(RX1, TX1, 11), rfl, by decide, (gg_in 220 (by decide +kernel) (by decide +kernel))⟩
theorem fl_RX10_205 : gg_FL RX10 205 1 6 := ⟨(RX1, TX1, 11), rfl, by decide, (gg_in 222 (by decide +kernel) (by decide +kernel))⟩
theorem fl_RX10_222 : gg_FL RX10 222 9 2 := ⟨(RX9, TX9, 3), rfl, by decide, (gg_in 263 (by decide +kernel) (by decide +kernel))⟩
theorem fl_RX10_237 : gg_FL RX10 237 3 5 := ⟨(RX3, TX3, 6), rfl, by decide, (gg_in 286 (by decide +kernel) (by decide +kernel))⟩
theorem fl_RX10_252 : gg_FL RX10 252 3 3 := ⟨(RX3, TX3, 6), rfl, by decide, (gg_in 283 (by decide +kernel) (by decide +kernel))⟩
theorem fl_RX10_266 : gg_FL RX10 266 10 11 := ⟨(RX10, TX10, 12), rfl, by decide, (gg_in 331 (by decide +kernel) (by decide +kernel))⟩
theorem fp_RX10_266 : gg_FP RX10 266 10 11 := ⟨(RX10, TX10, 12), rfl, by decide, (gg_in 331 (by decide +kernel) (by decide +kernel)), rfl⟩
theorem fl_RX10_269 : gg_FL RX10 269 6 1 := ⟨(RX6, TX6, 3), rfl, by decide, (gg_in 310 (by decide +kernel) (by decide +kernel))⟩
theorem fl_RX10_275 : gg_FL RX10 275 6 0 := ⟨(RX6, TX6, 3), rfl, by decide, (gg_in 308 (by decide +kernel) (by decide +kernel))⟩
theorem fl_RX10_300 : gg_FL RX10 300 5 1 := ⟨(RX5, TX5, 3), rfl, by decide, (gg_in 128 (by decide +kernel) (by decide +kernel))⟩
theorem fl_RX10_356 : gg_FL RX10 356 9 1 := ⟨(RX9, TX9, 3), rfl, by decide, (gg_in 261 (by decide +kernel) (by decide +kernel))⟩
theorem fp_RX10_356 : gg_FP RX10 356 9 1 := ⟨(RX9, TX9, 3), rfl, by decide, (gg_in 261 (by decide +kernel) (by decide +kernel)), rfl⟩
theorem fl_RX0_9 : gg_FL RX0 9 0 0 := ⟨(RX0, TX0, 1), rfl, by decide, (gg_in 144 (by decide +kernel) (by decide +kernel))⟩
theorem fl_RX1_9 : gg_FL RX1 9 1 0 := ⟨(RX1, TX1, 11), rfl, by decide, (gg_in 209 (by decide +kernel) (by decide +kernel))⟩
theorem fl_RX1_15 : gg_FL RX1 15 1 1 := ⟨(RX1, TX1, 11), rfl, by decide, (gg_in 211 (by decide +kernel) (by decide +kernel))⟩
theorem fl_RX1_21 : gg_FL RX1 21 1 2 := ⟨(RX1, TX1, 11), rfl, by decide, (gg_in 213 (by decide +kernel) (by decide +kernel))⟩
theorem fl_RX1_24 : gg_FL RX1 24 1 3 := ⟨(RX1, TX1, 11), rfl, by decide, (gg_in 215 (by decide +kernel) (by decide +kernel))⟩
theorem fl_RX1_27 : gg_FL RX1 27 1 4 := ⟨(RX1, TX1, 11), rfl, by decide, (gg_in 217 (by decide +kernel) (by decide +kernel))⟩
theorem fl_RX1_30 : gg_FL RX1 30 1 5 := ⟨(RX1, TX1, 11), rfl, by decide, (gg_in 219 (by decide +kernel) (by decide +kernel))⟩
theorem fl_RX1_33 : gg_FL RX1 33 1 6 := ⟨(RX1, TX1, 11), rfl, by decide, (gg_in 221 (by decide +kernel) (by decide +kernel))⟩
theorem fl_RX1_39 : gg_FL RX1 39 1 7 := ⟨(RX1, TX1, 11), rfl, by decide, (gg_in 223 (by decide +kernel) (by decide +kernel))⟩
theorem fl_RX1_43 : gg_FL RX1 43 1 9 := ⟨(RX1, TX1, 11), rfl, by decide, (gg_in 226 (by decide +kernel) (by decide +kernel))⟩
theorem fp_RX1_43 : gg_FP RX1 43 1 9 := ⟨(RX1, TX1, 11), rfl, by decide, (gg_in 226 (by decide +kernel) (by decide +kernel)), rfl⟩
theorem fl_RX1_47 : gg_FL RX1 47 1 10 := ⟨(RX1, TX1, 11), rfl, by decide, (gg_in 228 (by decide +kernel) (by decide +kernel))⟩
theorem fp_RX1_47 : gg_FP RX1 47 1 10 := ⟨(RX1, TX1, 11), rfl, by decide, (gg_in 228 (by decide +kernel) (by decide +kernel)), rfl⟩
theorem fl_RX1_54 : gg_FL RX1 54 2 2 := ⟨(RX2, TX2, 3), rfl, by decide, (gg_in 158 (by decide +kernel) (by decide +kernel))⟩
theorem fl_RX1_80 : gg_FL RX1 80 7 7 := ⟨(RX7, TX7, 8), rfl, by decide, (gg_in 190 (by decide +kernel) (by decide +kernel))⟩
theorem fp_RX1_90 : gg_FP RX1 90 1 8 := ⟨(RX1, TX1, 11), rfl, by decide, (gg_in 224 (by decide +kernel) (by decide +kernel)), rfl⟩
theorem fl_RX2_9 : gg_FL RX2 9 2 0 := ⟨(RX2, TX2, 3), rfl, by decide, (gg_in 155 (by decide +kernel) (by decide +kernel))⟩
theorem fl_RX2_15 : gg_FL RX2 15 2 1 := ⟨(RX2, TX2, 3), rfl, by decide, (gg_in 156 (by decide +kernel) (by decide +kernel))⟩
theorem fl_RX2_18 : gg_FL RX2 18 2 2 := ⟨(RX2, TX2, 3), rfl, by decide, (gg_in 157 (by decide +kernel) (by decide +kernel))⟩
theorem fp_RX2_18 : gg_FP RX2 18 2 2 := ⟨(RX2, TX2, 3), rfl, by decide, (gg_in 157 (by decide +kernel) (by decide +kernel)), rfl⟩
theorem fl_RX3_9 : gg_FL RX3 9 3 0 := ⟨(RX3, TX3, 6), rfl, by decide, (gg_in 279 (by decide +kernel) (by decide +kernel))⟩
theorem fl_RX3_15 : gg_FL RX3 15 3 1 := ⟨(RX3, TX3, 6), rfl, by decide, (gg_in 280 (by decide +kernel) (by decide +kernel))⟩
theorem fl_RX3_18 : gg_FL RX3 18 3 2 := ⟨(RX3, TX3, 6), rfl, by decide, (gg_in 281 (by decide +kernel) (by decide +kernel))⟩
theorem fl_RX3_21 : gg_FL RX3 21 3 3 := ⟨(RX3, TX3, 6), rfl, by decide, (gg_in 282 (by decide +kernel) (by decide +kernel))⟩
theorem fl_RX3_24 : gg_FL RX3 24 3 5 := ⟨(RX3, TX3, 6), rfl, by decide, (gg_in 285 (by decide +kernel) (by decide +kernel))⟩
theorem fp_RX3_24 : gg_FP RX3 24 3 5 := ⟨(RX3, TX3, 6), rfl, by decide, (gg_in 285 (by decide +kernel) (by decide +kernel)), rfl⟩
theorem fl_RX3_32 : gg_FL RX3 32 3 4 := ⟨(RX3, TX3, 6), rfl, by decide, (gg_in 284 (by decide +kernel) (by decide +kernel))⟩
theorem fp_RX3_32 : gg_FP RX3 32 3 4 := ⟨(RX3, TX3, 6), rfl, by decide, (gg_in 284 (by decide +kernel) (by decide +kernel)), rfl⟩
theorem fl_RX4_9 : gg_FL RX4 9 4 0 := ⟨(RX4, TX4, 2), rfl, by decide, (gg_in 109 (by decide +kernel) (by decide +kernel))⟩
theorem fl_RX4_15 : gg_FL RX4 15 4 1 := ⟨(RX4, TX4, 2), rfl, by decide, (gg_in 112 (by decide +kernel) (by decide +kernel))⟩
theorem fp_RX4_15 : gg_FP RX4 15 4 1 := ⟨(RX4, TX4, 2), rfl, by decide, (gg_in 112 (by decide +kernel) (by decide +kernel)), rfl⟩
theorem fl_RX4_29 : gg_FL RX4 29 8 1 := ⟨(RX8, TX8, 2), rfl, by decide, (gg_in 89 (by decide +kernel) (by decide +kernel))⟩
theorem fl_RX5_11 : gg_FL RX5 11 5 0 := ⟨(RX5, TX5, 3), rfl, by decide, (gg_in 125 (by decide +kernel) (by decide +kernel))⟩
theorem fl_RX5_15 : gg_FL RX5 15 5 2 := ⟨(RX5, TX5, 3), rfl, by decide, (gg_in 129 (by decide +kernel) (by decide +kernel))⟩
theorem fp_RX5_15 : gg_FP RX5 15 5 2 := ⟨(RX5, TX5, 3), rfl, by decide, (gg_in 129 (by decide +kernel) (by decide +kernel)), rfl⟩
theorem fl_RX5_19 : gg_FL RX5 19 5 1 := ⟨(RX5, TX5, 3), rfl, by decide, (gg_in 126 (by decide +kernel) (by decide +kernel))⟩
theorem fp_RX5_19 : gg_FP RX5 19 5 1 := ⟨(RX5, TX5, 3), rfl, by decide, (gg_in 126 (by decide +kernel) (by decide +kernel)), rfl⟩
theorem fl_RX5_26 : gg_FL RX5 26 8 1 := ⟨(RX8, TX8, 2), rfl, by decide, (gg_in 90 (by decide +kernel) (by decide +kernel))⟩
theorem fl_RX6_9 : gg_FL RX6 9 6 0 := ⟨(RX6, TX6, 3), rfl, by decide, (gg_in 307 (by decide +kernel) (by decide +kernel))⟩
theorem fl_RX6_15 : gg_FL RX6 15 6 1 := ⟨(RX6, TX6, 3), rfl, by decide, (gg_in 309 (by decide +kernel) (by decide +kernel))⟩
theorem fp_RX6_15 : gg_FP RX6 15 6 1 := ⟨(RX6, TX6, 3), rfl, by decide, (gg_in 309 (by decide +kernel) (by decide +kernel)), rfl⟩
theorem fl_RX6_25 : gg_FL RX6 25 6 2 := ⟨(RX6, TX6, 3), rfl, by decide, (gg_in 311 (by decide +kernel) (by decide +kernel))⟩
theorem fp_RX6_25 : gg_FP RX6 25 6 2 := ⟨(RX6, TX6, 3), rfl, by decide, (gg_in 311 (by decide +kernel) (by decide +kernel)), rfl⟩
theorem fl_RX7_9 : gg_FL RX7 9 4 0 := ⟨(RX4, TX4, 2), rfl, by decide, (gg_in 110 (by decide +kernel) (by decide +kernel))⟩
theorem fl_RX7_15 : gg_FL RX7 15 7 0 := ⟨(RX7, TX7, 8), rfl, by decide, (gg_in 181 (by decide +kernel) (by decide +kernel))⟩
theorem fp_RX7_15 : gg_FP RX7 15 7 0 := ⟨(RX7, TX7, 8), rfl, by decide, (gg_in 181 (by decide +kernel) (by decide +kernel)), rfl⟩
theorem fl_RX7_21 : gg_FL RX7 21 7 1 := ⟨(RX7, TX7, 8), rfl, by decide, (gg_in 182 (by decide +kernel) (by decide +kernel))⟩
theorem fp_RX7_21 : gg_FP RX7 21 7 1 := ⟨(RX7, TX7, 8), rfl, by decide, (gg_in 182 (by decide +kernel) (by decide +kernel)), rfl⟩
theorem fl_RX7_24 : gg_FL RX7 24 7 2 := ⟨(RX7, TX7, 8), rfl, by decide, (gg_in 183 (by decide +kernel) (by decide +kernel))⟩
theorem fp_RX7_24 : gg_FP RX7 24 7 2 := ⟨(RX7, TX7, 8), rfl, by decide, (gg_in 183 (by decide +kernel) (by decide +kernel)), rfl⟩
theorem fl_RX7_27 : gg_FL RX7 27 7 3 := ⟨(RX7, TX7, 8), rfl, by decide, (gg_in 184 (by decide +kernel) (by decide +kernel))⟩
theorem fp_RX7_27 : gg_FP RX7 27 7 3 := ⟨(RX7, TX7, 8), rfl, by decide, (gg_in 184 (by decide +kernel) (by decide +kernel)), rfl⟩
theorem fl_RX7_30 : gg_FL RX7 30 7 4 := ⟨(RX7, TX7, 8), rfl, by decide, (gg_in 185 (by decide +kernel) (by decide +kernel))⟩
theorem fp_RX7_30 : gg_FP RX7 30 7 4 := ⟨(RX7, TX7, 8), rfl, by decide, (gg_in 185 (by decide +kernel) (by decide +kernel)), rfl⟩
theorem fl_RX7_33 : gg_FL RX7 33 7 5 := ⟨(RX7, TX7, 8), rfl, by decide, (gg_in 186 (by decide +kernel) (by decide +kernel))⟩
theorem fp_RX7_33 : gg_FP RX7 33 7 5 := ⟨(RX7, TX7, 8), rfl, by decide, (gg_in 186 (by decide +kernel) (by decide +kernel)), rfl⟩
theorem fl_RX7_36 : gg_FL RX7 36 7 6 := ⟨(RX7, TX7, 8), rfl, by decide, (gg_in 187 (by decide +kernel) (by decide +kernel))⟩
theorem fp_RX7_36 : gg_FP RX7 36 7 6 := ⟨(RX7, TX7, 8), rfl, by decide, (gg_in 187 (by decide +kernel) (by decide +kernel)), rfl⟩
theorem fl_RX7_39 : gg_FL RX7 39 7 7 := ⟨(RX7, TX7, 8), rfl, by decide, (gg_in 188 (by decide +kernel) (by decide +kernel))⟩
theorem fp_RX7_39 : gg_FP RX7 39 7 7 := ⟨(RX7, TX7, 8), rfl, by decide, (gg_in 188 (by decide +kernel) (by decide +kernel)), rfl⟩
theorem fl_RX8_15 : gg_FL RX8 15 8 0 := ⟨(RX8, TX8, 2), rfl, by decide, (gg_in 86 (by decide +kernel) (by decide +kernel))⟩
theorem fl_RX8_21 : gg_FL RX8 21 8 1 := ⟨(RX8, TX8, 2), rfl, by decide, (gg_in 87 (by decide +kernel) (by decide +kernel))⟩
theorem fp_RX8_21 : gg_FP RX8 21 8 1 := ⟨(RX8, TX8, 2), rfl, by decide, (gg_in 87 (by decide +kernel) (by decide +kernel)), rfl⟩
theorem fl_RX9_9 : gg_FL RX9 9 9 0 := ⟨(RX9, TX9, 3), rfl, by decide, (gg_in 259 (by decide +kernel) (by decide +kernel))⟩
theorem fl_RX9_15 : gg_FL RX9 15 9 2 := ⟨(RX9, TX9, 3), rfl, by decide, (gg_in 262 (by decide +kernel) (by decide +kernel))⟩
theorem fp_RX9_15 : gg_FP RX9 15 9 2 := ⟨(RX9, TX9, 3), rfl, by decide, (gg_in 262 (by decide +kernel) (by decide +kernel)), rfl⟩
theorem fl_RX9_25 : gg_FL RX9 25 5 1 := ⟨(RX5, TX5, 3), rfl, by decide, (gg_in 127 (by decide +kernel) (by decide +kernel))⟩
theorem fl_RX9_38 : gg_FL RX9 38 7 7 := ⟨(RX7, TX7, 8), rfl, by decide, (gg_in 189 (by decide +kernel) (by decide +kernel))⟩
theorem fp_RX9_42 : gg_FP RX9 42 9 1 := ⟨(RX9, TX9, 3), rfl, by decide, (gg_in 260 (by decide +kernel) (by decide +kernel)), rfl⟩
theorem fl_RX11_7 : gg_FL RX11 7 11 0 := ⟨(RX11, TX11, 25), rfl, by decide, (gg_in 784 (by decide +kernel) (by decide +kernel))⟩
theorem fl_RX11_13 : gg_FL RX11 13 11 1 := ⟨(RX11, TX11, 25), rfl, by decide, (gg_in 785 (by decide +kernel) (by decide +kernel))⟩
theorem fl_RX11_16 : gg_FL RX11 16 11 2 := ⟨(RX11, TX11, 25), rfl, by decide, (gg_in 786 (by decide +kernel) (by decide +kernel))⟩
theorem fl_RX11_19 : gg_FL RX11 19 11 3 := ⟨(RX11, TX11, 25), rfl, by decide, (gg_in 787 (by decide +kernel) (by decide +kernel))⟩
theorem fl_RX11_22 : gg_FL RX11 22 11 6 := ⟨(RX11, TX11, 25), rfl, by decide, (gg_in 790 (by decide +kernel) (by decide +kernel))⟩
theorem fl_RX11_25 : gg_FL RX11 25 11 7 := ⟨(RX11, TX11, 25), rfl, by decide, (gg_in 791 (by decide +kernel) (by decide +kernel))⟩
theorem fl_RX11_28 : gg_FL RX11 28 11 9 := ⟨(RX11, TX11, 25), rfl, by decide, (gg_in 793 (by decide +kernel) (by decide +kernel))⟩
theorem fl_RX11_31 : gg_FL RX11 31 11 10 := ⟨(RX11, TX11, 25), rfl, by decide, (gg_in 794 (by decide +kernel) (by decide +kernel))⟩
theorem fl_RX11_34 : gg_FL RX11 34 11 11 := ⟨(RX11, TX11, 25), rfl, by decide, (gg_in 795 (by decide +kernel) (by decide +kernel))⟩
theorem fl_RX11_38 : gg_FL RX11 38 11 13 := ⟨(RX11, TX11, 25), rfl, by decide, (gg_in 797 (by decide +kernel) (by decide +kernel))⟩
theorem fl_RX11_41 : gg_FL RX11 41 11 16 := ⟨(RX11, TX11, 25), rfl, by decide, (gg_in 800 (by decide +kernel) (by decide +kernel))⟩
theorem fl_RX11_44 : gg_FL RX11 44 11 17 := ⟨(RX11, TX11, 25), rfl, by decide, (gg_in 801 (by decide +kernel) (by decide +kernel))⟩
theorem fl_RX11_47 : gg_FL RX11 47 11 18 := ⟨(RX11, TX11, 25), rfl, by decide, (gg_in 802 (by decide +kernel) (by decide +kernel))⟩
theorem fl_RX11_50 : gg_FL RX11 50 11 19 := ⟨(RX11, TX11, 25), rfl, by decide, (gg_in 803 (by decide +kernel) (by decide +kernel))⟩
theorem fl_RX11_54 : gg_FL RX11 54 11 20 := ⟨(RX11, TX11, 25), rfl, by decide, (gg_in 804 (by decide +kernel) (by decide +kernel))⟩
theorem fl_RX11_57 : gg_FL RX11 57 11 21 := ⟨(RX11, TX11, 25), rfl, by decide, (gg_in 805 (by decide +kernel) (by decide +kernel))⟩
theorem fl_RX11_60 : gg_FL RX11 60 11 22 := ⟨(RX11, TX11, 25), rfl, by decide, (gg_in 806 (by decide +kernel) (by decide +kernel))⟩
theorem fl_RX11_63 : gg_FL RX11 63 11 23 := ⟨(RX11, TX11, 25), rfl, by decide, (gg_in 807 (by decide +kernel) (by decide +kernel))⟩
theorem fl_RX11_79 : gg_FL RX11 79 11 5 := ⟨(RX11, TX11, 25), rfl, by decide, (gg_in 789 (by decide +kernel) (by decide +kernel))⟩
theorem fp_RX11_79 : gg_FP RX11 79 11 5 := ⟨(RX11, TX11, 25), rfl, by decide, (gg_in 789 (by decide +kernel) (by decide +kernel)), rfl⟩
theorem fl_RX11_101 : gg_FL RX11 101 11 4 := ⟨(RX11, TX11, 25), rfl, by decide, (gg_in 788 (by decide +kernel) (by decide +kernel))⟩
theorem fp_RX11_101 : gg_FP RX11 101 11 4 := ⟨(RX11, TX11, 25), rfl, by decide, (gg_in 788 (by decide +kernel) (by decide +kernel)), rfl⟩
theorem fl_RX11_123 : gg_FL RX11 123 11 8 := ⟨(RX11, TX11, 25), rfl, by decide, (gg_in 792 (by decide +kernel) (by decide +kernel))⟩
theorem fp_RX11_123 : gg_FP RX11 123 11 8 := ⟨(RX11, TX11, 25), rfl, by decide, (gg_in 792 (by decide +kernel) (by decide +kernel)), rfl⟩
theorem fl_RX11_135 : gg_FL RX11 135 11 12 := ⟨(RX11, TX11, 25), rfl, by decide, (gg_in 796 (by decide +kernel) (by decide +kernel))⟩
theorem fp_RX11_135 : gg_FP RX11 135 11 12 := ⟨(RX11, TX11, 25), rfl, by decide, (gg_in 796 (by decide +kernel) (by decide +kernel)), rfl⟩
theorem fl_RX11_206 : gg_FL RX11 206 11 14 := ⟨(RX11, TX11, 25), rfl, by decide, (gg_in 798 (by decide +kernel) (by decide +kernel))⟩
theorem fp_RX11_206 : gg_FP RX11 206 11 14 := ⟨(RX11, TX11, 25), rfl, by decide, (gg_in 798 (by decide +kernel) (by decide +kernel)), rfl⟩
theorem fl_RX11_226 : gg_FL RX11 226 11 15 := ⟨(RX11, TX11, 25), rfl, by decide, (gg_in 799 (by decide +kernel) (by decide +kernel))⟩
theorem fp_RX11_226 : gg_FP RX11 226 11 15 := ⟨(RX11, TX11, 25), rfl, by decide, (gg_in 799 (by decide +kernel) (by decide +kernel)), rfl⟩
theorem fl_RX11_245 : gg_FL RX11 245 11 24 := ⟨(RX11, TX11, 25), rfl, by decide, (gg_in 808 (by decide +kernel) (by decide +kernel))⟩
theorem fp_RX11_245 : gg_FP RX11 245 11 24 := ⟨(RX11, TX11, 25), rfl, by decide, (gg_in 808 (by decide +kernel) (by decide +kernel)), rfl⟩
theorem fs_RX10_339 : Cond.fieldLink RX10 339 (gg_sn 0).1 (gg_sn 0).2.1 (gg_sn 0).2.2 ∈ gg_tG := (gg_in 773 (by decide +kernel) (by decide +kernel))
theorem fs_RX4_26 : Cond.fieldLink RX4 26 (gg_sn 2).1 (gg_sn 2).2.1 (gg_sn 2).2.2 ∈ gg_tG := (gg_in 107 (by decide +kernel) (by decide +kernel))
theorem fs_RX4_44 : Cond.fieldLink RX4 44 (gg_sn 3).1 (gg_sn 3).2.1 (gg_sn 3).2.2 ∈ gg_tG := (gg_in 398 (by decide +kernel) (by decide +kernel))
theorem fs_RX4_47 : Cond.fieldLink RX4 47 (gg_sn 1).1 (gg_sn 1).2.1 (gg_sn 1).2.2 ∈ gg_tG := (gg_in 391 (by decide +kernel) (by decide +kernel))
theorem fs_RX7_51 : Cond.fieldLink RX7 51 (gg_sn 4).1 (gg_sn 4).2.1 (gg_sn 4).2.2 ∈ gg_tG := (gg_in 486 (by decide +kernel) (by decide +kernel))
theorem fc_RX10_220 : Cond.constantLong RX10 220 1048576 ∈ gg_tG := (gg_in 628 (by decide +kernel) (by decide +kernel))
theorem fc_RX10_225 : Cond.constantLong RX10 225 (-1) ∈ gg_tG := (gg_in 637 (by decide +kernel) (by decide +kernel))
theorem fc_RX10_265 : Cond.constant RX10 265 (-2147483648) ∈ gg_tG := (gg_in 726 (by decide +kernel) (by decide +kernel))
theorem fc_RX10_304 : Cond.constantLong RX10 304 17 ∈ gg_tG := (gg_in 761 (by decide +kernel) (by decide +kernel))
theorem fc_RX10_306 : Cond.constantLong RX10 306 31 ∈ gg_tG := (gg_in 762 (by decide +kernel) (by decide +kernel))
theorem fc_RX10_365 : Cond.constantLong RX10 365 (-9223372036854775808) ∈ gg_tG := (gg_in 536 (by decide +kernel) (by decide +kernel))
theorem fc_RX3_52 : Cond.constant RX3 52 2147483647 ∈ gg_tG := (gg_in 690 (by decide +kernel) (by decide +kernel))
theorem fc_RX11_66 : Cond.constantLong RX11 66 (-9223372036854775808) ∈ gg_tG := (gg_in 987 (by decide +kernel) (by decide +kernel))
theorem fc_RX11_212 : Cond.constantLong RX11 212 1048576 ∈ gg_tG := (gg_in 1079 (by decide +kernel) (by decide +kernel))
theorem fc_RX11_254 : Cond.constant RX11 254 (-2147483648) ∈ gg_tG := (gg_in 1161 (by decide +kernel) (by decide +kernel))
theorem fc_RX11_261 : Cond.constantLong RX11 261 17 ∈ gg_tG := (gg_in 1186 (by decide +kernel) (by decide +kernel))
theorem fc_RX11_263 : Cond.constantLong RX11 263 31 ∈ gg_tG := (gg_in 1187 (by decide +kernel) (by decide +kernel))
theorem fc_RJ6_265 : Cond.constant RJ6 265 1431655765 ∈ gg_tG := (gg_in 526 (by decide +kernel) (by decide +kernel))
theorem fc_RJ6_266 : Cond.constant RJ6 266 858993459 ∈ gg_tG := (gg_in 527 (by decide +kernel) (by decide +kernel))
theorem fc_RJ6_267 : Cond.constant RJ6 267 252645135 ∈ gg_tG := (gg_in 528 (by decide +kernel) (by decide +kernel))
theorem ml_RX10_84 : Cond.methodLink RX10 84 yX10_isBelow ∈ gg_tG := (gg_in 361 (by decide +kernel) (by decide +kernel))
theorem ml_RX10_88 : Cond.methodLink RX10 88 yX10_textOf ∈ gg_tG := (gg_in 364 (by decide +kernel) (by decide +kernel))
theorem ml_RX10_92 : Cond.methodLink RX10 92 yX8_takes ∈ gg_tG := (gg_in 368 (by decide +kernel) (by decide +kernel))
theorem ml_RX10_96 : Cond.methodLink RX10 96 yX10_understand ∈ gg_tG := (gg_in 372 (by decide +kernel) (by decide +kernel))
theorem ml_RX10_118 : Cond.methodLink RX10 118 yX2_takes ∈ gg_tG := (gg_in 434 (by decide +kernel) (by decide +kernel))
theorem ml_RX10_121 : Cond.methodLink RX10 121 yX6_isLost ∈ gg_tG := (gg_in 442 (by decide +kernel) (by decide +kernel))
theorem ml_RX10_125 : Cond.methodLink RX10 125 yX10_found ∈ gg_tG := (gg_in 446 (by decide +kernel) (by decide +kernel))
theorem ml_RX10_130 : Cond.methodLink RX10 130 yX6_itemAt ∈ gg_tG := (gg_in 450 (by decide +kernel) (by decide +kernel))
theorem ml_RX10_133 : Cond.methodLink RX10 133 yX10_see ∈ gg_tG := (gg_in 455 (by decide +kernel) (by decide +kernel))
theorem ml_RX10_137 : Cond.methodLink RX10 137 yX10_known ∈ gg_tG := (gg_in 464 (by decide +kernel) (by decide +kernel))
theorem ml_RX10_143 : Cond.methodLink RX10 143 yJ6_bitCount_0f7a4 ∈ gg_tG := (gg_in 523 (by decide +kernel) (by decide +kernel))
theorem ml_RX10_148 : Cond.methodLink RX10 148 yX10_refusal ∈ gg_tG := (gg_in 533 (by decide +kernel) (by decide +kernel))
theorem ml_RX10_158 : Cond.methodLink RX10 158 yX10_told ∈ gg_tG := (gg_in 537 (by decide +kernel) (by decide +kernel))
theorem ml_RX10_162 : Cond.methodLink RX10 162 yX1_weightWith ∈ gg_tG := (gg_in 547 (by decide +kernel) (by decide +kernel))
theorem ml_RX10_169 : Cond.methodLink RX10 169 yX7_partOf ∈ gg_tG := (gg_in 555 (by decide +kernel) (by decide +kernel))
theorem ml_RX10_173 : Cond.methodLink RX10 173 yX7_unpack ∈ gg_tG := (gg_in 562 (by decide +kernel) (by decide +kernel))
theorem ml_RX10_177 : Cond.methodLink RX10 177 yX7_does ∈ gg_tG := (gg_in 567 (by decide +kernel) (by decide +kernel))
theorem ml_RX10_181 : Cond.methodLink RX10 181 yX1_part ∈ gg_tG := (gg_in 572 (by decide +kernel) (by decide +kernel))
theorem ml_RX10_192 : Cond.methodLink RX10 192 yX1_heaviestOf ∈ gg_tG := (gg_in 586 (by decide +kernel) (by decide +kernel))
theorem ml_RX10_201 : (RX10, 201, yX1_weightRunning, RX10) ∈ gg_nw := by decide +kernel
theorem ml_RX10_208 : Cond.methodLink RX10 208 yX10_tried ∈ gg_tG := (gg_in 605 (by decide +kernel) (by decide +kernel))
theorem ml_RX10_212 : Cond.methodLink RX10 212 yX9_weightHaving ∈ gg_tG := (gg_in 619 (by decide +kernel) (by decide +kernel))
theorem ml_RX10_216 : Cond.methodLink RX10 216 yX9_actsDone ∈ gg_tG := (gg_in 624 (by decide +kernel) (by decide +kernel))
theorem ml_RX10_227 : Cond.methodLink RX10 227 yX7_turnsToDrown ∈ gg_tG := (gg_in 642 (by decide +kernel) (by decide +kernel))
theorem ml_RX10_231 : Cond.methodLink RX10 231 yX10_isDay ∈ gg_tG := (gg_in 652 (by decide +kernel) (by decide +kernel))
theorem ml_RX10_234 : Cond.methodLink RX10 234 yX3_takes ∈ gg_tG := (gg_in 655 (by decide +kernel) (by decide +kernel))
theorem ml_RX10_238 : Cond.methodLink RX10 238 yX10_isLaw ∈ gg_tG := (gg_in 664 (by decide +kernel) (by decide +kernel))
theorem ml_RX10_241 : Cond.methodLink RX10 241 yX3_lawSays ∈ gg_tG := (gg_in 667 (by decide +kernel) (by decide +kernel))
theorem ml_RX10_245 : Cond.methodLink RX10 245 yX3_offBy ∈ gg_tG := (gg_in 674 (by decide +kernel) (by decide +kernel))
theorem ml_RX10_249 : Cond.methodLink RX10 249 yX3_findLaw ∈ gg_tG := (gg_in 686 (by decide +kernel) (by decide +kernel))
theorem ml_RX10_255 : Cond.methodLink RX10 255 yX6_lay ∈ gg_tG := (gg_in 700 (by decide +kernel) (by decide +kernel))
theorem ml_RX10_259 : Cond.methodLink RX10 259 yX6_wrongWith ∈ gg_tG := (gg_in 713 (by decide +kernel) (by decide +kernel))
theorem ml_RX10_262 : Cond.methodLink RX10 262 yX6_keep ∈ gg_tG := (gg_in 718 (by decide +kernel) (by decide +kernel))
theorem ml_RX10_272 : Cond.methodLink RX10 272 yX6_holds ∈ gg_tG := (gg_in 731 (by decide +kernel) (by decide +kernel))
theorem ml_copy : Cond.methodLink RX10 278 arraycopyName ∈ gg_tG := (gg_in 735 (by decide +kernel) (by decide +kernel))
theorem ml_cnat : Cond.native arraycopyName ∈ gg_tG := (gg_in 737 (by decide +kernel) (by decide +kernel))
theorem ml_cstat : Cond.static arraycopyName ∈ gg_tG := (gg_in 736 (by decide +kernel) (by decide +kernel))
theorem ml_cini : Cond.initialized "java/lang/System" ∈ gg_tG := (gg_in 68 (by decide +kernel) (by decide +kernel))
theorem ml_RX10_284 : Cond.methodLink RX10 284 yJ9_min_7cf53 ∈ gg_tG := (gg_in 742 (by decide +kernel) (by decide +kernel))
theorem ml_RX10_289 : Cond.methodLink RX10 289 yX7_begin ∈ gg_tG := (gg_in 743 (by decide +kernel) (by decide +kernel))
theorem ml_RX10_293 : Cond.methodLink RX10 293 yX2_actAt ∈ gg_tG := (gg_in 744 (by decide +kernel) (by decide +kernel))
theorem ml_RX10_296 : Cond.methodLink RX10 296 yX0_together ∈ gg_tG := (gg_in 749 (by decide +kernel) (by decide +kernel))
theorem ml_RX10_301 : Cond.methodLink RX10 301 yX3_turnsTogether ∈ gg_tG := (gg_in 753 (by decide +kernel) (by decide +kernel))
theorem ml_RX10_308 : Cond.methodLink RX10 308 yX10_count ∈ gg_tG := (gg_in 763 (by decide +kernel) (by decide +kernel))
theorem ml_RX10_311 : Cond.methodLink RX10 311 yX10_fault ∈ gg_tG := (gg_in 764 (by decide +kernel) (by decide +kernel))
theorem ml_RX10_313 : Cond.methodLink RX10 313 yX10_motor ∈ gg_tG := (gg_in 765 (by decide +kernel) (by decide +kernel))
theorem ml_RX10_316 : Cond.methodLink RX10 316 yX10_trouble ∈ gg_tG := (gg_in 766 (by decide +kernel) (by decide +kernel))
theorem ml_RX10_320 : Cond.methodLink RX10 320 yX10_chance ∈ gg_tG := (gg_in 767 (by decide +kernel) (by decide +kernel))
theorem ml_RX10_324 : Cond.methodLink RX10 324 yX10_parts ∈ gg_tG := (gg_in 768 (by decide +kernel) (by decide +kernel))
theorem ml_RX10_327 : Cond.methodLink RX10 327 yX10_best ∈ gg_tG := (gg_in 769 (by decide +kernel) (by decide +kernel))
theorem ml_RX10_330 : Cond.methodLink RX10 330 yX10_habit ∈ gg_tG := (gg_in 770 (by decide +kernel) (by decide +kernel))
theorem ml_RX10_333 : Cond.methodLink RX10 333 yX10_has ∈ gg_tG := (gg_in 771 (by decide +kernel) (by decide +kernel))
theorem ml_RX10_336 : Cond.methodLink RX10 336 yX10_work ∈ gg_tG := (gg_in 772 (by decide +kernel) (by decide +kernel))
theorem ml_RX10_342 : Cond.methodLink RX10 342 yX10_state ∈ gg_tG := (gg_in 775 (by decide +kernel) (by decide +kernel))
theorem ml_RX10_345 : Cond.methodLink RX10 345 yX10_drowned ∈ gg_tG := (gg_in 776 (by decide +kernel) (by decide +kernel))
theorem ml_RX10_348 : Cond.methodLink RX10 348 yX10_fits ∈ gg_tG := (gg_in 777 (by decide +kernel) (by decide +kernel))
theorem ml_RX10_351 : Cond.methodLink RX10 351 yX4_learn ∈ gg_tG := (gg_in 376 (by decide +kernel) (by decide +kernel))
theorem ml_RX10_355 : Cond.methodLink RX10 355 yX5_learn ∈ gg_tG := (gg_in 400 (by decide +kernel) (by decide +kernel))
theorem ml_RX10_357 : Cond.methodLink RX10 357 yX1_learn ∈ gg_tG := (gg_in 468 (by decide +kernel) (by decide +kernel))
theorem ml_RX10_360 : Cond.methodLink RX10 360 yX9_learn ∈ gg_tG := (gg_in 609 (by decide +kernel) (by decide +kernel))
theorem ml_RX10_367 : Cond.methodLink RX10 367 yX10_commonDivisor ∈ gg_tG := (gg_in 540 (by decide +kernel) (by decide +kernel))
theorem ml_RX1_50 : Cond.methodLink RX1 50 yX7_begin ∈ gg_tG := (gg_in 472 (by decide +kernel) (by decide +kernel))
theorem ml_RX1_59 : Cond.methodLink RX1 59 yX2_actAt ∈ gg_tG := (gg_in 476 (by decide +kernel) (by decide +kernel))
theorem ml_RX1_63 : Cond.methodLink RX1 63 yX7_does ∈ gg_tG := (gg_in 481 (by decide +kernel) (by decide +kernel))
theorem ml_RX1_67 : Cond.methodLink RX1 67 yX2_signAt ∈ gg_tG := (gg_in 508 (by decide +kernel) (by decide +kernel))
theorem ml_RX1_70 : Cond.methodLink RX1 70 yX7_pack ∈ gg_tG := (gg_in 512 (by decide +kernel) (by decide +kernel))
theorem ml_RX1_74 : Cond.methodLink RX1 74 yX0_weightOf ∈ gg_tG := (gg_in 516 (by decide +kernel) (by decide +kernel))
theorem ml_RX1_84 : Cond.methodLink RX1 84 yJ7_fill_53178 ∈ gg_tG := (gg_in 520 (by decide +kernel) (by decide +kernel))
theorem ml_RX1_93 : Cond.methodLink RX1 93 yJ9_max_7cf53 ∈ gg_tG := (gg_in 590 (by decide +kernel) (by decide +kernel))
theorem ml_RX1_98 : (RX1, 98, yX10_isBelow, RX10) ∈ gg_nw := by decide +kernel
theorem ml_RX1_102 : Cond.methodLink RX1 102 yX7_unpack ∈ gg_tG := (gg_in 577 (by decide +kernel) (by decide +kernel))
theorem ml_RX1_106 : Cond.methodLink RX1 106 yX1_part ∈ gg_tG := (gg_in 599 (by decide +kernel) (by decide +kernel))
theorem ml_RX1_110 : Cond.methodLink RX1 110 yX1_weightRunning ∈ gg_tG := (gg_in 600 (by decide +kernel) (by decide +kernel))
theorem ml_RX2_22 : (RX2, 22, yX10_isBelow, RX10) ∈ gg_nw := by decide +kernel
theorem ml_RX3_28 : (RX3, 28, yX10_isBelow, RX10) ∈ gg_nw := by decide +kernel
theorem ml_RX3_36 : Cond.methodLink RX3 36 yX3_lawSays ∈ gg_tG := (gg_in 678 (by decide +kernel) (by decide +kernel))
theorem ml_RX3_40 : Cond.methodLink RX3 40 yJ9_abs_0f7a4 ∈ gg_tG := (gg_in 679 (by decide +kernel) (by decide +kernel))
theorem ml_RX3_46 : Cond.methodLink RX3 46 yX3_offBy ∈ gg_tG := (gg_in 695 (by decide +kernel) (by decide +kernel))
theorem ml_RX3_53 : Cond.methodLink RX3 53 yX3_takeIfBetter ∈ gg_tG := (gg_in 691 (by decide +kernel) (by decide +kernel))
theorem ml_RX4_19 : Cond.methodLink RX4 19 yX4_reset ∈ gg_tG := (gg_in 103 (by decide +kernel) (by decide +kernel))
theorem ml_RX4_22 : Cond.methodLink RX4 22 yX4_faultOf ∈ gg_tG := (gg_in 380 (by decide +kernel) (by decide +kernel))
theorem ml_RX4_34 : Cond.methodLink RX4 34 yX8_byteAt ∈ gg_tG := (gg_in 384 (by decide +kernel) (by decide +kernel))
theorem ml_RX4_38 : Cond.methodLink RX4 38 yX4_qualityOf ∈ gg_tG := (gg_in 388 (by decide +kernel) (by decide +kernel))
theorem ml_RX4_41 : Cond.methodLink RX4 41 yX8_figureAt ∈ gg_tG := (gg_in 393 (by decide +kernel) (by decide +kernel))
theorem ml_RX5_22 : Cond.methodLink RX5 22 yX5_faultOf ∈ gg_tG := (gg_in 404 (by decide +kernel) (by decide +kernel))
theorem ml_RX5_29 : Cond.methodLink RX5 29 yX8_figureAt ∈ gg_tG := (gg_in 408 (by decide +kernel) (by decide +kernel))
theorem ml_RX5_33 : Cond.methodLink RX5 33 yX8_byteAt ∈ gg_tG := (gg_in 409 (by decide +kernel) (by decide +kernel))
theorem ml_RX5_36 : Cond.methodLink RX5 36 yX5_add ∈ gg_tG := (gg_in 410 (by decide +kernel) (by decide +kernel))
theorem ml_RX6_19 : Cond.methodLink RX6 19 yJ7_fill_53178 ∈ gg_tG := (gg_in 704 (by decide +kernel) (by decide +kernel))
theorem ml_RX6_28 : Cond.methodLink RX6 28 yX6_isLost ∈ gg_tG := (gg_in 717 (by decide +kernel) (by decide +kernel))
theorem ml_RX6_32 : (RX6, 32, yX10_isBelow, RX10) ∈ gg_nw := by decide +kernel
theorem ml_RX7_43 : Cond.methodLink RX7 43 yX7_partOf ∈ gg_tG := (gg_in 566 (by decide +kernel) (by decide +kernel))
theorem ml_RX7_47 : (RX7, 47, yX10_isBelow, RX10) ∈ gg_nw := by decide +kernel
theorem ml_RX7_54 : Cond.methodLink RX7 54 yX7_turn ∈ gg_tG := (gg_in 488 (by decide +kernel) (by decide +kernel))
theorem ml_RX7_58 : Cond.methodLink RX7 58 yX7_tend ∈ gg_tG := (gg_in 500 (by decide +kernel) (by decide +kernel))
theorem ml_RX7_61 : Cond.methodLink RX7 61 yX7_signOf ∈ gg_tG := (gg_in 492 (by decide +kernel) (by decide +kernel))
theorem ml_RX7_64 : Cond.methodLink RX7 64 yJ9_max_7cf53 ∈ gg_tG := (gg_in 496 (by decide +kernel) (by decide +kernel))
theorem ml_RX7_70 : Cond.methodLink RX7 70 yJ9_min_7cf53 ∈ gg_tG := (gg_in 497 (by decide +kernel) (by decide +kernel))
theorem ml_RX7_73 : Cond.methodLink RX7 73 yX7_dry ∈ gg_tG := (gg_in 504 (by decide +kernel) (by decide +kernel))
theorem ml_RX7_77 : Cond.methodLink RX7 77 yX7_begin ∈ gg_tG := (gg_in 646 (by decide +kernel) (by decide +kernel))
theorem ml_RX7_81 : Cond.methodLink RX7 81 yX7_does ∈ gg_tG := (gg_in 647 (by decide +kernel) (by decide +kernel))
theorem ml_RX8_25 : Cond.methodLink RX8 25 yX8_byteAt ∈ gg_tG := (gg_in 397 (by decide +kernel) (by decide +kernel))
theorem ml_RX9_19 : Cond.methodLink RX9 19 yX7_begin ∈ gg_tG := (gg_in 613 (by decide +kernel) (by decide +kernel))
theorem ml_RX9_30 : Cond.methodLink RX9 30 yX5_actAt ∈ gg_tG := (gg_in 614 (by decide +kernel) (by decide +kernel))
theorem ml_RX9_34 : Cond.methodLink RX9 34 yX7_does ∈ gg_tG := (gg_in 618 (by decide +kernel) (by decide +kernel))
theorem ml_RX9_45 : Cond.methodLink RX9 45 yX0_weightOf ∈ gg_tG := (gg_in 623 (by decide +kernel) (by decide +kernel))
theorem ml_RL_13 : Cond.methodLink RL 13 yX10_type ∈ gg_tG := (gg_in 357 (by decide +kernel) (by decide +kernel))
theorem ml_RL_17 : Cond.methodLink RL 17 yX11_type ∈ gg_tG := (gg_in 861 (by decide +kernel) (by decide +kernel))
theorem ml_RL_18 : Cond.methodLink RL 18 yX10_wipe ∈ gg_tG := (gg_in 414 (by decide +kernel) (by decide +kernel))
theorem ml_RL_22 : Cond.methodLink RL 22 yX11_wipe ∈ gg_tG := (gg_in 871 (by decide +kernel) (by decide +kernel))
theorem ml_RL_23 : Cond.methodLink RL 23 yX10_fault ∈ gg_tG := (gg_in 418 (by decide +kernel) (by decide +kernel))
theorem ml_RL_26 : Cond.methodLink RL 26 yX11_fault ∈ gg_tG := (gg_in 875 (by decide +kernel) (by decide +kernel))
theorem ml_RL_27 : Cond.methodLink RL 27 yX10_motor ∈ gg_tG := (gg_in 422 (by decide +kernel) (by decide +kernel))
theorem ml_RL_30 : Cond.methodLink RL 30 yX11_motor ∈ gg_tG := (gg_in 908 (by decide +kernel) (by decide +kernel))
theorem ml_RL_31 : Cond.methodLink RL 31 yX10_ahead ∈ gg_tG := (gg_in 426 (by decide +kernel) (by decide +kernel))
theorem ml_RL_34 : Cond.methodLink RL 34 yX11_ahead ∈ gg_tG := (gg_in 916 (by decide +kernel) (by decide +kernel))
theorem ml_RL_35 : Cond.methodLink RL 35 yX10_see ∈ gg_tG := (gg_in 430 (by decide +kernel) (by decide +kernel))
theorem ml_RL_38 : Cond.methodLink RL 38 yX11_see ∈ gg_tG := (gg_in 920 (by decide +kernel) (by decide +kernel))
theorem ml_RL_39 : Cond.methodLink RL 39 yX10_read ∈ gg_tG := (gg_in 438 (by decide +kernel) (by decide +kernel))
theorem ml_RL_42 : Cond.methodLink RL 42 yX11_read ∈ gg_tG := (gg_in 928 (by decide +kernel) (by decide +kernel))
theorem ml_RL_43 : Cond.methodLink RL 43 yX10_back ∈ gg_tG := (gg_in 456 (by decide +kernel) (by decide +kernel))
theorem ml_RL_47 : Cond.methodLink RL 47 yX11_back ∈ gg_tG := (gg_in 939 (by decide +kernel) (by decide +kernel))
theorem ml_RL_48 : Cond.methodLink RL 48 yX10_left ∈ gg_tG := (gg_in 460 (by decide +kernel) (by decide +kernel))
theorem ml_RL_51 : Cond.methodLink RL 51 yX11_left ∈ gg_tG := (gg_in 943 (by decide +kernel) (by decide +kernel))
theorem ml_RL_52 : Cond.methodLink RL 52 yX10_odds ∈ gg_tG := (gg_in 529 (by decide +kernel) (by decide +kernel))
theorem ml_RL_56 : Cond.methodLink RL 56 yX11_odds ∈ gg_tG := (gg_in 977 (by decide +kernel) (by decide +kernel))
theorem ml_RL_57 : Cond.methodLink RL 57 yX10_trouble ∈ gg_tG := (gg_in 543 (by decide +kernel) (by decide +kernel))
theorem ml_RL_60 : Cond.methodLink RL 60 yX11_trouble ∈ gg_tG := (gg_in 991 (by decide +kernel) (by decide +kernel))
theorem ml_RL_61 : Cond.methodLink RL 61 yX10_state ∈ gg_tG := (gg_in 551 (by decide +kernel) (by decide +kernel))
theorem ml_RL_64 : Cond.methodLink RL 64 yX11_state ∈ gg_tG := (gg_in 999 (by decide +kernel) (by decide +kernel))
theorem ml_RL_65 : Cond.methodLink RL 65 yX10_sign ∈ gg_tG := (gg_in 558 (by decide +kernel) (by decide +kernel))
theorem ml_RL_68 : Cond.methodLink RL 68 yX11_sign ∈ gg_tG := (gg_in 1007 (by decide +kernel) (by decide +kernel))
theorem ml_RL_69 : Cond.methodLink RL 69 yX10_chance ∈ gg_tG := (gg_in 568 (by decide +kernel) (by decide +kernel))
theorem ml_RL_73 : Cond.methodLink RL 73 yX11_chance ∈ gg_tG := (gg_in 1011 (by decide +kernel) (by decide +kernel))
theorem ml_RL_74 : Cond.methodLink RL 74 yX10_parts ∈ gg_tG := (gg_in 578 (by decide +kernel) (by decide +kernel))
theorem ml_RL_77 : Cond.methodLink RL 77 yX11_parts ∈ gg_tG := (gg_in 1039 (by decide +kernel) (by decide +kernel))
theorem ml_RL_78 : Cond.methodLink RL 78 yX10_sure ∈ gg_tG := (gg_in 582 (by decide +kernel) (by decide +kernel))
theorem ml_RL_81 : Cond.methodLink RL 81 yX11_sure ∈ gg_tG := (gg_in 1047 (by decide +kernel) (by decide +kernel))
theorem ml_RL_82 : Cond.methodLink RL 82 yX10_best ∈ gg_tG := (gg_in 591 (by decide +kernel) (by decide +kernel))
theorem ml_RL_85 : Cond.methodLink RL 85 yX11_best ∈ gg_tG := (gg_in 1051 (by decide +kernel) (by decide +kernel))
theorem ml_RL_86 : Cond.methodLink RL 86 yX10_habit ∈ gg_tG := (gg_in 601 (by decide +kernel) (by decide +kernel))
theorem ml_RL_89 : Cond.methodLink RL 89 yX11_habit ∈ gg_tG := (gg_in 1067 (by decide +kernel) (by decide +kernel))
theorem ml_RL_90 : Cond.methodLink RL 90 yX10_has ∈ gg_tG := (gg_in 629 (by decide +kernel) (by decide +kernel))
theorem ml_RL_93 : Cond.methodLink RL 93 yX11_has ∈ gg_tG := (gg_in 1080 (by decide +kernel) (by decide +kernel))
theorem ml_RL_94 : Cond.methodLink RL 94 yX10_work ∈ gg_tG := (gg_in 633 (by decide +kernel) (by decide +kernel))
theorem ml_RL_98 : Cond.methodLink RL 98 yX11_work ∈ gg_tG := (gg_in 1088 (by decide +kernel) (by decide +kernel))
theorem ml_RL_99 : Cond.methodLink RL 99 yX10_drowned ∈ gg_tG := (gg_in 638 (by decide +kernel) (by decide +kernel))
theorem ml_RL_102 : Cond.methodLink RL 102 yX11_drowned ∈ gg_tG := (gg_in 1096 (by decide +kernel) (by decide +kernel))
theorem ml_RL_103 : Cond.methodLink RL 103 yX10_morning ∈ gg_tG := (gg_in 648 (by decide +kernel) (by decide +kernel))
theorem ml_RL_107 : Cond.methodLink RL 107 yX11_morning ∈ gg_tG := (gg_in 1104 (by decide +kernel) (by decide +kernel))
theorem ml_RL_108 : Cond.methodLink RL 108 yX10_says ∈ gg_tG := (gg_in 660 (by decide +kernel) (by decide +kernel))
theorem ml_RL_112 : Cond.methodLink RL 112 yX11_says ∈ gg_tG := (gg_in 1108 (by decide +kernel) (by decide +kernel))
theorem ml_RL_113 : Cond.methodLink RL 113 yX10_misses ∈ gg_tG := (gg_in 670 (by decide +kernel) (by decide +kernel))
theorem ml_RL_116 : Cond.methodLink RL 116 yX11_misses ∈ gg_tG := (gg_in 1118 (by decide +kernel) (by decide +kernel))
theorem ml_RL_117 : Cond.methodLink RL 117 yX10_fits ∈ gg_tG := (gg_in 682 (by decide +kernel) (by decide +kernel))
theorem ml_RL_120 : Cond.methodLink RL 120 yX11_fits ∈ gg_tG := (gg_in 1129 (by decide +kernel) (by decide +kernel))
theorem ml_RL_121 : Cond.methodLink RL 121 yX10_sheet ∈ gg_tG := (gg_in 696 (by decide +kernel) (by decide +kernel))
theorem ml_RL_124 : Cond.methodLink RL 124 yX11_sheet ∈ gg_tG := (gg_in 1137 (by decide +kernel) (by decide +kernel))
theorem ml_RL_125 : Cond.methodLink RL 125 yX10_lose ∈ gg_tG := (gg_in 705 (by decide +kernel) (by decide +kernel))
theorem ml_RL_128 : Cond.methodLink RL 128 yX11_lose ∈ gg_tG := (gg_in 1141 (by decide +kernel) (by decide +kernel))
theorem ml_RL_129 : Cond.methodLink RL 129 yX10_put ∈ gg_tG := (gg_in 709 (by decide +kernel) (by decide +kernel))
theorem ml_RL_133 : Cond.methodLink RL 133 yX11_put ∈ gg_tG := (gg_in 1145 (by decide +kernel) (by decide +kernel))
theorem ml_RL_134 : Cond.methodLink RL 134 yX10_get ∈ gg_tG := (gg_in 722 (by decide +kernel) (by decide +kernel))
theorem ml_RL_137 : Cond.methodLink RL 137 yX11_get ∈ gg_tG := (gg_in 1157 (by decide +kernel) (by decide +kernel))
theorem ml_RL_138 : Cond.methodLink RL 138 yX10_copy ∈ gg_tG := (gg_in 727 (by decide +kernel) (by decide +kernel))
theorem ml_RL_141 : Cond.methodLink RL 141 yX11_copy ∈ gg_tG := (gg_in 1162 (by decide +kernel) (by decide +kernel))
theorem ml_RL_142 : Cond.methodLink RL 142 yX10_write ∈ gg_tG := (gg_in 738 (by decide +kernel) (by decide +kernel))
theorem ml_RL_145 : Cond.methodLink RL 145 yX11_write ∈ gg_tG := (gg_in 1166 (by decide +kernel) (by decide +kernel))
theorem ml_RL_146 : Cond.methodLink RL 146 yX10_count ∈ gg_tG := (gg_in 745 (by decide +kernel) (by decide +kernel))
theorem ml_RL_149 : Cond.methodLink RL 149 yX11_count ∈ gg_tG := (gg_in 1170 (by decide +kernel) (by decide +kernel))
theorem ml_RL_150 : Cond.methodLink RL 150 yX10_digest ∈ gg_tG := (gg_in 757 (by decide +kernel) (by decide +kernel))
theorem ml_RL_154 : Cond.methodLink RL 154 yX11_digest ∈ gg_tG := (gg_in 1182 (by decide +kernel) (by decide +kernel))
theorem ml_RX11_68 : Cond.methodLink RX11 68 yX11_in ∈ gg_tG := (gg_in 868 (by decide +kernel) (by decide +kernel))
theorem ml_RX11_72 : Cond.methodLink RX11 72 yX11_isText ∈ gg_tG := (gg_in 865 (by decide +kernel) (by decide +kernel))
theorem ml_RX11_76 : Cond.methodLink RX11 76 yX11_plain ∈ gg_tG := (gg_in 887 (by decide +kernel) (by decide +kernel))
theorem ml_RX11_83 : Cond.methodLink RX11 83 yX11_byteAt ∈ gg_tG := (gg_in 891 (by decide +kernel) (by decide +kernel))
theorem ml_RX11_87 : Cond.methodLink RX11 87 yX11_letterOf ∈ gg_tG := (gg_in 895 (by decide +kernel) (by decide +kernel))
theorem ml_RX11_91 : Cond.methodLink RX11 91 yX11_isFigure ∈ gg_tG := (gg_in 898 (by decide +kernel) (by decide +kernel))
theorem ml_RX11_94 : Cond.methodLink RX11 94 yX11_mostOf ∈ gg_tG := (gg_in 901 (by decide +kernel) (by decide +kernel))
theorem ml_RX11_97 : Cond.methodLink RX11 97 yX11_motorFault ∈ gg_tG := (gg_in 883 (by decide +kernel) (by decide +kernel))
theorem ml_RX11_104 : Cond.methodLink RX11 104 yX11_motorNow ∈ gg_tG := (gg_in 879 (by decide +kernel) (by decide +kernel))
theorem ml_RX11_107 : Cond.methodLink RX11 107 yX11_habitNow ∈ gg_tG := (gg_in 904 (by decide +kernel) (by decide +kernel))
theorem ml_RX11_110 : Cond.methodLink RX11 110 yX11_motorOf ∈ gg_tG := (gg_in 912 (by decide +kernel) (by decide +kernel))
theorem ml_RX11_113 : Cond.methodLink RX11 113 yX11_lightFor ∈ gg_tG := (gg_in 963 (by decide +kernel) (by decide +kernel))
theorem ml_RX11_116 : Cond.methodLink RX11 116 yX11_turns ∈ gg_tG := (gg_in 966 (by decide +kernel) (by decide +kernel))
theorem ml_RX11_119 : Cond.methodLink RX11 119 yX11_isIn ∈ gg_tG := (gg_in 970 (by decide +kernel) (by decide +kernel))
theorem ml_RX11_126 : Cond.methodLink RX11 126 yX11_more ∈ gg_tG := (gg_in 924 (by decide +kernel) (by decide +kernel))
theorem ml_RX11_129 : Cond.methodLink RX11 129 yX11_isSheet ∈ gg_tG := (gg_in 932 (by decide +kernel) (by decide +kernel))
theorem ml_RX11_132 : Cond.methodLink RX11 132 yX11_meets ∈ gg_tG := (gg_in 935 (by decide +kernel) (by decide +kernel))
theorem ml_RX11_139 : Cond.methodLink RX11 139 yX11_begins ∈ gg_tG := (gg_in 955 (by decide +kernel) (by decide +kernel))
theorem ml_RX11_143 : Cond.methodLink RX11 143 yX11_does ∈ gg_tG := (gg_in 959 (by decide +kernel) (by decide +kernel))
theorem ml_RX11_147 : Cond.methodLink RX11 147 yX11_partsOf ∈ gg_tG := (gg_in 973 (by decide +kernel) (by decide +kernel))
theorem ml_RX11_151 : Cond.methodLink RX11 151 yX11_lays ∈ gg_tG := (gg_in 951 (by decide +kernel) (by decide +kernel))
theorem ml_RX11_154 : Cond.methodLink RX11 154 yX11_leftNow ∈ gg_tG := (gg_in 947 (by decide +kernel) (by decide +kernel))
theorem ml_RX11_157 : Cond.methodLink RX11 157 yX11_isSet ∈ gg_tG := (gg_in 981 (by decide +kernel) (by decide +kernel))
theorem ml_RX11_160 : Cond.methodLink RX11 160 yX11_no ∈ gg_tG := (gg_in 984 (by decide +kernel) (by decide +kernel))
theorem ml_RX11_163 : Cond.methodLink RX11 163 yX11_lowest ∈ gg_tG := (gg_in 988 (by decide +kernel) (by decide +kernel))
theorem ml_RX11_167 : Cond.methodLink RX11 167 yX11_troubleNow ∈ gg_tG := (gg_in 995 (by decide +kernel) (by decide +kernel))
theorem ml_RX11_171 : Cond.methodLink RX11 171 yX11_stateNow ∈ gg_tG := (gg_in 1003 (by decide +kernel) (by decide +kernel))
theorem ml_RX11_174 : Cond.methodLink RX11 174 yX11_moves ∈ gg_tG := (gg_in 1027 (by decide +kernel) (by decide +kernel))
theorem ml_RX11_178 : Cond.methodLink RX11 178 yX11_those ∈ gg_tG := (gg_in 1019 (by decide +kernel) (by decide +kernel))
theorem ml_RX11_181 : Cond.methodLink RX11 181 yX11_goesOn ∈ gg_tG := (gg_in 1023 (by decide +kernel) (by decide +kernel))
theorem ml_RX11_184 : Cond.methodLink RX11 184 yX11_groupBy ∈ gg_tG := (gg_in 1031 (by decide +kernel) (by decide +kernel))
theorem ml_RX11_187 : Cond.methodLink RX11 187 yX11_weightOf ∈ gg_tG := (gg_in 1035 (by decide +kernel) (by decide +kernel))
theorem ml_RX11_190 : Cond.methodLink RX11 190 yX11_chanceNow ∈ gg_tG := (gg_in 1015 (by decide +kernel) (by decide +kernel))
theorem ml_RX11_194 : Cond.methodLink RX11 194 yX11_partsNow ∈ gg_tG := (gg_in 1043 (by decide +kernel) (by decide +kernel))
theorem ml_RX11_197 : Cond.methodLink RX11 197 yX11_inOne ∈ gg_tG := (gg_in 1059 (by decide +kernel) (by decide +kernel))
theorem ml_RX11_200 : Cond.methodLink RX11 200 yX11_inTwo ∈ gg_tG := (gg_in 1063 (by decide +kernel) (by decide +kernel))
theorem ml_RX11_203 : Cond.methodLink RX11 203 yX11_bestNow ∈ gg_tG := (gg_in 1055 (by decide +kernel) (by decide +kernel))
theorem ml_RX11_209 : Cond.methodLink RX11 209 yX11_runsBy ∈ gg_tG := (gg_in 1075 (by decide +kernel) (by decide +kernel))
theorem ml_RX11_214 : Cond.methodLink RX11 214 yX11_habitOf ∈ gg_tG := (gg_in 1071 (by decide +kernel) (by decide +kernel))
theorem ml_RX11_217 : Cond.methodLink RX11 217 yX11_hasNow ∈ gg_tG := (gg_in 1084 (by decide +kernel) (by decide +kernel))
theorem ml_RX11_220 : Cond.methodLink RX11 220 yX11_workNow ∈ gg_tG := (gg_in 1092 (by decide +kernel) (by decide +kernel))
theorem ml_RX11_223 : Cond.methodLink RX11 223 yX11_drownedNow ∈ gg_tG := (gg_in 1100 (by decide +kernel) (by decide +kernel))
theorem ml_RX11_229 : Cond.methodLink RX11 229 yX11_isLaw ∈ gg_tG := (gg_in 1112 (by decide +kernel) (by decide +kernel))
theorem ml_RX11_232 : Cond.methodLink RX11 232 yX11_saysOf ∈ gg_tG := (gg_in 1115 (by decide +kernel) (by decide +kernel))
theorem ml_RX11_236 : Cond.methodLink RX11 236 yX11_amount ∈ gg_tG := (gg_in 1126 (by decide +kernel) (by decide +kernel))
theorem ml_RX11_239 : Cond.methodLink RX11 239 yX11_missesOf ∈ gg_tG := (gg_in 1122 (by decide +kernel) (by decide +kernel))
theorem ml_RX11_242 : Cond.methodLink RX11 242 yX11_fitsNow ∈ gg_tG := (gg_in 1133 (by decide +kernel) (by decide +kernel))
theorem ml_RX11_248 : Cond.methodLink RX11 248 yX11_lacks ∈ gg_tG := (gg_in 1149 (by decide +kernel) (by decide +kernel))
theorem ml_RX11_251 : Cond.methodLink RX11 251 yX11_keep ∈ gg_tG := (gg_in 1153 (by decide +kernel) (by decide +kernel))
theorem ml_RX11_255 : Cond.methodLink RX11 255 yX11_sumOf ∈ gg_tG := (gg_in 1174 (by decide +kernel) (by decide +kernel))
theorem ml_RX11_258 : Cond.methodLink RX11 258 yX11_actsOfHabit ∈ gg_tG := (gg_in 1178 (by decide +kernel) (by decide +kernel))
theorem ml_RX11_265 : Cond.methodLink RX11 265 yX11_count ∈ gg_tG := (gg_in 1188 (by decide +kernel) (by decide +kernel))
theorem Y_X10_ahead : gg_Y yX10_ahead cX10_ahead 4 (some .int) 2 := gg_Y_of (gg_in 429 (by decide +kernel) (by decide +kernel)) (gg_in 53 (by decide +kernel) (by decide +kernel)) (by decide) (by decide +kernel) (by decide)
theorem YV_X10_ahead : gg_YV yX10_ahead := ⟨(gg_in 427 (by decide +kernel) (by decide +kernel)), (gg_in 428 (by decide +kernel) (by decide +kernel))⟩
theorem Y_X10_back : gg_Y yX10_back cX10_back 1 (some .int) 0 := gg_Y_of (gg_in 459 (by decide +kernel) (by decide +kernel)) (gg_in 53 (by decide +kernel) (by decide +kernel)) (by decide) (by decide +kernel) (by decide)
theorem YV_X10_back : gg_YV yX10_back := ⟨(gg_in 457 (by decide +kernel) (by decide +kernel)), (gg_in 458 (by decide +kernel) (by decide +kernel))⟩
theorem Y_X10_best : gg_Y yX10_best cX10_best 4 (some .long) 2 := gg_Y_of (gg_in 594 (by decide +kernel) (by decide +kernel)) (gg_in 53 (by decide +kernel) (by decide +kernel)) (by decide) (by decide +kernel) (by decide)
theorem YV_X10_best : gg_YV yX10_best := ⟨(gg_in 592 (by decide +kernel) (by decide +kernel)), (gg_in 593 (by decide +kernel) (by decide +kernel))⟩
theorem Y_X10_chance : gg_Y yX10_chance cX10_chance 5 (some .long) 3 := gg_Y_of (gg_in 571 (by decide +kernel) (by decide +kernel)) (gg_in 53 (by decide +kernel) (by decide +kernel)) (by decide) (by decide +kernel) (by decide)
theorem YV_X10_chance : gg_YV yX10_chance := ⟨(gg_in 569 (by decide +kernel) (by decide +kernel)), (gg_in 570 (by decide +kernel) (by decide +kernel))⟩
theorem Y_X10_commonDivisor : gg_Y yX10_commonDivisor cX10_commonDivisor 11 (some .long) 2 := gg_Y_of (gg_in 542 (by decide +kernel) (by decide +kernel)) (gg_in 53 (by decide +kernel) (by decide +kernel)) (by decide) (by decide +kernel) (by decide)
theorem YS_X10_commonDivisor : Cond.static yX10_commonDivisor ∈ gg_tG := (gg_in 541 (by decide +kernel) (by decide +kernel))
theorem Y_X10_copy : gg_Y yX10_copy cX10_copy 8 (some .int) 5 := gg_Y_of (gg_in 730 (by decide +kernel) (by decide +kernel)) (gg_in 53 (by decide +kernel) (by decide +kernel)) (by decide) (by decide +kernel) (by decide)
theorem YV_X10_copy : gg_YV yX10_copy := ⟨(gg_in 728 (by decide +kernel) (by decide +kernel)), (gg_in 729 (by decide +kernel) (by decide +kernel))⟩
theorem Y_X10_count : gg_Y yX10_count cX10_count 2 (some .int) 1 := gg_Y_of (gg_in 748 (by decide +kernel) (by decide +kernel)) (gg_in 53 (by decide +kernel) (by decide +kernel)) (by decide) (by decide +kernel) (by decide)
theorem YV_X10_count : gg_YV yX10_count := ⟨(gg_in 746 (by decide +kernel) (by decide +kernel)), (gg_in 747 (by decide +kernel) (by decide +kernel))⟩
theorem Y_X10_digest : gg_Y yX10_digest cX10_digest 5 (some .long) 0 := gg_Y_of (gg_in 760 (by decide +kernel) (by decide +kernel)) (gg_in 53 (by decide +kernel) (by decide +kernel)) (by decide) (by decide +kernel) (by decide)
theorem YV_X10_digest : gg_YV yX10_digest := ⟨(gg_in 758 (by decide +kernel) (by decide +kernel)), (gg_in 759 (by decide +kernel) (by decide +kernel))⟩
theorem Y_X10_drowned : gg_Y yX10_drowned cX10_drowned 3 (some .int) 2 := gg_Y_of (gg_in 641 (by decide +kernel) (by decide +kernel)) (gg_in 53 (by decide +kernel) (by decide +kernel)) (by decide) (by decide +kernel) (by decide)
theorem YV_X10_drowned : gg_YV yX10_drowned := ⟨(gg_in 639 (by decide +kernel) (by decide +kernel)), (gg_in 640 (by decide +kernel) (by decide +kernel))⟩
theorem Y_X10_fault : gg_Y yX10_fault cX10_fault 2 (some .int) 1 := gg_Y_of (gg_in 421 (by decide +kernel) (by decide +kernel)) (gg_in 53 (by decide +kernel) (by decide +kernel)) (by decide) (by decide +kernel) (by decide)
theorem YV_X10_fault : gg_YV yX10_fault := ⟨(gg_in 419 (by decide +kernel) (by decide +kernel)), (gg_in 420 (by decide +kernel) (by decide +kernel))⟩
theorem Y_X10_fits : gg_Y yX10_fits cX10_fits 2 (some .int) 1 := gg_Y_of (gg_in 685 (by decide +kernel) (by decide +kernel)) (gg_in 53 (by decide +kernel) (by decide +kernel)) (by decide) (by decide +kernel) (by decide)
theorem YV_X10_fits : gg_YV yX10_fits := ⟨(gg_in 683 (by decide +kernel) (by decide +kernel)), (gg_in 684 (by decide +kernel) (by decide +kernel))⟩
theorem Y_X10_found : gg_Y yX10_found cX10_found 2 (some .int) 1 := gg_Y_of (gg_in 449 (by decide +kernel) (by decide +kernel)) (gg_in 53 (by decide +kernel) (by decide +kernel)) (by decide) (by decide +kernel) (by decide)
theorem YV_X10_found : gg_YV yX10_found := ⟨(gg_in 448 (by decide +kernel) (by decide +kernel)), (gg_in 6 (by decide +kernel) (by decide +kernel))⟩
theorem Y_X10_get : gg_Y yX10_get cX10_get 5 (some .int) 3 := gg_Y_of (gg_in 725 (by decide +kernel) (by decide +kernel)) (gg_in 53 (by decide +kernel) (by decide +kernel)) (by decide) (by decide +kernel) (by decide)
theorem YV_X10_get : gg_YV yX10_get := ⟨(gg_in 723 (by decide +kernel) (by decide +kernel)), (gg_in 724 (by decide +kernel) (by decide +kernel))⟩
theorem Y_X10_habit : gg_Y yX10_habit cX10_habit 4 (some .long) 2 := gg_Y_of (gg_in 604 (by decide +kernel) (by decide +kernel)) (gg_in 53 (by decide +kernel) (by decide +kernel)) (by decide) (by decide +kernel) (by decide)
theorem YV_X10_habit : gg_YV yX10_habit := ⟨(gg_in 602 (by decide +kernel) (by decide +kernel)), (gg_in 603 (by decide +kernel) (by decide +kernel))⟩
theorem Y_X10_has : gg_Y yX10_has cX10_has 3 (some .int) 1 := gg_Y_of (gg_in 632 (by decide +kernel) (by decide +kernel)) (gg_in 53 (by decide +kernel) (by decide +kernel)) (by decide) (by decide +kernel) (by decide)
theorem YV_X10_has : gg_YV yX10_has := ⟨(gg_in 630 (by decide +kernel) (by decide +kernel)), (gg_in 631 (by decide +kernel) (by decide +kernel))⟩
theorem Y_X10_isBelow : gg_Y yX10_isBelow cX10_isBelow 2 (some .boolean) 2 := gg_Y_of (gg_in 363 (by decide +kernel) (by decide +kernel)) (gg_in 53 (by decide +kernel) (by decide +kernel)) (by decide) (by decide +kernel) (by decide)
theorem YS_X10_isBelow : Cond.static yX10_isBelow ∈ gg_tG := (gg_in 362 (by decide +kernel) (by decide +kernel))
theorem Y_X10_isDay : gg_Y yX10_isDay cX10_isDay 2 (some .boolean) 2 := gg_Y_of (gg_in 654 (by decide +kernel) (by decide +kernel)) (gg_in 53 (by decide +kernel) (by decide +kernel)) (by decide) (by decide +kernel) (by decide)
theorem YS_X10_isDay : Cond.static yX10_isDay ∈ gg_tG := (gg_in 653 (by decide +kernel) (by decide +kernel))
theorem Y_X10_isLaw : gg_Y yX10_isLaw cX10_isLaw 3 (some .boolean) 3 := gg_Y_of (gg_in 666 (by decide +kernel) (by decide +kernel)) (gg_in 53 (by decide +kernel) (by decide +kernel)) (by decide) (by decide +kernel) (by decide)
theorem YS_X10_isLaw : Cond.static yX10_isLaw ∈ gg_tG := (gg_in 665 (by decide +kernel) (by decide +kernel))
theorem Y_X10_known : gg_Y yX10_known cX10_known 1 (some (.object "ColdMotor$Belief")) 0 := gg_Y_of (gg_in 467 (by decide +kernel) (by decide +kernel)) (gg_in 53 (by decide +kernel) (by decide +kernel)) (by decide) (by decide +kernel) (by decide)
theorem YV_X10_known : gg_YV yX10_known := ⟨(gg_in 466 (by decide +kernel) (by decide +kernel)), (gg_in 7 (by decide +kernel) (by decide +kernel))⟩
theorem Y_X10_left : gg_Y yX10_left cX10_left 1 (some .int) 0 := gg_Y_of (gg_in 463 (by decide +kernel) (by decide +kernel)) (gg_in 53 (by decide +kernel) (by decide +kernel)) (by decide) (by decide +kernel) (by decide)
theorem YV_X10_left : gg_YV yX10_left := ⟨(gg_in 461 (by decide +kernel) (by decide +kernel)), (gg_in 462 (by decide +kernel) (by decide +kernel))⟩
theorem Y_X10_lose : gg_Y yX10_lose cX10_lose 3 (some .int) 1 := gg_Y_of (gg_in 708 (by decide +kernel) (by decide +kernel)) (gg_in 53 (by decide +kernel) (by decide +kernel)) (by decide) (by decide +kernel) (by decide)
theorem YV_X10_lose : gg_YV yX10_lose := ⟨(gg_in 706 (by decide +kernel) (by decide +kernel)), (gg_in 707 (by decide +kernel) (by decide +kernel))⟩
theorem Y_X10_misses : gg_Y yX10_misses cX10_misses 4 (some .int) 3 := gg_Y_of (gg_in 673 (by decide +kernel) (by decide +kernel)) (gg_in 53 (by decide +kernel) (by decide +kernel)) (by decide) (by decide +kernel) (by decide)
theorem YV_X10_misses : gg_YV yX10_misses := ⟨(gg_in 671 (by decide +kernel) (by decide +kernel)), (gg_in 672 (by decide +kernel) (by decide +kernel))⟩
theorem Y_X10_morning : gg_Y yX10_morning cX10_morning 4 (some .int) 3 := gg_Y_of (gg_in 651 (by decide +kernel) (by decide +kernel)) (gg_in 53 (by decide +kernel) (by decide +kernel)) (by decide) (by decide +kernel) (by decide)
theorem YV_X10_morning : gg_YV yX10_morning := ⟨(gg_in 649 (by decide +kernel) (by decide +kernel)), (gg_in 650 (by decide +kernel) (by decide +kernel))⟩
theorem Y_X10_motor : gg_Y yX10_motor cX10_motor 2 (some .int) 1 := gg_Y_of (gg_in 425 (by decide +kernel) (by decide +kernel)) (gg_in 53 (by decide +kernel) (by decide +kernel)) (by decide) (by decide +kernel) (by decide)
theorem YV_X10_motor : gg_YV yX10_motor := ⟨(gg_in 423 (by decide +kernel) (by decide +kernel)), (gg_in 424 (by decide +kernel) (by decide +kernel))⟩
theorem Y_X10_odds : gg_Y yX10_odds cX10_odds 4 (some .long) 2 := gg_Y_of (gg_in 532 (by decide +kernel) (by decide +kernel)) (gg_in 53 (by decide +kernel) (by decide +kernel)) (by decide) (by decide +kernel) (by decide)
theorem YV_X10_odds : gg_YV yX10_odds := ⟨(gg_in 530 (by decide +kernel) (by decide +kernel)), (gg_in 531 (by decide +kernel) (by decide +kernel))⟩
theorem Y_X10_parts : gg_Y yX10_parts cX10_parts 5 (some .int) 1 := gg_Y_of (gg_in 581 (by decide +kernel) (by decide +kernel)) (gg_in 53 (by decide +kernel) (by decide +kernel)) (by decide) (by decide +kernel) (by decide)
theorem YV_X10_parts : gg_YV yX10_parts := ⟨(gg_in 579 (by decide +kernel) (by decide +kernel)), (gg_in 580 (by decide +kernel) (by decide +kernel))⟩
theorem Y_X10_put : gg_Y yX10_put cX10_put 6 (some .int) 4 := gg_Y_of (gg_in 712 (by decide +kernel) (by decide +kernel)) (gg_in 53 (by decide +kernel) (by decide +kernel)) (by decide) (by decide +kernel) (by decide)
theorem YV_X10_put : gg_YV yX10_put := ⟨(gg_in 710 (by decide +kernel) (by decide +kernel)), (gg_in 711 (by decide +kernel) (by decide +kernel))⟩
theorem Y_X10_read : gg_Y yX10_read cX10_read 5 (some .int) 1 := gg_Y_of (gg_in 441 (by decide +kernel) (by decide +kernel)) (gg_in 53 (by decide +kernel) (by decide +kernel)) (by decide) (by decide +kernel) (by decide)
theorem YV_X10_read : gg_YV yX10_read := ⟨(gg_in 439 (by decide +kernel) (by decide +kernel)), (gg_in 440 (by decide +kernel) (by decide +kernel))⟩
theorem Y_X10_refusal : gg_Y yX10_refusal cX10_refusal 1 (some .long) 1 := gg_Y_of (gg_in 535 (by decide +kernel) (by decide +kernel)) (gg_in 53 (by decide +kernel) (by decide +kernel)) (by decide) (by decide +kernel) (by decide)
theorem YS_X10_refusal : Cond.static yX10_refusal ∈ gg_tG := (gg_in 534 (by decide +kernel) (by decide +kernel))
theorem Y_X10_says : gg_Y yX10_says cX10_says 6 (some .int) 5 := gg_Y_of (gg_in 663 (by decide +kernel) (by decide +kernel)) (gg_in 53 (by decide +kernel) (by decide +kernel)) (by decide) (by decide +kernel) (by decide)
theorem YV_X10_says : gg_YV yX10_says := ⟨(gg_in 661 (by decide +kernel) (by decide +kernel)), (gg_in 662 (by decide +kernel) (by decide +kernel))⟩
theorem Y_X10_see : gg_Y yX10_see cX10_see 3 (some .int) 2 := gg_Y_of (gg_in 433 (by decide +kernel) (by decide +kernel)) (gg_in 53 (by decide +kernel) (by decide +kernel)) (by decide) (by decide +kernel) (by decide)
theorem YV_X10_see : gg_YV yX10_see := ⟨(gg_in 431 (by decide +kernel) (by decide +kernel)), (gg_in 432 (by decide +kernel) (by decide +kernel))⟩
theorem Y_X10_sheet : gg_Y yX10_sheet cX10_sheet 4 (some .int) 3 := gg_Y_of (gg_in 699 (by decide +kernel) (by decide +kernel)) (gg_in 53 (by decide +kernel) (by decide +kernel)) (by decide) (by decide +kernel) (by decide)
theorem YV_X10_sheet : gg_YV yX10_sheet := ⟨(gg_in 697 (by decide +kernel) (by decide +kernel)), (gg_in 698 (by decide +kernel) (by decide +kernel))⟩
theorem Y_X10_sign : gg_Y yX10_sign cX10_sign 3 (some .int) 2 := gg_Y_of (gg_in 561 (by decide +kernel) (by decide +kernel)) (gg_in 53 (by decide +kernel) (by decide +kernel)) (by decide) (by decide +kernel) (by decide)
theorem YV_X10_sign : gg_YV yX10_sign := ⟨(gg_in 559 (by decide +kernel) (by decide +kernel)), (gg_in 560 (by decide +kernel) (by decide +kernel))⟩
theorem Y_X10_state : gg_Y yX10_state cX10_state 3 (some .int) 2 := gg_Y_of (gg_in 554 (by decide +kernel) (by decide +kernel)) (gg_in 53 (by decide +kernel) (by decide +kernel)) (by decide) (by decide +kernel) (by decide)
theorem YV_X10_state : gg_YV yX10_state := ⟨(gg_in 552 (by decide +kernel) (by decide +kernel)), (gg_in 553 (by decide +kernel) (by decide +kernel))⟩
theorem Y_X10_sure : gg_Y yX10_sure cX10_sure 6 (some .long) 2 := gg_Y_of (gg_in 585 (by decide +kernel) (by decide +kernel)) (gg_in 53 (by decide +kernel) (by decide +kernel)) (by decide) (by decide +kernel) (by decide)
theorem YV_X10_sure : gg_YV yX10_sure := ⟨(gg_in 583 (by decide +kernel) (by decide +kernel)), (gg_in 584 (by decide +kernel) (by decide +kernel))⟩
theorem Y_X10_textOf : gg_Y yX10_textOf cX10_textOf 2 (some (.object "ColdMotor$Text")) 1 := gg_Y_of (gg_in 367 (by decide +kernel) (by decide +kernel)) (gg_in 53 (by decide +kernel) (by decide +kernel)) (by decide) (by decide +kernel) (by decide)
theorem YV_X10_textOf : gg_YV yX10_textOf := ⟨(gg_in 366 (by decide +kernel) (by decide +kernel)), (gg_in 1 (by decide +kernel) (by decide +kernel))⟩
theorem Y_X10_told : gg_Y yX10_told cX10_told 7 (some .long) 3 := gg_Y_of (gg_in 539 (by decide +kernel) (by decide +kernel)) (gg_in 53 (by decide +kernel) (by decide +kernel)) (by decide) (by decide +kernel) (by decide)
theorem YS_X10_told : Cond.static yX10_told ∈ gg_tG := (gg_in 538 (by decide +kernel) (by decide +kernel))
theorem Y_X10_tried : gg_Y yX10_tried cX10_tried 1 (some (.object "ColdMotor$Trial")) 0 := gg_Y_of (gg_in 608 (by decide +kernel) (by decide +kernel)) (gg_in 53 (by decide +kernel) (by decide +kernel)) (by decide) (by decide +kernel) (by decide)
theorem YV_X10_tried : gg_YV yX10_tried := ⟨(gg_in 607 (by decide +kernel) (by decide +kernel)), (gg_in 13 (by decide +kernel) (by decide +kernel))⟩
theorem Y_X10_trouble : gg_Y yX10_trouble cX10_trouble 4 (some .long) 2 := gg_Y_of (gg_in 546 (by decide +kernel) (by decide +kernel)) (gg_in 53 (by decide +kernel) (by decide +kernel)) (by decide) (by decide +kernel) (by decide)
theorem YV_X10_trouble : gg_YV yX10_trouble := ⟨(gg_in 544 (by decide +kernel) (by decide +kernel)), (gg_in 545 (by decide +kernel) (by decide +kernel))⟩
theorem Y_X10_type : gg_Y yX10_type cX10_type 3 (some .int) 2 := gg_Y_of (gg_in 360 (by decide +kernel) (by decide +kernel)) (gg_in 53 (by decide +kernel) (by decide +kernel)) (by decide) (by decide +kernel) (by decide)
theorem YV_X10_type : gg_YV yX10_type := ⟨(gg_in 358 (by decide +kernel) (by decide +kernel)), (gg_in 359 (by decide +kernel) (by decide +kernel))⟩
theorem Y_X10_understand : gg_Y yX10_understand cX10_understand 2 none 1 := gg_Y_of (gg_in 375 (by decide +kernel) (by decide +kernel)) (gg_in 53 (by decide +kernel) (by decide +kernel)) (by decide) (by decide +kernel) (by decide)
theorem YV_X10_understand : gg_YV yX10_understand := ⟨(gg_in 374 (by decide +kernel) (by decide +kernel)), (gg_in 2 (by decide +kernel) (by decide +kernel))⟩
theorem Y_X10_wipe : gg_Y yX10_wipe cX10_wipe 3 (some .int) 1 := gg_Y_of (gg_in 417 (by decide +kernel) (by decide +kernel)) (gg_in 53 (by decide +kernel) (by decide +kernel)) (by decide) (by decide +kernel) (by decide)
theorem YV_X10_wipe : gg_YV yX10_wipe := ⟨(gg_in 415 (by decide +kernel) (by decide +kernel)), (gg_in 416 (by decide +kernel) (by decide +kernel))⟩
theorem Y_X10_work : gg_Y yX10_work cX10_work 9 (some .long) 1 := gg_Y_of (gg_in 636 (by decide +kernel) (by decide +kernel)) (gg_in 53 (by decide +kernel) (by decide +kernel)) (by decide) (by decide +kernel) (by decide)
theorem YV_X10_work : gg_YV yX10_work := ⟨(gg_in 634 (by decide +kernel) (by decide +kernel)), (gg_in 635 (by decide +kernel) (by decide +kernel))⟩
theorem Y_X10_write : gg_Y yX10_write cX10_write 6 (some .int) 2 := gg_Y_of (gg_in 741 (by decide +kernel) (by decide +kernel)) (gg_in 53 (by decide +kernel) (by decide +kernel)) (by decide) (by decide +kernel) (by decide)
theorem YV_X10_write : gg_YV yX10_write := ⟨(gg_in 739 (by decide +kernel) (by decide +kernel)), (gg_in 740 (by decide +kernel) (by decide +kernel))⟩
theorem Y_X0_together : gg_Y yX0_together cX0_together 3 (some .int) 0 := gg_Y_of (gg_in 752 (by decide +kernel) (by decide +kernel)) (gg_in 58 (by decide +kernel) (by decide +kernel)) (by decide) (by decide +kernel) (by decide)
theorem YV_X0_together : gg_YV yX0_together := ⟨(gg_in 750 (by decide +kernel) (by decide +kernel)), (gg_in 751 (by decide +kernel) (by decide +kernel))⟩
theorem Y_X0_weightOf : gg_Y yX0_weightOf cX0_weightOf 6 (some .int) 2 := gg_Y_of (gg_in 519 (by decide +kernel) (by decide +kernel)) (gg_in 58 (by decide +kernel) (by decide +kernel)) (by decide) (by decide +kernel) (by decide)
theorem YV_X0_weightOf : gg_YV yX0_weightOf := ⟨(gg_in 517 (by decide +kernel) (by decide +kernel)), (gg_in 518 (by decide +kernel) (by decide +kernel))⟩
theorem Y_X1_heaviestOf : gg_Y yX1_heaviestOf cX1_heaviestOf 4 (some .int) 1 := gg_Y_of (gg_in 589 (by decide +kernel) (by decide +kernel)) (gg_in 60 (by decide +kernel) (by decide +kernel)) (by decide) (by decide +kernel) (by decide)
theorem YV_X1_heaviestOf : gg_YV yX1_heaviestOf := ⟨(gg_in 587 (by decide +kernel) (by decide +kernel)), (gg_in 588 (by decide +kernel) (by decide +kernel))⟩
theorem Y_X1_learn : gg_Y yX1_learn cX1_learn 8 none 3 := gg_Y_of (gg_in 471 (by decide +kernel) (by decide +kernel)) (gg_in 60 (by decide +kernel) (by decide +kernel)) (by decide) (by decide +kernel) (by decide)
theorem YV_X1_learn : gg_YV yX1_learn := ⟨(gg_in 469 (by decide +kernel) (by decide +kernel)), (gg_in 470 (by decide +kernel) (by decide +kernel))⟩
theorem Y_X1_part : gg_Y yX1_part cX1_part 7 none 4 := gg_Y_of (gg_in 575 (by decide +kernel) (by decide +kernel)) (gg_in 60 (by decide +kernel) (by decide +kernel)) (by decide) (by decide +kernel) (by decide)
theorem YV_X1_part : gg_YV yX1_part := ⟨(gg_in 573 (by decide +kernel) (by decide +kernel)), (gg_in 574 (by decide +kernel) (by decide +kernel))⟩
theorem Y_X1_weightRunning : gg_Y yX1_weightRunning cX1_weightRunning 12 (some .int) 5 := gg_Y_of (gg_in 598 (by decide +kernel) (by decide +kernel)) (gg_in 60 (by decide +kernel) (by decide +kernel)) (by decide) (by decide +kernel) (by decide)
theorem YV_X1_weightRunning : gg_YV yX1_weightRunning := ⟨(gg_in 597 (by decide +kernel) (by decide +kernel)), (gg_in 12 (by decide +kernel) (by decide +kernel))⟩
theorem Y_X1_weightWith : gg_Y yX1_weightWith cX1_weightWith 4 (some .int) 1 := gg_Y_of (gg_in 550 (by decide +kernel) (by decide +kernel)) (gg_in 60 (by decide +kernel) (by decide +kernel)) (by decide) (by decide +kernel) (by decide)
theorem YV_X1_weightWith : gg_YV yX1_weightWith := ⟨(gg_in 548 (by decide +kernel) (by decide +kernel)), (gg_in 549 (by decide +kernel) (by decide +kernel))⟩
theorem Y_X2_actAt : gg_Y yX2_actAt cX2_actAt 2 (some .int) 1 := gg_Y_of (gg_in 479 (by decide +kernel) (by decide +kernel)) (gg_in 59 (by decide +kernel) (by decide +kernel)) (by decide) (by decide +kernel) (by decide)
theorem YV_X2_actAt : gg_YV yX2_actAt := ⟨(gg_in 477 (by decide +kernel) (by decide +kernel)), (gg_in 478 (by decide +kernel) (by decide +kernel))⟩
theorem Y_X2_signAt : gg_Y yX2_signAt cX2_signAt 2 (some .int) 1 := gg_Y_of (gg_in 511 (by decide +kernel) (by decide +kernel)) (gg_in 59 (by decide +kernel) (by decide +kernel)) (by decide) (by decide +kernel) (by decide)
theorem YV_X2_signAt : gg_YV yX2_signAt := ⟨(gg_in 509 (by decide +kernel) (by decide +kernel)), (gg_in 510 (by decide +kernel) (by decide +kernel))⟩
theorem Y_X2_takes : gg_Y yX2_takes cX2_takes 3 (some .boolean) 2 := gg_Y_of (gg_in 437 (by decide +kernel) (by decide +kernel)) (gg_in 59 (by decide +kernel) (by decide +kernel)) (by decide) (by decide +kernel) (by decide)
theorem YV_X2_takes : gg_YV yX2_takes := ⟨(gg_in 435 (by decide +kernel) (by decide +kernel)), (gg_in 436 (by decide +kernel) (by decide +kernel))⟩
theorem Y_X3_findLaw : gg_Y yX3_findLaw cX3_findLaw 4 none 0 := gg_Y_of (gg_in 689 (by decide +kernel) (by decide +kernel)) (gg_in 63 (by decide +kernel) (by decide +kernel)) (by decide) (by decide +kernel) (by decide)
theorem YV_X3_findLaw : gg_YV yX3_findLaw := ⟨(gg_in 687 (by decide +kernel) (by decide +kernel)), (gg_in 688 (by decide +kernel) (by decide +kernel))⟩
theorem Y_X3_lawSays : gg_Y yX3_lawSays cX3_lawSays 5 (some .int) 5 := gg_Y_of (gg_in 669 (by decide +kernel) (by decide +kernel)) (gg_in 63 (by decide +kernel) (by decide +kernel)) (by decide) (by decide +kernel) (by decide)
theorem YS_X3_lawSays : Cond.static yX3_lawSays ∈ gg_tG := (gg_in 668 (by decide +kernel) (by decide +kernel))
theorem Y_X3_offBy : gg_Y yX3_offBy cX3_offBy 6 (some .int) 3 := gg_Y_of (gg_in 677 (by decide +kernel) (by decide +kernel)) (gg_in 63 (by decide +kernel) (by decide +kernel)) (by decide) (by decide +kernel) (by decide)
theorem YV_X3_offBy : gg_YV yX3_offBy := ⟨(gg_in 675 (by decide +kernel) (by decide +kernel)), (gg_in 676 (by decide +kernel) (by decide +kernel))⟩
theorem Y_X3_takeIfBetter : gg_Y yX3_takeIfBetter cX3_takeIfBetter 5 none 3 := gg_Y_of (gg_in 694 (by decide +kernel) (by decide +kernel)) (gg_in 63 (by decide +kernel) (by decide +kernel)) (by decide) (by decide +kernel) (by decide)
theorem YV_X3_takeIfBetter : gg_YV yX3_takeIfBetter := ⟨(gg_in 693 (by decide +kernel) (by decide +kernel)), (gg_in 14 (by decide +kernel) (by decide +kernel))⟩
theorem Y_X3_takes : gg_Y yX3_takes cX3_takes 4 (some .boolean) 3 := gg_Y_of (gg_in 658 (by decide +kernel) (by decide +kernel)) (gg_in 63 (by decide +kernel) (by decide +kernel)) (by decide) (by decide +kernel) (by decide)
theorem YV_X3_takes : gg_YV yX3_takes := ⟨(gg_in 656 (by decide +kernel) (by decide +kernel)), (gg_in 657 (by decide +kernel) (by decide +kernel))⟩
theorem Y_X3_turnsTogether : gg_Y yX3_turnsTogether cX3_turnsTogether 1 (some .int) 0 := gg_Y_of (gg_in 756 (by decide +kernel) (by decide +kernel)) (gg_in 63 (by decide +kernel) (by decide +kernel)) (by decide) (by decide +kernel) (by decide)
theorem YV_X3_turnsTogether : gg_YV yX3_turnsTogether := ⟨(gg_in 754 (by decide +kernel) (by decide +kernel)), (gg_in 755 (by decide +kernel) (by decide +kernel))⟩
theorem Y_X4_faultOf : gg_Y yX4_faultOf cX4_faultOf 8 (some .int) 1 := gg_Y_of (gg_in 383 (by decide +kernel) (by decide +kernel)) (gg_in 56 (by decide +kernel) (by decide +kernel)) (by decide) (by decide +kernel) (by decide)
theorem YV_X4_faultOf : gg_YV yX4_faultOf := ⟨(gg_in 382 (by decide +kernel) (by decide +kernel)), (gg_in 3 (by decide +kernel) (by decide +kernel))⟩
theorem Y_X4_learn : gg_Y yX4_learn cX4_learn 2 none 1 := gg_Y_of (gg_in 379 (by decide +kernel) (by decide +kernel)) (gg_in 56 (by decide +kernel) (by decide +kernel)) (by decide) (by decide +kernel) (by decide)
theorem YV_X4_learn : gg_YV yX4_learn := ⟨(gg_in 377 (by decide +kernel) (by decide +kernel)), (gg_in 378 (by decide +kernel) (by decide +kernel))⟩
theorem Y_X4_qualityOf : gg_Y yX4_qualityOf cX4_qualityOf 2 (some .int) 1 := gg_Y_of (gg_in 390 (by decide +kernel) (by decide +kernel)) (gg_in 56 (by decide +kernel) (by decide +kernel)) (by decide) (by decide +kernel) (by decide)
theorem YS_X4_qualityOf : Cond.static yX4_qualityOf ∈ gg_tG := (gg_in 389 (by decide +kernel) (by decide +kernel))
theorem Y_X4_reset : gg_Y yX4_reset cX4_reset 2 none 0 := gg_Y_of (gg_in 106 (by decide +kernel) (by decide +kernel)) (gg_in 56 (by decide +kernel) (by decide +kernel)) (by decide) (by decide +kernel) (by decide)
theorem YV_X4_reset : gg_YV yX4_reset := ⟨(gg_in 105 (by decide +kernel) (by decide +kernel)), (gg_in 0 (by decide +kernel) (by decide +kernel))⟩
theorem Y_X5_actAt : gg_Y yX5_actAt cX5_actAt 2 (some .int) 1 := gg_Y_of (gg_in 617 (by decide +kernel) (by decide +kernel)) (gg_in 57 (by decide +kernel) (by decide +kernel)) (by decide) (by decide +kernel) (by decide)
theorem YV_X5_actAt : gg_YV yX5_actAt := ⟨(gg_in 615 (by decide +kernel) (by decide +kernel)), (gg_in 616 (by decide +kernel) (by decide +kernel))⟩
theorem Y_X5_add : gg_Y yX5_add cX5_add 4 none 2 := gg_Y_of (gg_in 413 (by decide +kernel) (by decide +kernel)) (gg_in 57 (by decide +kernel) (by decide +kernel)) (by decide) (by decide +kernel) (by decide)
theorem YV_X5_add : gg_YV yX5_add := ⟨(gg_in 412 (by decide +kernel) (by decide +kernel)), (gg_in 5 (by decide +kernel) (by decide +kernel))⟩
theorem Y_X5_faultOf : gg_Y yX5_faultOf cX5_faultOf 6 (some .int) 1 := gg_Y_of (gg_in 407 (by decide +kernel) (by decide +kernel)) (gg_in 57 (by decide +kernel) (by decide +kernel)) (by decide) (by decide +kernel) (by decide)
theorem YV_X5_faultOf : gg_YV yX5_faultOf := ⟨(gg_in 406 (by decide +kernel) (by decide +kernel)), (gg_in 4 (by decide +kernel) (by decide +kernel))⟩
theorem Y_X5_learn : gg_Y yX5_learn cX5_learn 2 none 1 := gg_Y_of (gg_in 403 (by decide +kernel) (by decide +kernel)) (gg_in 57 (by decide +kernel) (by decide +kernel)) (by decide) (by decide +kernel) (by decide)
theorem YV_X5_learn : gg_YV yX5_learn := ⟨(gg_in 401 (by decide +kernel) (by decide +kernel)), (gg_in 402 (by decide +kernel) (by decide +kernel))⟩
theorem Y_X6_holds : gg_Y yX6_holds cX6_holds 3 (some .boolean) 2 := gg_Y_of (gg_in 734 (by decide +kernel) (by decide +kernel)) (gg_in 64 (by decide +kernel) (by decide +kernel)) (by decide) (by decide +kernel) (by decide)
theorem YV_X6_holds : gg_YV yX6_holds := ⟨(gg_in 732 (by decide +kernel) (by decide +kernel)), (gg_in 733 (by decide +kernel) (by decide +kernel))⟩
theorem Y_X6_isLost : gg_Y yX6_isLost cX6_isLost 1 (some .boolean) 0 := gg_Y_of (gg_in 445 (by decide +kernel) (by decide +kernel)) (gg_in 64 (by decide +kernel) (by decide +kernel)) (by decide) (by decide +kernel) (by decide)
theorem YV_X6_isLost : gg_YV yX6_isLost := ⟨(gg_in 443 (by decide +kernel) (by decide +kernel)), (gg_in 444 (by decide +kernel) (by decide +kernel))⟩
theorem Y_X6_itemAt : gg_Y yX6_itemAt cX6_itemAt 2 (some .int) 1 := gg_Y_of (gg_in 453 (by decide +kernel) (by decide +kernel)) (gg_in 64 (by decide +kernel) (by decide +kernel)) (by decide) (by decide +kernel) (by decide)
theorem YV_X6_itemAt : gg_YV yX6_itemAt := ⟨(gg_in 451 (by decide +kernel) (by decide +kernel)), (gg_in 452 (by decide +kernel) (by decide +kernel))⟩
theorem Y_X6_keep : gg_Y yX6_keep cX6_keep 3 none 2 := gg_Y_of (gg_in 721 (by decide +kernel) (by decide +kernel)) (gg_in 64 (by decide +kernel) (by decide +kernel)) (by decide) (by decide +kernel) (by decide)
theorem YV_X6_keep : gg_YV yX6_keep := ⟨(gg_in 719 (by decide +kernel) (by decide +kernel)), (gg_in 720 (by decide +kernel) (by decide +kernel))⟩
theorem Y_X6_lay : gg_Y yX6_lay cX6_lay 3 none 2 := gg_Y_of (gg_in 703 (by decide +kernel) (by decide +kernel)) (gg_in 64 (by decide +kernel) (by decide +kernel)) (by decide) (by decide +kernel) (by decide)
theorem YV_X6_lay : gg_YV yX6_lay := ⟨(gg_in 701 (by decide +kernel) (by decide +kernel)), (gg_in 702 (by decide +kernel) (by decide +kernel))⟩
theorem Y_X6_wrongWith : gg_Y yX6_wrongWith cX6_wrongWith 3 (some .int) 2 := gg_Y_of (gg_in 716 (by decide +kernel) (by decide +kernel)) (gg_in 64 (by decide +kernel) (by decide +kernel)) (by decide) (by decide +kernel) (by decide)
theorem YV_X6_wrongWith : gg_YV yX6_wrongWith := ⟨(gg_in 714 (by decide +kernel) (by decide +kernel)), (gg_in 715 (by decide +kernel) (by decide +kernel))⟩
theorem Y_X7_begin : gg_Y yX7_begin cX7_begin 3 none 2 := gg_Y_of (gg_in 475 (by decide +kernel) (by decide +kernel)) (gg_in 61 (by decide +kernel) (by decide +kernel)) (by decide) (by decide +kernel) (by decide)
theorem YV_X7_begin : gg_YV yX7_begin := ⟨(gg_in 473 (by decide +kernel) (by decide +kernel)), (gg_in 474 (by decide +kernel) (by decide +kernel))⟩
theorem Y_X7_does : gg_Y yX7_does cX7_does 4 (some .int) 2 := gg_Y_of (gg_in 484 (by decide +kernel) (by decide +kernel)) (gg_in 61 (by decide +kernel) (by decide +kernel)) (by decide) (by decide +kernel) (by decide)
theorem YV_X7_does : gg_YV yX7_does := ⟨(gg_in 482 (by decide +kernel) (by decide +kernel)), (gg_in 483 (by decide +kernel) (by decide +kernel))⟩
theorem Y_X7_dry : gg_Y yX7_dry cX7_dry 2 (some .int) 0 := gg_Y_of (gg_in 507 (by decide +kernel) (by decide +kernel)) (gg_in 61 (by decide +kernel) (by decide +kernel)) (by decide) (by decide +kernel) (by decide)
theorem YV_X7_dry : gg_YV yX7_dry := ⟨(gg_in 506 (by decide +kernel) (by decide +kernel)), (gg_in 11 (by decide +kernel) (by decide +kernel))⟩
theorem Y_X7_pack : gg_Y yX7_pack cX7_pack 3 (some .long) 0 := gg_Y_of (gg_in 515 (by decide +kernel) (by decide +kernel)) (gg_in 61 (by decide +kernel) (by decide +kernel)) (by decide) (by decide +kernel) (by decide)
theorem YV_X7_pack : gg_YV yX7_pack := ⟨(gg_in 513 (by decide +kernel) (by decide +kernel)), (gg_in 514 (by decide +kernel) (by decide +kernel))⟩
theorem Y_X7_partOf : gg_Y yX7_partOf cX7_partOf 3 (some .int) 2 := gg_Y_of (gg_in 557 (by decide +kernel) (by decide +kernel)) (gg_in 61 (by decide +kernel) (by decide +kernel)) (by decide) (by decide +kernel) (by decide)
theorem YS_X7_partOf : Cond.static yX7_partOf ∈ gg_tG := (gg_in 556 (by decide +kernel) (by decide +kernel))
theorem Y_X7_signOf : gg_Y yX7_signOf cX7_signOf 6 (some .int) 2 := gg_Y_of (gg_in 495 (by decide +kernel) (by decide +kernel)) (gg_in 61 (by decide +kernel) (by decide +kernel)) (by decide) (by decide +kernel) (by decide)
theorem YV_X7_signOf : gg_YV yX7_signOf := ⟨(gg_in 494 (by decide +kernel) (by decide +kernel)), (gg_in 9 (by decide +kernel) (by decide +kernel))⟩
theorem Y_X7_tend : gg_Y yX7_tend cX7_tend 3 (some .int) 2 := gg_Y_of (gg_in 503 (by decide +kernel) (by decide +kernel)) (gg_in 61 (by decide +kernel) (by decide +kernel)) (by decide) (by decide +kernel) (by decide)
theorem YV_X7_tend : gg_YV yX7_tend := ⟨(gg_in 502 (by decide +kernel) (by decide +kernel)), (gg_in 10 (by decide +kernel) (by decide +kernel))⟩
theorem Y_X7_turn : gg_Y yX7_turn cX7_turn 10 (some .int) 2 := gg_Y_of (gg_in 491 (by decide +kernel) (by decide +kernel)) (gg_in 61 (by decide +kernel) (by decide +kernel)) (by decide) (by decide +kernel) (by decide)
theorem YV_X7_turn : gg_YV yX7_turn := ⟨(gg_in 490 (by decide +kernel) (by decide +kernel)), (gg_in 8 (by decide +kernel) (by decide +kernel))⟩
theorem Y_X7_turnsToDrown : gg_Y yX7_turnsToDrown cX7_turnsToDrown 6 (some .int) 3 := gg_Y_of (gg_in 645 (by decide +kernel) (by decide +kernel)) (gg_in 61 (by decide +kernel) (by decide +kernel)) (by decide) (by decide +kernel) (by decide)
theorem YV_X7_turnsToDrown : gg_YV yX7_turnsToDrown := ⟨(gg_in 643 (by decide +kernel) (by decide +kernel)), (gg_in 644 (by decide +kernel) (by decide +kernel))⟩
theorem Y_X7_unpack : gg_Y yX7_unpack cX7_unpack 3 none 1 := gg_Y_of (gg_in 565 (by decide +kernel) (by decide +kernel)) (gg_in 61 (by decide +kernel) (by decide +kernel)) (by decide) (by decide +kernel) (by decide)
theorem YV_X7_unpack : gg_YV yX7_unpack := ⟨(gg_in 563 (by decide +kernel) (by decide +kernel)), (gg_in 564 (by decide +kernel) (by decide +kernel))⟩
theorem Y_X8_byteAt : gg_Y yX8_byteAt cX8_byteAt 2 (some .int) 1 := gg_Y_of (gg_in 387 (by decide +kernel) (by decide +kernel)) (gg_in 54 (by decide +kernel) (by decide +kernel)) (by decide) (by decide +kernel) (by decide)
theorem YV_X8_byteAt : gg_YV yX8_byteAt := ⟨(gg_in 385 (by decide +kernel) (by decide +kernel)), (gg_in 386 (by decide +kernel) (by decide +kernel))⟩
theorem Y_X8_figureAt : gg_Y yX8_figureAt cX8_figureAt 3 (some .int) 1 := gg_Y_of (gg_in 396 (by decide +kernel) (by decide +kernel)) (gg_in 54 (by decide +kernel) (by decide +kernel)) (by decide) (by decide +kernel) (by decide)
theorem YV_X8_figureAt : gg_YV yX8_figureAt := ⟨(gg_in 394 (by decide +kernel) (by decide +kernel)), (gg_in 395 (by decide +kernel) (by decide +kernel))⟩
theorem Y_X8_takes : gg_Y yX8_takes cX8_takes 2 (some .boolean) 1 := gg_Y_of (gg_in 371 (by decide +kernel) (by decide +kernel)) (gg_in 54 (by decide +kernel) (by decide +kernel)) (by decide) (by decide +kernel) (by decide)
theorem YV_X8_takes : gg_YV yX8_takes := ⟨(gg_in 369 (by decide +kernel) (by decide +kernel)), (gg_in 370 (by decide +kernel) (by decide +kernel))⟩
theorem Y_X9_actsDone : gg_Y yX9_actsDone cX9_actsDone 5 (some .long) 1 := gg_Y_of (gg_in 627 (by decide +kernel) (by decide +kernel)) (gg_in 62 (by decide +kernel) (by decide +kernel)) (by decide) (by decide +kernel) (by decide)
theorem YV_X9_actsDone : gg_YV yX9_actsDone := ⟨(gg_in 625 (by decide +kernel) (by decide +kernel)), (gg_in 626 (by decide +kernel) (by decide +kernel))⟩
theorem Y_X9_learn : gg_Y yX9_learn cX9_learn 6 none 3 := gg_Y_of (gg_in 612 (by decide +kernel) (by decide +kernel)) (gg_in 62 (by decide +kernel) (by decide +kernel)) (by decide) (by decide +kernel) (by decide)
theorem YV_X9_learn : gg_YV yX9_learn := ⟨(gg_in 610 (by decide +kernel) (by decide +kernel)), (gg_in 611 (by decide +kernel) (by decide +kernel))⟩
theorem Y_X9_weightHaving : gg_Y yX9_weightHaving cX9_weightHaving 6 (some .long) 2 := gg_Y_of (gg_in 622 (by decide +kernel) (by decide +kernel)) (gg_in 62 (by decide +kernel) (by decide +kernel)) (by decide) (by decide +kernel) (by decide)
theorem YV_X9_weightHaving : gg_YV yX9_weightHaving := ⟨(gg_in 620 (by decide +kernel) (by decide +kernel)), (gg_in 621 (by decide +kernel) (by decide +kernel))⟩
theorem Y_X11_actsOfHabit : gg_Y yX11_actsOfHabit cX11_actsOfHabit 1 (some .int) 0 := gg_Y_of (gg_in 1181 (by decide +kernel) (by decide +kernel)) (gg_in 65 (by decide +kernel) (by decide +kernel)) (by decide) (by decide +kernel) (by decide)
theorem YV_X11_actsOfHabit : gg_YV yX11_actsOfHabit := ⟨(gg_in 1180 (by decide +kernel) (by decide +kernel)), (gg_in 51 (by decide +kernel) (by decide +kernel))⟩
theorem Y_X11_ahead : gg_Y yX11_ahead cX11_ahead 4 (some .int) 2 := gg_Y_of (gg_in 919 (by decide +kernel) (by decide +kernel)) (gg_in 65 (by decide +kernel) (by decide +kernel)) (by decide) (by decide +kernel) (by decide)
theorem YV_X11_ahead : gg_YV yX11_ahead := ⟨(gg_in 917 (by decide +kernel) (by decide +kernel)), (gg_in 918 (by decide +kernel) (by decide +kernel))⟩
theorem Y_X11_amount : gg_Y yX11_amount cX11_amount 1 (some .int) 1 := gg_Y_of (gg_in 1128 (by decide +kernel) (by decide +kernel)) (gg_in 65 (by decide +kernel) (by decide +kernel)) (by decide) (by decide +kernel) (by decide)
theorem YS_X11_amount : Cond.static yX11_amount ∈ gg_tG := (gg_in 1127 (by decide +kernel) (by decide +kernel))
theorem Y_X11_back : gg_Y yX11_back cX11_back 1 (some .int) 0 := gg_Y_of (gg_in 942 (by decide +kernel) (by decide +kernel)) (gg_in 65 (by decide +kernel) (by decide +kernel)) (by decide) (by decide +kernel) (by decide)
theorem YV_X11_back : gg_YV yX11_back := ⟨(gg_in 940 (by decide +kernel) (by decide +kernel)), (gg_in 941 (by decide +kernel) (by decide +kernel))⟩
theorem Y_X11_begins : gg_Y yX11_begins cX11_begins 5 none 2 := gg_Y_of (gg_in 958 (by decide +kernel) (by decide +kernel)) (gg_in 65 (by decide +kernel) (by decide +kernel)) (by decide) (by decide +kernel) (by decide)
theorem YV_X11_begins : gg_YV yX11_begins := ⟨(gg_in 957 (by decide +kernel) (by decide +kernel)), (gg_in 25 (by decide +kernel) (by decide +kernel))⟩
theorem Y_X11_best : gg_Y yX11_best cX11_best 3 (some .long) 2 := gg_Y_of (gg_in 1054 (by decide +kernel) (by decide +kernel)) (gg_in 65 (by decide +kernel) (by decide +kernel)) (by decide) (by decide +kernel) (by decide)
theorem YV_X11_best : gg_YV yX11_best := ⟨(gg_in 1052 (by decide +kernel) (by decide +kernel)), (gg_in 1053 (by decide +kernel) (by decide +kernel))⟩
theorem Y_X11_bestNow : gg_Y yX11_bestNow cX11_bestNow 13 (some .long) 2 := gg_Y_of (gg_in 1058 (by decide +kernel) (by decide +kernel)) (gg_in 65 (by decide +kernel) (by decide +kernel)) (by decide) (by decide +kernel) (by decide)
theorem YV_X11_bestNow : gg_YV yX11_bestNow := ⟨(gg_in 1057 (by decide +kernel) (by decide +kernel)), (gg_in 38 (by decide +kernel) (by decide +kernel))⟩
theorem Y_X11_byteAt : gg_Y yX11_byteAt cX11_byteAt 3 (some .int) 2 := gg_Y_of (gg_in 894 (by decide +kernel) (by decide +kernel)) (gg_in 65 (by decide +kernel) (by decide +kernel)) (by decide) (by decide +kernel) (by decide)
theorem YV_X11_byteAt : gg_YV yX11_byteAt := ⟨(gg_in 893 (by decide +kernel) (by decide +kernel)), (gg_in 18 (by decide +kernel) (by decide +kernel))⟩
theorem Y_X11_chance : gg_Y yX11_chance cX11_chance 4 (some .long) 3 := gg_Y_of (gg_in 1014 (by decide +kernel) (by decide +kernel)) (gg_in 65 (by decide +kernel) (by decide +kernel)) (by decide) (by decide +kernel) (by decide)
theorem YV_X11_chance : gg_YV yX11_chance := ⟨(gg_in 1012 (by decide +kernel) (by decide +kernel)), (gg_in 1013 (by decide +kernel) (by decide +kernel))⟩
theorem Y_X11_chanceNow : gg_Y yX11_chanceNow cX11_chanceNow 4 (some .long) 3 := gg_Y_of (gg_in 1018 (by decide +kernel) (by decide +kernel)) (gg_in 65 (by decide +kernel) (by decide +kernel)) (by decide) (by decide +kernel) (by decide)
theorem YV_X11_chanceNow : gg_YV yX11_chanceNow := ⟨(gg_in 1017 (by decide +kernel) (by decide +kernel)), (gg_in 31 (by decide +kernel) (by decide +kernel))⟩
theorem Y_X11_copy : gg_Y yX11_copy cX11_copy 7 (some .int) 5 := gg_Y_of (gg_in 1165 (by decide +kernel) (by decide +kernel)) (gg_in 65 (by decide +kernel) (by decide +kernel)) (by decide) (by decide +kernel) (by decide)
theorem YV_X11_copy : gg_YV yX11_copy := ⟨(gg_in 1163 (by decide +kernel) (by decide +kernel)), (gg_in 1164 (by decide +kernel) (by decide +kernel))⟩
theorem Y_X11_count : gg_Y yX11_count cX11_count 2 (some .int) 1 := gg_Y_of (gg_in 1173 (by decide +kernel) (by decide +kernel)) (gg_in 65 (by decide +kernel) (by decide +kernel)) (by decide) (by decide +kernel) (by decide)
theorem YV_X11_count : gg_YV yX11_count := ⟨(gg_in 1171 (by decide +kernel) (by decide +kernel)), (gg_in 1172 (by decide +kernel) (by decide +kernel))⟩
theorem Y_X11_digest : gg_Y yX11_digest cX11_digest 5 (some .long) 0 := gg_Y_of (gg_in 1185 (by decide +kernel) (by decide +kernel)) (gg_in 65 (by decide +kernel) (by decide +kernel)) (by decide) (by decide +kernel) (by decide)
theorem YV_X11_digest : gg_YV yX11_digest := ⟨(gg_in 1183 (by decide +kernel) (by decide +kernel)), (gg_in 1184 (by decide +kernel) (by decide +kernel))⟩
theorem Y_X11_does : gg_Y yX11_does cX11_does 7 (some .int) 3 := gg_Y_of (gg_in 962 (by decide +kernel) (by decide +kernel)) (gg_in 65 (by decide +kernel) (by decide +kernel)) (by decide) (by decide +kernel) (by decide)
theorem YV_X11_does : gg_YV yX11_does := ⟨(gg_in 961 (by decide +kernel) (by decide +kernel)), (gg_in 26 (by decide +kernel) (by decide +kernel))⟩
theorem Y_X11_drowned : gg_Y yX11_drowned cX11_drowned 3 (some .int) 2 := gg_Y_of (gg_in 1099 (by decide +kernel) (by decide +kernel)) (gg_in 65 (by decide +kernel) (by decide +kernel)) (by decide) (by decide +kernel) (by decide)
theorem YV_X11_drowned : gg_YV yX11_drowned := ⟨(gg_in 1097 (by decide +kernel) (by decide +kernel)), (gg_in 1098 (by decide +kernel) (by decide +kernel))⟩
theorem Y_X11_drownedNow : gg_Y yX11_drownedNow cX11_drownedNow 6 (some .int) 2 := gg_Y_of (gg_in 1103 (by decide +kernel) (by decide +kernel)) (gg_in 65 (by decide +kernel) (by decide +kernel)) (by decide) (by decide +kernel) (by decide)
theorem YV_X11_drownedNow : gg_YV yX11_drownedNow := ⟨(gg_in 1102 (by decide +kernel) (by decide +kernel)), (gg_in 45 (by decide +kernel) (by decide +kernel))⟩
theorem Y_X11_fault : gg_Y yX11_fault cX11_fault 2 (some .int) 1 := gg_Y_of (gg_in 878 (by decide +kernel) (by decide +kernel)) (gg_in 65 (by decide +kernel) (by decide +kernel)) (by decide) (by decide +kernel) (by decide)
theorem YV_X11_fault : gg_YV yX11_fault := ⟨(gg_in 876 (by decide +kernel) (by decide +kernel)), (gg_in 877 (by decide +kernel) (by decide +kernel))⟩
theorem Y_X11_fits : gg_Y yX11_fits cX11_fits 2 (some .int) 1 := gg_Y_of (gg_in 1132 (by decide +kernel) (by decide +kernel)) (gg_in 65 (by decide +kernel) (by decide +kernel)) (by decide) (by decide +kernel) (by decide)
theorem YV_X11_fits : gg_YV yX11_fits := ⟨(gg_in 1130 (by decide +kernel) (by decide +kernel)), (gg_in 1131 (by decide +kernel) (by decide +kernel))⟩
theorem Y_X11_fitsNow : gg_Y yX11_fitsNow cX11_fitsNow 6 (some .int) 1 := gg_Y_of (gg_in 1136 (by decide +kernel) (by decide +kernel)) (gg_in 65 (by decide +kernel) (by decide +kernel)) (by decide) (by decide +kernel) (by decide)
theorem YV_X11_fitsNow : gg_YV yX11_fitsNow := ⟨(gg_in 1135 (by decide +kernel) (by decide +kernel)), (gg_in 47 (by decide +kernel) (by decide +kernel))⟩
theorem Y_X11_get : gg_Y yX11_get cX11_get 5 (some .int) 3 := gg_Y_of (gg_in 1160 (by decide +kernel) (by decide +kernel)) (gg_in 65 (by decide +kernel) (by decide +kernel)) (by decide) (by decide +kernel) (by decide)
theorem YV_X11_get : gg_YV yX11_get := ⟨(gg_in 1158 (by decide +kernel) (by decide +kernel)), (gg_in 1159 (by decide +kernel) (by decide +kernel))⟩
theorem Y_X11_goesOn : gg_Y yX11_goesOn cX11_goesOn 5 none 3 := gg_Y_of (gg_in 1026 (by decide +kernel) (by decide +kernel)) (gg_in 65 (by decide +kernel) (by decide +kernel)) (by decide) (by decide +kernel) (by decide)
theorem YV_X11_goesOn : gg_YV yX11_goesOn := ⟨(gg_in 1025 (by decide +kernel) (by decide +kernel)), (gg_in 33 (by decide +kernel) (by decide +kernel))⟩
theorem Y_X11_groupBy : gg_Y yX11_groupBy cX11_groupBy 6 (some .int) 3 := gg_Y_of (gg_in 1034 (by decide +kernel) (by decide +kernel)) (gg_in 65 (by decide +kernel) (by decide +kernel)) (by decide) (by decide +kernel) (by decide)
theorem YV_X11_groupBy : gg_YV yX11_groupBy := ⟨(gg_in 1033 (by decide +kernel) (by decide +kernel)), (gg_in 35 (by decide +kernel) (by decide +kernel))⟩
theorem Y_X11_habit : gg_Y yX11_habit cX11_habit 3 (some .long) 2 := gg_Y_of (gg_in 1070 (by decide +kernel) (by decide +kernel)) (gg_in 65 (by decide +kernel) (by decide +kernel)) (by decide) (by decide +kernel) (by decide)
theorem YV_X11_habit : gg_YV yX11_habit := ⟨(gg_in 1068 (by decide +kernel) (by decide +kernel)), (gg_in 1069 (by decide +kernel) (by decide +kernel))⟩
theorem Y_X11_habitNow : gg_Y yX11_habitNow cX11_habitNow 5 (some .int) 0 := gg_Y_of (gg_in 907 (by decide +kernel) (by decide +kernel)) (gg_in 65 (by decide +kernel) (by decide +kernel)) (by decide) (by decide +kernel) (by decide)
theorem YV_X11_habitNow : gg_YV yX11_habitNow := ⟨(gg_in 906 (by decide +kernel) (by decide +kernel)), (gg_in 19 (by decide +kernel) (by decide +kernel))⟩
theorem Y_X11_habitOf : gg_Y yX11_habitOf cX11_habitOf 8 (some .long) 2 := gg_Y_of (gg_in 1074 (by decide +kernel) (by decide +kernel)) (gg_in 65 (by decide +kernel) (by decide +kernel)) (by decide) (by decide +kernel) (by decide)
theorem YV_X11_habitOf : gg_YV yX11_habitOf := ⟨(gg_in 1073 (by decide +kernel) (by decide +kernel)), (gg_in 41 (by decide +kernel) (by decide +kernel))⟩
theorem Y_X11_has : gg_Y yX11_has cX11_has 2 (some .int) 1 := gg_Y_of (gg_in 1083 (by decide +kernel) (by decide +kernel)) (gg_in 65 (by decide +kernel) (by decide +kernel)) (by decide) (by decide +kernel) (by decide)
theorem YV_X11_has : gg_YV yX11_has := ⟨(gg_in 1081 (by decide +kernel) (by decide +kernel)), (gg_in 1082 (by decide +kernel) (by decide +kernel))⟩
theorem Y_X11_hasNow : gg_Y yX11_hasNow cX11_hasNow 5 (some .int) 1 := gg_Y_of (gg_in 1087 (by decide +kernel) (by decide +kernel)) (gg_in 65 (by decide +kernel) (by decide +kernel)) (by decide) (by decide +kernel) (by decide)
theorem YV_X11_hasNow : gg_YV yX11_hasNow := ⟨(gg_in 1086 (by decide +kernel) (by decide +kernel)), (gg_in 43 (by decide +kernel) (by decide +kernel))⟩
theorem Y_X11_in : gg_Y yX11_in cX11_in 3 (some .boolean) 3 := gg_Y_of (gg_in 870 (by decide +kernel) (by decide +kernel)) (gg_in 65 (by decide +kernel) (by decide +kernel)) (by decide) (by decide +kernel) (by decide)
theorem YS_X11_in : Cond.static yX11_in ∈ gg_tG := (gg_in 869 (by decide +kernel) (by decide +kernel))
theorem Y_X11_inOne : gg_Y yX11_inOne cX11_inOne 8 (some .long) 2 := gg_Y_of (gg_in 1062 (by decide +kernel) (by decide +kernel)) (gg_in 65 (by decide +kernel) (by decide +kernel)) (by decide) (by decide +kernel) (by decide)
theorem YV_X11_inOne : gg_YV yX11_inOne := ⟨(gg_in 1061 (by decide +kernel) (by decide +kernel)), (gg_in 39 (by decide +kernel) (by decide +kernel))⟩
theorem Y_X11_inTwo : gg_Y yX11_inTwo cX11_inTwo 10 (some .long) 2 := gg_Y_of (gg_in 1066 (by decide +kernel) (by decide +kernel)) (gg_in 65 (by decide +kernel) (by decide +kernel)) (by decide) (by decide +kernel) (by decide)
theorem YV_X11_inTwo : gg_YV yX11_inTwo := ⟨(gg_in 1065 (by decide +kernel) (by decide +kernel)), (gg_in 40 (by decide +kernel) (by decide +kernel))⟩
theorem Y_X11_isFigure : gg_Y yX11_isFigure cX11_isFigure 1 (some .boolean) 1 := gg_Y_of (gg_in 900 (by decide +kernel) (by decide +kernel)) (gg_in 65 (by decide +kernel) (by decide +kernel)) (by decide) (by decide +kernel) (by decide)
theorem YS_X11_isFigure : Cond.static yX11_isFigure ∈ gg_tG := (gg_in 899 (by decide +kernel) (by decide +kernel))
theorem Y_X11_isIn : gg_Y yX11_isIn cX11_isIn 2 (some .boolean) 2 := gg_Y_of (gg_in 972 (by decide +kernel) (by decide +kernel)) (gg_in 65 (by decide +kernel) (by decide +kernel)) (by decide) (by decide +kernel) (by decide)
theorem YS_X11_isIn : Cond.static yX11_isIn ∈ gg_tG := (gg_in 971 (by decide +kernel) (by decide +kernel))
theorem Y_X11_isLaw : gg_Y yX11_isLaw cX11_isLaw 3 (some .boolean) 3 := gg_Y_of (gg_in 1114 (by decide +kernel) (by decide +kernel)) (gg_in 65 (by decide +kernel) (by decide +kernel)) (by decide) (by decide +kernel) (by decide)
theorem YS_X11_isLaw : Cond.static yX11_isLaw ∈ gg_tG := (gg_in 1113 (by decide +kernel) (by decide +kernel))
theorem Y_X11_isSet : gg_Y yX11_isSet cX11_isSet 1 (some .boolean) 1 := gg_Y_of (gg_in 983 (by decide +kernel) (by decide +kernel)) (gg_in 65 (by decide +kernel) (by decide +kernel)) (by decide) (by decide +kernel) (by decide)
theorem YS_X11_isSet : Cond.static yX11_isSet ∈ gg_tG := (gg_in 982 (by decide +kernel) (by decide +kernel))
theorem Y_X11_isSheet : gg_Y yX11_isSheet cX11_isSheet 1 (some .boolean) 1 := gg_Y_of (gg_in 934 (by decide +kernel) (by decide +kernel)) (gg_in 65 (by decide +kernel) (by decide +kernel)) (by decide) (by decide +kernel) (by decide)
theorem YS_X11_isSheet : Cond.static yX11_isSheet ∈ gg_tG := (gg_in 933 (by decide +kernel) (by decide +kernel))
theorem Y_X11_isText : gg_Y yX11_isText cX11_isText 1 (some .boolean) 1 := gg_Y_of (gg_in 867 (by decide +kernel) (by decide +kernel)) (gg_in 65 (by decide +kernel) (by decide +kernel)) (by decide) (by decide +kernel) (by decide)
theorem YS_X11_isText : Cond.static yX11_isText ∈ gg_tG := (gg_in 866 (by decide +kernel) (by decide +kernel))
theorem Y_X11_keep : gg_Y yX11_keep cX11_keep 4 none 3 := gg_Y_of (gg_in 1156 (by decide +kernel) (by decide +kernel)) (gg_in 65 (by decide +kernel) (by decide +kernel)) (by decide) (by decide +kernel) (by decide)
theorem YV_X11_keep : gg_YV yX11_keep := ⟨(gg_in 1155 (by decide +kernel) (by decide +kernel)), (gg_in 49 (by decide +kernel) (by decide +kernel))⟩
theorem Y_X11_lacks : gg_Y yX11_lacks cX11_lacks 4 (some .int) 3 := gg_Y_of (gg_in 1152 (by decide +kernel) (by decide +kernel)) (gg_in 65 (by decide +kernel) (by decide +kernel)) (by decide) (by decide +kernel) (by decide)
theorem YV_X11_lacks : gg_YV yX11_lacks := ⟨(gg_in 1151 (by decide +kernel) (by decide +kernel)), (gg_in 48 (by decide +kernel) (by decide +kernel))⟩
theorem Y_X11_lays : gg_Y yX11_lays cX11_lays 6 none 0 := gg_Y_of (gg_in 954 (by decide +kernel) (by decide +kernel)) (gg_in 65 (by decide +kernel) (by decide +kernel)) (by decide) (by decide +kernel) (by decide)
theorem YV_X11_lays : gg_YV yX11_lays := ⟨(gg_in 953 (by decide +kernel) (by decide +kernel)), (gg_in 24 (by decide +kernel) (by decide +kernel))⟩
theorem Y_X11_left : gg_Y yX11_left cX11_left 1 (some .int) 0 := gg_Y_of (gg_in 946 (by decide +kernel) (by decide +kernel)) (gg_in 65 (by decide +kernel) (by decide +kernel)) (by decide) (by decide +kernel) (by decide)
theorem YV_X11_left : gg_YV yX11_left := ⟨(gg_in 944 (by decide +kernel) (by decide +kernel)), (gg_in 945 (by decide +kernel) (by decide +kernel))⟩
theorem Y_X11_leftNow : gg_Y yX11_leftNow cX11_leftNow 3 (some .int) 0 := gg_Y_of (gg_in 950 (by decide +kernel) (by decide +kernel)) (gg_in 65 (by decide +kernel) (by decide +kernel)) (by decide) (by decide +kernel) (by decide)
theorem YV_X11_leftNow : gg_YV yX11_leftNow := ⟨(gg_in 949 (by decide +kernel) (by decide +kernel)), (gg_in 23 (by decide +kernel) (by decide +kernel))⟩
theorem Y_X11_letterOf : gg_Y yX11_letterOf cX11_letterOf 1 (some .int) 1 := gg_Y_of (gg_in 897 (by decide +kernel) (by decide +kernel)) (gg_in 65 (by decide +kernel) (by decide +kernel)) (by decide) (by decide +kernel) (by decide)
theorem YS_X11_letterOf : Cond.static yX11_letterOf ∈ gg_tG := (gg_in 896 (by decide +kernel) (by decide +kernel))
theorem Y_X11_lightFor : gg_Y yX11_lightFor cX11_lightFor 1 (some .int) 1 := gg_Y_of (gg_in 965 (by decide +kernel) (by decide +kernel)) (gg_in 65 (by decide +kernel) (by decide +kernel)) (by decide) (by decide +kernel) (by decide)
theorem YS_X11_lightFor : Cond.static yX11_lightFor ∈ gg_tG := (gg_in 964 (by decide +kernel) (by decide +kernel))
theorem Y_X11_lose : gg_Y yX11_lose cX11_lose 2 (some .int) 1 := gg_Y_of (gg_in 1144 (by decide +kernel) (by decide +kernel)) (gg_in 65 (by decide +kernel) (by decide +kernel)) (by decide) (by decide +kernel) (by decide)
theorem YV_X11_lose : gg_YV yX11_lose := ⟨(gg_in 1142 (by decide +kernel) (by decide +kernel)), (gg_in 1143 (by decide +kernel) (by decide +kernel))⟩
theorem Y_X11_lowest : gg_Y yX11_lowest cX11_lowest 11 (some .long) 3 := gg_Y_of (gg_in 990 (by decide +kernel) (by decide +kernel)) (gg_in 65 (by decide +kernel) (by decide +kernel)) (by decide) (by decide +kernel) (by decide)
theorem YS_X11_lowest : Cond.static yX11_lowest ∈ gg_tG := (gg_in 989 (by decide +kernel) (by decide +kernel))
theorem Y_X11_meets : gg_Y yX11_meets cX11_meets 2 (some .int) 1 := gg_Y_of (gg_in 938 (by decide +kernel) (by decide +kernel)) (gg_in 65 (by decide +kernel) (by decide +kernel)) (by decide) (by decide +kernel) (by decide)
theorem YV_X11_meets : gg_YV yX11_meets := ⟨(gg_in 937 (by decide +kernel) (by decide +kernel)), (gg_in 22 (by decide +kernel) (by decide +kernel))⟩
theorem Y_X11_misses : gg_Y yX11_misses cX11_misses 4 (some .int) 3 := gg_Y_of (gg_in 1121 (by decide +kernel) (by decide +kernel)) (gg_in 65 (by decide +kernel) (by decide +kernel)) (by decide) (by decide +kernel) (by decide)
theorem YV_X11_misses : gg_YV yX11_misses := ⟨(gg_in 1119 (by decide +kernel) (by decide +kernel)), (gg_in 1120 (by decide +kernel) (by decide +kernel))⟩
theorem Y_X11_missesOf : gg_Y yX11_missesOf cX11_missesOf 6 (some .int) 3 := gg_Y_of (gg_in 1125 (by decide +kernel) (by decide +kernel)) (gg_in 65 (by decide +kernel) (by decide +kernel)) (by decide) (by decide +kernel) (by decide)
theorem YV_X11_missesOf : gg_YV yX11_missesOf := ⟨(gg_in 1124 (by decide +kernel) (by decide +kernel)), (gg_in 46 (by decide +kernel) (by decide +kernel))⟩
theorem Y_X11_more : gg_Y yX11_more cX11_more 3 (some .int) 2 := gg_Y_of (gg_in 927 (by decide +kernel) (by decide +kernel)) (gg_in 65 (by decide +kernel) (by decide +kernel)) (by decide) (by decide +kernel) (by decide)
theorem YV_X11_more : gg_YV yX11_more := ⟨(gg_in 926 (by decide +kernel) (by decide +kernel)), (gg_in 21 (by decide +kernel) (by decide +kernel))⟩
theorem Y_X11_morning : gg_Y yX11_morning cX11_morning 4 (some .int) 3 := gg_Y_of (gg_in 1107 (by decide +kernel) (by decide +kernel)) (gg_in 65 (by decide +kernel) (by decide +kernel)) (by decide) (by decide +kernel) (by decide)
theorem YV_X11_morning : gg_YV yX11_morning := ⟨(gg_in 1105 (by decide +kernel) (by decide +kernel)), (gg_in 1106 (by decide +kernel) (by decide +kernel))⟩
theorem Y_X11_mostOf : gg_Y yX11_mostOf cX11_mostOf 1 (some .int) 1 := gg_Y_of (gg_in 903 (by decide +kernel) (by decide +kernel)) (gg_in 65 (by decide +kernel) (by decide +kernel)) (by decide) (by decide +kernel) (by decide)
theorem YS_X11_mostOf : Cond.static yX11_mostOf ∈ gg_tG := (gg_in 902 (by decide +kernel) (by decide +kernel))
theorem Y_X11_motor : gg_Y yX11_motor cX11_motor 2 (some .int) 1 := gg_Y_of (gg_in 911 (by decide +kernel) (by decide +kernel)) (gg_in 65 (by decide +kernel) (by decide +kernel)) (by decide) (by decide +kernel) (by decide)
theorem YV_X11_motor : gg_YV yX11_motor := ⟨(gg_in 909 (by decide +kernel) (by decide +kernel)), (gg_in 910 (by decide +kernel) (by decide +kernel))⟩
theorem Y_X11_motorFault : gg_Y yX11_motorFault cX11_motorFault 4 (some .int) 0 := gg_Y_of (gg_in 886 (by decide +kernel) (by decide +kernel)) (gg_in 65 (by decide +kernel) (by decide +kernel)) (by decide) (by decide +kernel) (by decide)
theorem YV_X11_motorFault : gg_YV yX11_motorFault := ⟨(gg_in 885 (by decide +kernel) (by decide +kernel)), (gg_in 16 (by decide +kernel) (by decide +kernel))⟩
theorem Y_X11_motorNow : gg_Y yX11_motorNow cX11_motorNow 2 (some .int) 0 := gg_Y_of (gg_in 882 (by decide +kernel) (by decide +kernel)) (gg_in 65 (by decide +kernel) (by decide +kernel)) (by decide) (by decide +kernel) (by decide)
theorem YV_X11_motorNow : gg_YV yX11_motorNow := ⟨(gg_in 881 (by decide +kernel) (by decide +kernel)), (gg_in 15 (by decide +kernel) (by decide +kernel))⟩
theorem Y_X11_motorOf : gg_Y yX11_motorOf cX11_motorOf 3 (some .int) 1 := gg_Y_of (gg_in 915 (by decide +kernel) (by decide +kernel)) (gg_in 65 (by decide +kernel) (by decide +kernel)) (by decide) (by decide +kernel) (by decide)
theorem YV_X11_motorOf : gg_YV yX11_motorOf := ⟨(gg_in 914 (by decide +kernel) (by decide +kernel)), (gg_in 20 (by decide +kernel) (by decide +kernel))⟩
theorem Y_X11_moves : gg_Y yX11_moves cX11_moves 5 none 3 := gg_Y_of (gg_in 1030 (by decide +kernel) (by decide +kernel)) (gg_in 65 (by decide +kernel) (by decide +kernel)) (by decide) (by decide +kernel) (by decide)
theorem YV_X11_moves : gg_YV yX11_moves := ⟨(gg_in 1029 (by decide +kernel) (by decide +kernel)), (gg_in 34 (by decide +kernel) (by decide +kernel))⟩
theorem Y_X11_no : gg_Y yX11_no cX11_no 1 (some .long) 1 := gg_Y_of (gg_in 986 (by decide +kernel) (by decide +kernel)) (gg_in 65 (by decide +kernel) (by decide +kernel)) (by decide) (by decide +kernel) (by decide)
theorem YS_X11_no : Cond.static yX11_no ∈ gg_tG := (gg_in 985 (by decide +kernel) (by decide +kernel))
theorem Y_X11_odds : gg_Y yX11_odds cX11_odds 3 (some .long) 2 := gg_Y_of (gg_in 980 (by decide +kernel) (by decide +kernel)) (gg_in 65 (by decide +kernel) (by decide +kernel)) (by decide) (by decide +kernel) (by decide)
theorem YV_X11_odds : gg_YV yX11_odds := ⟨(gg_in 978 (by decide +kernel) (by decide +kernel)), (gg_in 979 (by decide +kernel) (by decide +kernel))⟩
theorem Y_X11_parts : gg_Y yX11_parts cX11_parts 2 (some .int) 1 := gg_Y_of (gg_in 1042 (by decide +kernel) (by decide +kernel)) (gg_in 65 (by decide +kernel) (by decide +kernel)) (by decide) (by decide +kernel) (by decide)
theorem YV_X11_parts : gg_YV yX11_parts := ⟨(gg_in 1040 (by decide +kernel) (by decide +kernel)), (gg_in 1041 (by decide +kernel) (by decide +kernel))⟩
theorem Y_X11_partsNow : gg_Y yX11_partsNow cX11_partsNow 4 (some .int) 1 := gg_Y_of (gg_in 1046 (by decide +kernel) (by decide +kernel)) (gg_in 65 (by decide +kernel) (by decide +kernel)) (by decide) (by decide +kernel) (by decide)
theorem YV_X11_partsNow : gg_YV yX11_partsNow := ⟨(gg_in 1045 (by decide +kernel) (by decide +kernel)), (gg_in 37 (by decide +kernel) (by decide +kernel))⟩
theorem Y_X11_partsOf : gg_Y yX11_partsOf cX11_partsOf 5 (some .long) 1 := gg_Y_of (gg_in 976 (by decide +kernel) (by decide +kernel)) (gg_in 65 (by decide +kernel) (by decide +kernel)) (by decide) (by decide +kernel) (by decide)
theorem YV_X11_partsOf : gg_YV yX11_partsOf := ⟨(gg_in 975 (by decide +kernel) (by decide +kernel)), (gg_in 28 (by decide +kernel) (by decide +kernel))⟩
theorem Y_X11_plain : gg_Y yX11_plain cX11_plain 1 none 0 := gg_Y_of (gg_in 890 (by decide +kernel) (by decide +kernel)) (gg_in 65 (by decide +kernel) (by decide +kernel)) (by decide) (by decide +kernel) (by decide)
theorem YV_X11_plain : gg_YV yX11_plain := ⟨(gg_in 889 (by decide +kernel) (by decide +kernel)), (gg_in 17 (by decide +kernel) (by decide +kernel))⟩
theorem Y_X11_put : gg_Y yX11_put cX11_put 6 (some .int) 4 := gg_Y_of (gg_in 1148 (by decide +kernel) (by decide +kernel)) (gg_in 65 (by decide +kernel) (by decide +kernel)) (by decide) (by decide +kernel) (by decide)
theorem YV_X11_put : gg_YV yX11_put := ⟨(gg_in 1146 (by decide +kernel) (by decide +kernel)), (gg_in 1147 (by decide +kernel) (by decide +kernel))⟩
theorem Y_X11_read : gg_Y yX11_read cX11_read 3 (some .int) 1 := gg_Y_of (gg_in 931 (by decide +kernel) (by decide +kernel)) (gg_in 65 (by decide +kernel) (by decide +kernel)) (by decide) (by decide +kernel) (by decide)
theorem YV_X11_read : gg_YV yX11_read := ⟨(gg_in 929 (by decide +kernel) (by decide +kernel)), (gg_in 930 (by decide +kernel) (by decide +kernel))⟩
theorem Y_X11_runsBy : gg_Y yX11_runsBy cX11_runsBy 4 (some .boolean) 1 := gg_Y_of (gg_in 1078 (by decide +kernel) (by decide +kernel)) (gg_in 65 (by decide +kernel) (by decide +kernel)) (by decide) (by decide +kernel) (by decide)
theorem YV_X11_runsBy : gg_YV yX11_runsBy := ⟨(gg_in 1077 (by decide +kernel) (by decide +kernel)), (gg_in 42 (by decide +kernel) (by decide +kernel))⟩
theorem Y_X11_says : gg_Y yX11_says cX11_says 6 (some .int) 5 := gg_Y_of (gg_in 1111 (by decide +kernel) (by decide +kernel)) (gg_in 65 (by decide +kernel) (by decide +kernel)) (by decide) (by decide +kernel) (by decide)
theorem YV_X11_says : gg_YV yX11_says := ⟨(gg_in 1109 (by decide +kernel) (by decide +kernel)), (gg_in 1110 (by decide +kernel) (by decide +kernel))⟩
theorem Y_X11_saysOf : gg_Y yX11_saysOf cX11_saysOf 5 (some .int) 5 := gg_Y_of (gg_in 1117 (by decide +kernel) (by decide +kernel)) (gg_in 65 (by decide +kernel) (by decide +kernel)) (by decide) (by decide +kernel) (by decide)
theorem YS_X11_saysOf : Cond.static yX11_saysOf ∈ gg_tG := (gg_in 1116 (by decide +kernel) (by decide +kernel))
theorem Y_X11_see : gg_Y yX11_see cX11_see 3 (some .int) 2 := gg_Y_of (gg_in 923 (by decide +kernel) (by decide +kernel)) (gg_in 65 (by decide +kernel) (by decide +kernel)) (by decide) (by decide +kernel) (by decide)
theorem YV_X11_see : gg_YV yX11_see := ⟨(gg_in 921 (by decide +kernel) (by decide +kernel)), (gg_in 922 (by decide +kernel) (by decide +kernel))⟩
theorem Y_X11_sheet : gg_Y yX11_sheet cX11_sheet 5 (some .int) 3 := gg_Y_of (gg_in 1140 (by decide +kernel) (by decide +kernel)) (gg_in 65 (by decide +kernel) (by decide +kernel)) (by decide) (by decide +kernel) (by decide)
theorem YV_X11_sheet : gg_YV yX11_sheet := ⟨(gg_in 1138 (by decide +kernel) (by decide +kernel)), (gg_in 1139 (by decide +kernel) (by decide +kernel))⟩
theorem Y_X11_sign : gg_Y yX11_sign cX11_sign 3 (some .int) 2 := gg_Y_of (gg_in 1010 (by decide +kernel) (by decide +kernel)) (gg_in 65 (by decide +kernel) (by decide +kernel)) (by decide) (by decide +kernel) (by decide)
theorem YV_X11_sign : gg_YV yX11_sign := ⟨(gg_in 1008 (by decide +kernel) (by decide +kernel)), (gg_in 1009 (by decide +kernel) (by decide +kernel))⟩
theorem Y_X11_state : gg_Y yX11_state cX11_state 3 (some .int) 2 := gg_Y_of (gg_in 1002 (by decide +kernel) (by decide +kernel)) (gg_in 65 (by decide +kernel) (by decide +kernel)) (by decide) (by decide +kernel) (by decide)
theorem YV_X11_state : gg_YV yX11_state := ⟨(gg_in 1000 (by decide +kernel) (by decide +kernel)), (gg_in 1001 (by decide +kernel) (by decide +kernel))⟩
theorem Y_X11_stateNow : gg_Y yX11_stateNow cX11_stateNow 3 (some .int) 2 := gg_Y_of (gg_in 1006 (by decide +kernel) (by decide +kernel)) (gg_in 65 (by decide +kernel) (by decide +kernel)) (by decide) (by decide +kernel) (by decide)
theorem YV_X11_stateNow : gg_YV yX11_stateNow := ⟨(gg_in 1005 (by decide +kernel) (by decide +kernel)), (gg_in 30 (by decide +kernel) (by decide +kernel))⟩
theorem Y_X11_sumOf : gg_Y yX11_sumOf cX11_sumOf 4 (some .int) 1 := gg_Y_of (gg_in 1177 (by decide +kernel) (by decide +kernel)) (gg_in 65 (by decide +kernel) (by decide +kernel)) (by decide) (by decide +kernel) (by decide)
theorem YV_X11_sumOf : gg_YV yX11_sumOf := ⟨(gg_in 1176 (by decide +kernel) (by decide +kernel)), (gg_in 50 (by decide +kernel) (by decide +kernel))⟩
theorem Y_X11_sure : gg_Y yX11_sure cX11_sure 10 (some .long) 2 := gg_Y_of (gg_in 1050 (by decide +kernel) (by decide +kernel)) (gg_in 65 (by decide +kernel) (by decide +kernel)) (by decide) (by decide +kernel) (by decide)
theorem YV_X11_sure : gg_YV yX11_sure := ⟨(gg_in 1048 (by decide +kernel) (by decide +kernel)), (gg_in 1049 (by decide +kernel) (by decide +kernel))⟩
theorem Y_X11_those : gg_Y yX11_those cX11_those 3 (some .int) 0 := gg_Y_of (gg_in 1022 (by decide +kernel) (by decide +kernel)) (gg_in 65 (by decide +kernel) (by decide +kernel)) (by decide) (by decide +kernel) (by decide)
theorem YV_X11_those : gg_YV yX11_those := ⟨(gg_in 1021 (by decide +kernel) (by decide +kernel)), (gg_in 32 (by decide +kernel) (by decide +kernel))⟩
theorem Y_X11_trouble : gg_Y yX11_trouble cX11_trouble 3 (some .long) 2 := gg_Y_of (gg_in 994 (by decide +kernel) (by decide +kernel)) (gg_in 65 (by decide +kernel) (by decide +kernel)) (by decide) (by decide +kernel) (by decide)
theorem YV_X11_trouble : gg_YV yX11_trouble := ⟨(gg_in 992 (by decide +kernel) (by decide +kernel)), (gg_in 993 (by decide +kernel) (by decide +kernel))⟩
theorem Y_X11_troubleNow : gg_Y yX11_troubleNow cX11_troubleNow 6 (some .long) 2 := gg_Y_of (gg_in 998 (by decide +kernel) (by decide +kernel)) (gg_in 65 (by decide +kernel) (by decide +kernel)) (by decide) (by decide +kernel) (by decide)
theorem YV_X11_troubleNow : gg_YV yX11_troubleNow := ⟨(gg_in 997 (by decide +kernel) (by decide +kernel)), (gg_in 29 (by decide +kernel) (by decide +kernel))⟩
theorem Y_X11_turns : gg_Y yX11_turns cX11_turns 15 (some .int) 2 := gg_Y_of (gg_in 969 (by decide +kernel) (by decide +kernel)) (gg_in 65 (by decide +kernel) (by decide +kernel)) (by decide) (by decide +kernel) (by decide)
theorem YV_X11_turns : gg_YV yX11_turns := ⟨(gg_in 968 (by decide +kernel) (by decide +kernel)), (gg_in 27 (by decide +kernel) (by decide +kernel))⟩
theorem Y_X11_type : gg_Y yX11_type cX11_type 3 (some .int) 2 := gg_Y_of (gg_in 864 (by decide +kernel) (by decide +kernel)) (gg_in 65 (by decide +kernel) (by decide +kernel)) (by decide) (by decide +kernel) (by decide)
theorem YV_X11_type : gg_YV yX11_type := ⟨(gg_in 862 (by decide +kernel) (by decide +kernel)), (gg_in 863 (by decide +kernel) (by decide +kernel))⟩
theorem Y_X11_weightOf : gg_Y yX11_weightOf cX11_weightOf 5 (some .long) 1 := gg_Y_of (gg_in 1038 (by decide +kernel) (by decide +kernel)) (gg_in 65 (by decide +kernel) (by decide +kernel)) (by decide) (by decide +kernel) (by decide)
theorem YV_X11_weightOf : gg_YV yX11_weightOf := ⟨(gg_in 1037 (by decide +kernel) (by decide +kernel)), (gg_in 36 (by decide +kernel) (by decide +kernel))⟩
theorem Y_X11_wipe : gg_Y yX11_wipe cX11_wipe 3 (some .int) 1 := gg_Y_of (gg_in 874 (by decide +kernel) (by decide +kernel)) (gg_in 65 (by decide +kernel) (by decide +kernel)) (by decide) (by decide +kernel) (by decide)
theorem YV_X11_wipe : gg_YV yX11_wipe := ⟨(gg_in 872 (by decide +kernel) (by decide +kernel)), (gg_in 873 (by decide +kernel) (by decide +kernel))⟩
theorem Y_X11_work : gg_Y yX11_work cX11_work 2 (some .long) 1 := gg_Y_of (gg_in 1091 (by decide +kernel) (by decide +kernel)) (gg_in 65 (by decide +kernel) (by decide +kernel)) (by decide) (by decide +kernel) (by decide)
theorem YV_X11_work : gg_YV yX11_work := ⟨(gg_in 1089 (by decide +kernel) (by decide +kernel)), (gg_in 1090 (by decide +kernel) (by decide +kernel))⟩
theorem Y_X11_workNow : gg_Y yX11_workNow cX11_workNow 11 (some .long) 1 := gg_Y_of (gg_in 1095 (by decide +kernel) (by decide +kernel)) (gg_in 65 (by decide +kernel) (by decide +kernel)) (by decide) (by decide +kernel) (by decide)
theorem YV_X11_workNow : gg_YV yX11_workNow := ⟨(gg_in 1094 (by decide +kernel) (by decide +kernel)), (gg_in 44 (by decide +kernel) (by decide +kernel))⟩
theorem Y_X11_write : gg_Y yX11_write cX11_write 5 (some .int) 2 := gg_Y_of (gg_in 1169 (by decide +kernel) (by decide +kernel)) (gg_in 65 (by decide +kernel) (by decide +kernel)) (by decide) (by decide +kernel) (by decide)
theorem YV_X11_write : gg_YV yX11_write := ⟨(gg_in 1167 (by decide +kernel) (by decide +kernel)), (gg_in 1168 (by decide +kernel) (by decide +kernel))⟩
theorem Y_J6_bitCount_0f7a4 : gg_Y yJ6_bitCount_0f7a4 cJ6_bitCount_0f7a4 1 (some .int) 1 := gg_Y_of (gg_in 525 (by decide +kernel) (by decide +kernel)) (gg_in 67 (by decide +kernel) (by decide +kernel)) (by decide) (by decide +kernel) (by decide)
theorem YS_J6_bitCount_0f7a4 : Cond.static yJ6_bitCount_0f7a4 ∈ gg_tG := (gg_in 524 (by decide +kernel) (by decide +kernel))
theorem Y_J9_abs_0f7a4 : gg_Y yJ9_abs_0f7a4 cJ9_abs_0f7a4 1 (some .int) 1 := gg_Y_of (gg_in 681 (by decide +kernel) (by decide +kernel)) (gg_in 55 (by decide +kernel) (by decide +kernel)) (by decide) (by decide +kernel) (by decide)
theorem YS_J9_abs_0f7a4 : Cond.static yJ9_abs_0f7a4 ∈ gg_tG := (gg_in 680 (by decide +kernel) (by decide +kernel))
theorem Y_J9_max_7cf53 : gg_Y yJ9_max_7cf53 cJ9_max_7cf53 2 (some .int) 2 := gg_Y_of (gg_in 85 (by decide +kernel) (by decide +kernel)) (gg_in 55 (by decide +kernel) (by decide +kernel)) (by decide) (by decide +kernel) (by decide)
theorem YS_J9_max_7cf53 : Cond.static yJ9_max_7cf53 ∈ gg_tG := (gg_in 84 (by decide +kernel) (by decide +kernel))
theorem Y_J9_min_7cf53 : gg_Y yJ9_min_7cf53 cJ9_min_7cf53 2 (some .int) 2 := gg_Y_of (gg_in 499 (by decide +kernel) (by decide +kernel)) (gg_in 55 (by decide +kernel) (by decide +kernel)) (by decide) (by decide +kernel) (by decide)
theorem YS_J9_min_7cf53 : Cond.static yJ9_min_7cf53 ∈ gg_tG := (gg_in 498 (by decide +kernel) (by decide +kernel))
theorem Y_J7_fill_53178 : gg_Y yJ7_fill_53178 cJ7_fill_53178 4 none 2 := gg_Y_of (gg_in 522 (by decide +kernel) (by decide +kernel)) (gg_in 66 (by decide +kernel) (by decide +kernel)) (by decide) (by decide +kernel) (by decide)
theorem YS_J7_fill_53178 : Cond.static yJ7_fill_53178 ∈ gg_tG := (gg_in 521 (by decide +kernel) (by decide +kernel))
end
section
theorem dX0_weightOf_0 : decode cX0_weightOf 0 = .ok (.iconst 1, 1) := by decide +kernel
theorem dX0_weightOf_1 : decode cX0_weightOf 1 = .ok (.istore_n 3, 1) := by decide +kernel
theorem dX0_weightOf_2 : decode cX0_weightOf 2 = .ok (.iconst 0, 1) := by decide +kernel
theorem dX0_weightOf_3 : decode cX0_weightOf 3 = .ok (.istore 4, 2) := by decide +kernel
theorem dX0_weightOf_5 : decode cX0_weightOf 5 = .ok (.iload 4, 2) := by decide +kernel
theorem dX0_weightOf_7 : decode cX0_weightOf 7 = .ok (.iconst 5, 1) := by decide +kernel
theorem dX0_weightOf_8 : decode cX0_weightOf 8 = .ok (.if_icmp .ge 51, 3) := by decide +kernel
theorem dX0_weightOf_11 : decode cX0_weightOf 11 = .ok (.iload 4, 2) := by decide +kernel
theorem dX0_weightOf_13 : decode cX0_weightOf 13 = .ok (.iload_n 2, 1) := by decide +kernel
theorem dX0_weightOf_14 : decode cX0_weightOf 14 = .ok (.if_icmp .ne 7, 3) := by decide +kernel
theorem dX0_weightOf_17 : decode cX0_weightOf 17 = .ok (.iconst 0, 1) := by decide +kernel
theorem dX0_weightOf_18 : decode cX0_weightOf 18 = .ok (.goto 10, 3) := by decide +kernel
theorem dX0_weightOf_21 : decode cX0_weightOf 21 = .ok (.aload_n 0, 1) := by decide +kernel
theorem dX0_weightOf_22 : decode cX0_weightOf 22 = .ok (.getfield 9, 3) := by decide +kernel
theorem dX0_weightOf_25 : decode cX0_weightOf 25 = .ok (.iload 4, 2) := by decide +kernel
theorem dX0_weightOf_27 : decode cX0_weightOf 27 = .ok (.iaload, 1) := by decide +kernel
theorem dX0_weightOf_28 : decode cX0_weightOf 28 = .ok (.istore 5, 2) := by decide +kernel
theorem dX0_weightOf_30 : decode cX0_weightOf 30 = .ok (.iload_n 3, 1) := by decide +kernel
theorem dX0_weightOf_31 : decode cX0_weightOf 31 = .ok (.iload_n 1, 1) := by decide +kernel
theorem dX0_weightOf_32 : decode cX0_weightOf 32 = .ok (.iload 4, 2) := by decide +kernel
theorem dX0_weightOf_34 : decode cX0_weightOf 34 = .ok (.iushr, 1) := by decide +kernel
theorem dX0_weightOf_35 : decode cX0_weightOf 35 = .ok (.iconst 1, 1) := by decide +kernel
theorem dX0_weightOf_36 : decode cX0_weightOf 36 = .ok (.iand, 1) := by decide +kernel
theorem dX0_weightOf_37 : decode cX0_weightOf 37 = .ok (.iconst 1, 1) := by decide +kernel
theorem dX0_weightOf_38 : decode cX0_weightOf 38 = .ok (.if_icmp .ne 8, 3) := by decide +kernel
theorem dX0_weightOf_41 : decode cX0_weightOf 41 = .ok (.iload 5, 2) := by decide +kernel
theorem dX0_weightOf_43 : decode cX0_weightOf 43 = .ok (.goto 8, 3) := by decide +kernel
theorem dX0_weightOf_46 : decode cX0_weightOf 46 = .ok (.bipush 16, 2) := by decide +kernel
theorem dX0_weightOf_48 : decode cX0_weightOf 48 = .ok (.iload 5, 2) := by decide +kernel
theorem dX0_weightOf_50 : decode cX0_weightOf 50 = .ok (.isub, 1) := by decide +kernel
theorem dX0_weightOf_51 : decode cX0_weightOf 51 = .ok (.imul, 1) := by decide +kernel
theorem dX0_weightOf_52 : decode cX0_weightOf 52 = .ok (.istore_n 3, 1) := by decide +kernel
theorem dX0_weightOf_53 : decode cX0_weightOf 53 = .ok (.iinc 4 1, 3) := by decide +kernel
theorem dX0_weightOf_56 : decode cX0_weightOf 56 = .ok (.goto (-51), 3) := by decide +kernel
theorem dX0_weightOf_59 : decode cX0_weightOf 59 = .ok (.iload_n 3, 1) := by decide +kernel
theorem dX0_weightOf_60 : decode cX0_weightOf 60 = .ok (.ireturn, 1) := by decide +kernel
theorem dX0_together_0 : decode cX0_together 0 = .ok (.iconst 0, 1) := by decide +kernel
theorem dX0_together_1 : decode cX0_together 1 = .ok (.istore_n 1, 1) := by decide +kernel
theorem dX0_together_2 : decode cX0_together 2 = .ok (.iconst 0, 1) := by decide +kernel
theorem dX0_together_3 : decode cX0_together 3 = .ok (.istore_n 2, 1) := by decide +kernel
theorem dX0_together_4 : decode cX0_together 4 = .ok (.iload_n 2, 1) := by decide +kernel
theorem dX0_together_5 : decode cX0_together 5 = .ok (.iconst 5, 1) := by decide +kernel
theorem dX0_together_6 : decode cX0_together 6 = .ok (.if_icmp .ge 18, 3) := by decide +kernel
theorem dX0_together_9 : decode cX0_together 9 = .ok (.iload_n 1, 1) := by decide +kernel
theorem dX0_together_10 : decode cX0_together 10 = .ok (.aload_n 0, 1) := by decide +kernel
theorem dX0_together_11 : decode cX0_together 11 = .ok (.getfield 9, 3) := by decide +kernel
theorem dX0_together_14 : decode cX0_together 14 = .ok (.iload_n 2, 1) := by decide +kernel
theorem dX0_together_15 : decode cX0_together 15 = .ok (.iaload, 1) := by decide +kernel
theorem dX0_together_16 : decode cX0_together 16 = .ok (.iadd, 1) := by decide +kernel
theorem dX0_together_17 : decode cX0_together 17 = .ok (.istore_n 1, 1) := by decide +kernel
theorem dX0_together_18 : decode cX0_together 18 = .ok (.iinc 2 1, 3) := by decide +kernel
theorem dX0_together_21 : decode cX0_together 21 = .ok (.goto (-17), 3) := by decide +kernel
theorem dX0_together_24 : decode cX0_together 24 = .ok (.iload_n 1, 1) := by decide +kernel
theorem dX0_together_25 : decode cX0_together 25 = .ok (.ireturn, 1) := by decide +kernel
theorem dJ7_fill_53178_0 : decode cJ7_fill_53178 0 = .ok (.iconst 0, 1) := by decide +kernel
theorem dJ7_fill_53178_1 : decode cJ7_fill_53178 1 = .ok (.istore_n 2, 1) := by decide +kernel
theorem dJ7_fill_53178_2 : decode cJ7_fill_53178 2 = .ok (.aload_n 0, 1) := by decide +kernel
theorem dJ7_fill_53178_3 : decode cJ7_fill_53178 3 = .ok (.arraylength, 1) := by decide +kernel
theorem dJ7_fill_53178_4 : decode cJ7_fill_53178 4 = .ok (.istore_n 3, 1) := by decide +kernel
theorem dJ7_fill_53178_5 : decode cJ7_fill_53178 5 = .ok (.iload_n 2, 1) := by decide +kernel
theorem dJ7_fill_53178_6 : decode cJ7_fill_53178 6 = .ok (.iload_n 3, 1) := by decide +kernel
theorem dJ7_fill_53178_7 : decode cJ7_fill_53178 7 = .ok (.if_icmp .ge 13, 3) := by decide +kernel
theorem dJ7_fill_53178_10 : decode cJ7_fill_53178 10 = .ok (.aload_n 0, 1) := by decide +kernel
theorem dJ7_fill_53178_11 : decode cJ7_fill_53178 11 = .ok (.iload_n 2, 1) := by decide +kernel
theorem dJ7_fill_53178_12 : decode cJ7_fill_53178 12 = .ok (.iload_n 1, 1) := by decide +kernel
theorem dJ7_fill_53178_13 : decode cJ7_fill_53178 13 = .ok (.iastore, 1) := by decide +kernel
theorem dJ7_fill_53178_14 : decode cJ7_fill_53178 14 = .ok (.iinc 2 1, 3) := by decide +kernel
theorem dJ7_fill_53178_17 : decode cJ7_fill_53178 17 = .ok (.goto (-12), 3) := by decide +kernel
theorem dJ7_fill_53178_20 : decode cJ7_fill_53178 20 = .ok (.return_, 1) := by decide +kernel
theorem dX10_isBelow_0 : decode cX10_isBelow 0 = .ok (.iload_n 0, 1) := by decide +kernel
theorem dX10_isBelow_1 : decode cX10_isBelow 1 = .ok (.ifCond .lt 12, 3) := by decide +kernel
theorem dX10_isBelow_4 : decode cX10_isBelow 4 = .ok (.iload_n 0, 1) := by decide +kernel
theorem dX10_isBelow_5 : decode cX10_isBelow 5 = .ok (.iload_n 1, 1) := by decide +kernel
theorem dX10_isBelow_6 : decode cX10_isBelow 6 = .ok (.if_icmp .ge 7, 3) := by decide +kernel
theorem dX10_isBelow_9 : decode cX10_isBelow 9 = .ok (.iconst 1, 1) := by decide +kernel
theorem dX10_isBelow_10 : decode cX10_isBelow 10 = .ok (.goto 4, 3) := by decide +kernel
theorem dX10_isBelow_13 : decode cX10_isBelow 13 = .ok (.iconst 0, 1) := by decide +kernel
theorem dX10_isBelow_14 : decode cX10_isBelow 14 = .ok (.ireturn, 1) := by decide +kernel
theorem dX2_actAt_0 : decode cX2_actAt 0 = .ok (.iload_n 1, 1) := by decide +kernel
theorem dX2_actAt_1 : decode cX2_actAt 1 = .ok (.bipush 24, 2) := by decide +kernel
theorem dX2_actAt_3 : decode cX2_actAt 3 = .ok (.invokestatic 22, 3) := by decide +kernel
theorem dX2_actAt_6 : decode cX2_actAt 6 = .ok (.ifCond .eq 12, 3) := by decide +kernel
theorem dX2_actAt_9 : decode cX2_actAt 9 = .ok (.aload_n 0, 1) := by decide +kernel
theorem dX2_actAt_10 : decode cX2_actAt 10 = .ok (.getfield 9, 3) := by decide +kernel
theorem dX2_actAt_13 : decode cX2_actAt 13 = .ok (.iload_n 1, 1) := by decide +kernel
theorem dX2_actAt_14 : decode cX2_actAt 14 = .ok (.iaload, 1) := by decide +kernel
theorem dX2_actAt_15 : decode cX2_actAt 15 = .ok (.goto 4, 3) := by decide +kernel
theorem dX2_actAt_18 : decode cX2_actAt 18 = .ok (.iconst (-1), 1) := by decide +kernel
theorem dX2_actAt_19 : decode cX2_actAt 19 = .ok (.ireturn, 1) := by decide +kernel
theorem dX2_signAt_0 : decode cX2_signAt 0 = .ok (.iload_n 1, 1) := by decide +kernel
theorem dX2_signAt_1 : decode cX2_signAt 1 = .ok (.bipush 24, 2) := by decide +kernel
theorem dX2_signAt_3 : decode cX2_signAt 3 = .ok (.invokestatic 22, 3) := by decide +kernel
theorem dX2_signAt_6 : decode cX2_signAt 6 = .ok (.ifCond .eq 12, 3) := by decide +kernel
theorem dX2_signAt_9 : decode cX2_signAt 9 = .ok (.aload_n 0, 1) := by decide +kernel
theorem dX2_signAt_10 : decode cX2_signAt 10 = .ok (.getfield 15, 3) := by decide +kernel
theorem dX2_signAt_13 : decode cX2_signAt 13 = .ok (.iload_n 1, 1) := by decide +kernel
theorem dX2_signAt_14 : decode cX2_signAt 14 = .ok (.iaload, 1) := by decide +kernel
theorem dX2_signAt_15 : decode cX2_signAt 15 = .ok (.goto 4, 3) := by decide +kernel
theorem dX2_signAt_18 : decode cX2_signAt 18 = .ok (.iconst (-1), 1) := by decide +kernel
theorem dX2_signAt_19 : decode cX2_signAt 19 = .ok (.ireturn, 1) := by decide +kernel
theorem dX7_begin_0 : decode cX7_begin 0 = .ok (.aload_n 0, 1) := by decide +kernel
theorem dX7_begin_1 : decode cX7_begin 1 = .ok (.aload_n 1, 1) := by decide +kernel
theorem dX7_begin_2 : decode cX7_begin 2 = .ok (.getfield 9, 3) := by decide +kernel
theorem dX7_begin_5 : decode cX7_begin 5 = .ok (.iconst 5, 1) := by decide +kernel
theorem dX7_begin_6 : decode cX7_begin 6 = .ok (.iaload, 1) := by decide +kernel
theorem dX7_begin_7 : decode cX7_begin 7 = .ok (.putfield 15, 3) := by decide +kernel
theorem dX7_begin_10 : decode cX7_begin 10 = .ok (.aload_n 0, 1) := by decide +kernel
theorem dX7_begin_11 : decode cX7_begin 11 = .ok (.aload_n 1, 1) := by decide +kernel
theorem dX7_begin_12 : decode cX7_begin 12 = .ok (.getfield 9, 3) := by decide +kernel
theorem dX7_begin_15 : decode cX7_begin 15 = .ok (.bipush 6, 2) := by decide +kernel
theorem dX7_begin_17 : decode cX7_begin 17 = .ok (.iaload, 1) := by decide +kernel
theorem dX7_begin_18 : decode cX7_begin 18 = .ok (.putfield 21, 3) := by decide +kernel
theorem dX7_begin_21 : decode cX7_begin 21 = .ok (.aload_n 0, 1) := by decide +kernel
theorem dX7_begin_22 : decode cX7_begin 22 = .ok (.iconst 0, 1) := by decide +kernel
theorem dX7_begin_23 : decode cX7_begin 23 = .ok (.putfield 24, 3) := by decide +kernel
theorem dX7_begin_26 : decode cX7_begin 26 = .ok (.aload_n 0, 1) := by decide +kernel
theorem dX7_begin_27 : decode cX7_begin 27 = .ok (.iconst 0, 1) := by decide +kernel
theorem dX7_begin_28 : decode cX7_begin 28 = .ok (.putfield 27, 3) := by decide +kernel
theorem dX7_begin_31 : decode cX7_begin 31 = .ok (.aload_n 0, 1) := by decide +kernel
theorem dX7_begin_32 : decode cX7_begin 32 = .ok (.iconst 0, 1) := by decide +kernel
theorem dX7_begin_33 : decode cX7_begin 33 = .ok (.putfield 30, 3) := by decide +kernel
theorem dX7_begin_36 : decode cX7_begin 36 = .ok (.aload_n 0, 1) := by decide +kernel
theorem dX7_begin_37 : decode cX7_begin 37 = .ok (.iconst 0, 1) := by decide +kernel
theorem dX7_begin_38 : decode cX7_begin 38 = .ok (.putfield 33, 3) := by decide +kernel
theorem dX7_begin_41 : decode cX7_begin 41 = .ok (.aload_n 0, 1) := by decide +kernel
theorem dX7_begin_42 : decode cX7_begin 42 = .ok (.iload_n 2, 1) := by decide +kernel
theorem dX7_begin_43 : decode cX7_begin 43 = .ok (.putfield 36, 3) := by decide +kernel
theorem dX7_begin_46 : decode cX7_begin 46 = .ok (.aload_n 0, 1) := by decide +kernel
theorem dX7_begin_47 : decode cX7_begin 47 = .ok (.iconst 0, 1) := by decide +kernel
theorem dX7_begin_48 : decode cX7_begin 48 = .ok (.putfield 39, 3) := by decide +kernel
theorem dX7_begin_51 : decode cX7_begin 51 = .ok (.return_, 1) := by decide +kernel
theorem dJ9_max_7cf53_0 : decode cJ9_max_7cf53 0 = .ok (.iload_n 0, 1) := by decide +kernel
theorem dJ9_max_7cf53_1 : decode cJ9_max_7cf53 1 = .ok (.iload_n 1, 1) := by decide +kernel
theorem dJ9_max_7cf53_2 : decode cJ9_max_7cf53 2 = .ok (.if_icmp .lt 7, 3) := by decide +kernel
theorem dJ9_max_7cf53_5 : decode cJ9_max_7cf53 5 = .ok (.iload_n 0, 1) := by decide +kernel
theorem dJ9_max_7cf53_6 : decode cJ9_max_7cf53 6 = .ok (.goto 4, 3) := by decide +kernel
theorem dJ9_max_7cf53_9 : decode cJ9_max_7cf53 9 = .ok (.iload_n 1, 1) := by decide +kernel
theorem dJ9_max_7cf53_10 : decode cJ9_max_7cf53 10 = .ok (.ireturn, 1) := by decide +kernel
theorem dJ9_min_7cf53_0 : decode cJ9_min_7cf53 0 = .ok (.iload_n 0, 1) := by decide +kernel
theorem dJ9_min_7cf53_1 : decode cJ9_min_7cf53 1 = .ok (.iload_n 1, 1) := by decide +kernel
theorem dJ9_min_7cf53_2 : decode cJ9_min_7cf53 2 = .ok (.if_icmp .gt 7, 3) := by decide +kernel
theorem dJ9_min_7cf53_5 : decode cJ9_min_7cf53 5 = .ok (.iload_n 0, 1) := by decide +kernel
theorem dJ9_min_7cf53_6 : decode cJ9_min_7cf53 6 = .ok (.goto 4, 3) := by decide +kernel
theorem dJ9_min_7cf53_9 : decode cJ9_min_7cf53 9 = .ok (.iload_n 1, 1) := by decide +kernel
theorem dJ9_min_7cf53_10 : decode cJ9_min_7cf53 10 = .ok (.ireturn, 1) := by decide +kernel
theorem dX7_dry_0 : decode cX7_dry 0 = .ok (.aload_n 0, 1) := by decide +kernel
theorem dX7_dry_1 : decode cX7_dry 1 = .ok (.getfield 27, 3) := by decide +kernel
theorem dX7_dry_4 : decode cX7_dry 4 = .ok (.ifCond .le 7, 3) := by decide +kernel
theorem dX7_dry_7 : decode cX7_dry 7 = .ok (.iconst 5, 1) := by decide +kernel
theorem dX7_dry_8 : decode cX7_dry 8 = .ok (.goto 5, 3) := by decide +kernel
theorem dX7_dry_11 : decode cX7_dry 11 = .ok (.bipush 6, 2) := by decide +kernel
theorem dX7_dry_13 : decode cX7_dry 13 = .ok (.istore_n 1, 1) := by decide +kernel
theorem dX7_dry_14 : decode cX7_dry 14 = .ok (.aload_n 0, 1) := by decide +kernel
theorem dX7_dry_15 : decode cX7_dry 15 = .ok (.iconst 0, 1) := by decide +kernel
theorem dX7_dry_16 : decode cX7_dry 16 = .ok (.putfield 27, 3) := by decide +kernel
theorem dX7_dry_19 : decode cX7_dry 19 = .ok (.iload_n 1, 1) := by decide +kernel
theorem dX7_dry_20 : decode cX7_dry 20 = .ok (.ireturn, 1) := by decide +kernel
theorem dX7_tend_0 : decode cX7_tend 0 = .ok (.iload_n 2, 1) := by decide +kernel
theorem dX7_tend_1 : decode cX7_tend 1 = .ok (.tableswitch 144 4 9 #[39, 88, 93, 111, 118, 131], 39) := by decide +kernel
theorem dX7_tend_40 : decode cX7_tend 40 = .ok (.aload_n 0, 1) := by decide +kernel
theorem dX7_tend_41 : decode cX7_tend 41 = .ok (.iconst 0, 1) := by decide +kernel
theorem dX7_tend_42 : decode cX7_tend 42 = .ok (.aload_n 0, 1) := by decide +kernel
theorem dX7_tend_43 : decode cX7_tend 43 = .ok (.getfield 27, 3) := by decide +kernel
theorem dX7_tend_46 : decode cX7_tend 46 = .ok (.iconst 4, 1) := by decide +kernel
theorem dX7_tend_47 : decode cX7_tend 47 = .ok (.isub, 1) := by decide +kernel
theorem dX7_tend_48 : decode cX7_tend 48 = .ok (.invokestatic 64, 3) := by decide +kernel
theorem dX7_tend_51 : decode cX7_tend 51 = .ok (.putfield 27, 3) := by decide +kernel
theorem dX7_tend_54 : decode cX7_tend 54 = .ok (.aload_n 0, 1) := by decide +kernel
theorem dX7_tend_55 : decode cX7_tend 55 = .ok (.iconst 0, 1) := by decide +kernel
theorem dX7_tend_56 : decode cX7_tend 56 = .ok (.aload_n 0, 1) := by decide +kernel
theorem dX7_tend_57 : decode cX7_tend 57 = .ok (.getfield 30, 3) := by decide +kernel
theorem dX7_tend_60 : decode cX7_tend 60 = .ok (.iconst 1, 1) := by decide +kernel
theorem dX7_tend_61 : decode cX7_tend 61 = .ok (.isub, 1) := by decide +kernel
theorem dX7_tend_62 : decode cX7_tend 62 = .ok (.invokestatic 64, 3) := by decide +kernel
theorem dX7_tend_65 : decode cX7_tend 65 = .ok (.putfield 30, 3) := by decide +kernel
theorem dX7_tend_68 : decode cX7_tend 68 = .ok (.aload_n 0, 1) := by decide +kernel
theorem dX7_tend_69 : decode cX7_tend 69 = .ok (.aload_n 1, 1) := by decide +kernel
theorem dX7_tend_70 : decode cX7_tend 70 = .ok (.getfield 9, 3) := by decide +kernel
theorem dX7_tend_73 : decode cX7_tend 73 = .ok (.iconst 5, 1) := by decide +kernel
theorem dX7_tend_74 : decode cX7_tend 74 = .ok (.iaload, 1) := by decide +kernel
theorem dX7_tend_75 : decode cX7_tend 75 = .ok (.aload_n 0, 1) := by decide +kernel
theorem dX7_tend_76 : decode cX7_tend 76 = .ok (.getfield 15, 3) := by decide +kernel
theorem dX7_tend_79 : decode cX7_tend 79 = .ok (.iconst 1, 1) := by decide +kernel
theorem dX7_tend_80 : decode cX7_tend 80 = .ok (.iadd, 1) := by decide +kernel
theorem dX7_tend_81 : decode cX7_tend 81 = .ok (.invokestatic 70, 3) := by decide +kernel
theorem dX7_tend_84 : decode cX7_tend 84 = .ok (.putfield 15, 3) := by decide +kernel
theorem dX7_tend_87 : decode cX7_tend 87 = .ok (.iconst 0, 1) := by decide +kernel
theorem dX7_tend_88 : decode cX7_tend 88 = .ok (.ireturn, 1) := by decide +kernel
theorem dX7_tend_89 : decode cX7_tend 89 = .ok (.aload_n 0, 1) := by decide +kernel
theorem dX7_tend_90 : decode cX7_tend 90 = .ok (.invokevirtual 73, 3) := by decide +kernel
theorem dX7_tend_93 : decode cX7_tend 93 = .ok (.ireturn, 1) := by decide +kernel
theorem dX7_tend_94 : decode cX7_tend 94 = .ok (.aload_n 0, 1) := by decide +kernel
theorem dX7_tend_95 : decode cX7_tend 95 = .ok (.bipush 20, 2) := by decide +kernel
theorem dX7_tend_97 : decode cX7_tend 97 = .ok (.aload_n 0, 1) := by decide +kernel
theorem dX7_tend_98 : decode cX7_tend 98 = .ok (.getfield 30, 3) := by decide +kernel
theorem dX7_tend_101 : decode cX7_tend 101 = .ok (.bipush 6, 2) := by decide +kernel
theorem dX7_tend_103 : decode cX7_tend 103 = .ok (.iadd, 1) := by decide +kernel
theorem dX7_tend_104 : decode cX7_tend 104 = .ok (.invokestatic 70, 3) := by decide +kernel
theorem dX7_tend_107 : decode cX7_tend 107 = .ok (.putfield 30, 3) := by decide +kernel
theorem dX7_tend_110 : decode cX7_tend 110 = .ok (.iconst 0, 1) := by decide +kernel
theorem dX7_tend_111 : decode cX7_tend 111 = .ok (.ireturn, 1) := by decide +kernel
theorem dX7_tend_112 : decode cX7_tend 112 = .ok (.aload_n 0, 1) := by decide +kernel
theorem dX7_tend_113 : decode cX7_tend 113 = .ok (.iconst 5, 1) := by decide +kernel
theorem dX7_tend_114 : decode cX7_tend 114 = .ok (.putfield 33, 3) := by decide +kernel
theorem dX7_tend_117 : decode cX7_tend 117 = .ok (.iconst 0, 1) := by decide +kernel
theorem dX7_tend_118 : decode cX7_tend 118 = .ok (.ireturn, 1) := by decide +kernel
theorem dX7_tend_119 : decode cX7_tend 119 = .ok (.aload_n 0, 1) := by decide +kernel
theorem dX7_tend_120 : decode cX7_tend 120 = .ok (.dup, 1) := by decide +kernel
theorem dX7_tend_121 : decode cX7_tend 121 = .ok (.getfield 36, 3) := by decide +kernel
theorem dX7_tend_124 : decode cX7_tend 124 = .ok (.bipush (-3), 2) := by decide +kernel
theorem dX7_tend_126 : decode cX7_tend 126 = .ok (.iand, 1) := by decide +kernel
theorem dX7_tend_127 : decode cX7_tend 127 = .ok (.putfield 36, 3) := by decide +kernel
theorem dX7_tend_130 : decode cX7_tend 130 = .ok (.iconst 0, 1) := by decide +kernel
theorem dX7_tend_131 : decode cX7_tend 131 = .ok (.ireturn, 1) := by decide +kernel
theorem dX7_tend_132 : decode cX7_tend 132 = .ok (.aload_n 0, 1) := by decide +kernel
theorem dX7_tend_133 : decode cX7_tend 133 = .ok (.dup, 1) := by decide +kernel
theorem dX7_tend_134 : decode cX7_tend 134 = .ok (.getfield 36, 3) := by decide +kernel
theorem dX7_tend_137 : decode cX7_tend 137 = .ok (.bipush (-9), 2) := by decide +kernel
theorem dX7_tend_139 : decode cX7_tend 139 = .ok (.iand, 1) := by decide +kernel
theorem dX7_tend_140 : decode cX7_tend 140 = .ok (.putfield 36, 3) := by decide +kernel
theorem dX7_tend_143 : decode cX7_tend 143 = .ok (.iconst 0, 1) := by decide +kernel
theorem dX7_tend_144 : decode cX7_tend 144 = .ok (.ireturn, 1) := by decide +kernel
theorem dX7_tend_145 : decode cX7_tend 145 = .ok (.iconst 4, 1) := by decide +kernel
theorem dX7_tend_146 : decode cX7_tend 146 = .ok (.ireturn, 1) := by decide +kernel
theorem dX7_signOf_0 : decode cX7_signOf 0 = .ok (.aload_n 1, 1) := by decide +kernel
theorem dX7_signOf_1 : decode cX7_signOf 1 = .ok (.getfield 9, 3) := by decide +kernel
theorem dX7_signOf_4 : decode cX7_signOf 4 = .ok (.iconst 1, 1) := by decide +kernel
theorem dX7_signOf_5 : decode cX7_signOf 5 = .ok (.iaload, 1) := by decide +kernel
theorem dX7_signOf_6 : decode cX7_signOf 6 = .ok (.aload_n 0, 1) := by decide +kernel
theorem dX7_signOf_7 : decode cX7_signOf 7 = .ok (.getfield 15, 3) := by decide +kernel
theorem dX7_signOf_10 : decode cX7_signOf 10 = .ok (.bipush 8, 2) := by decide +kernel
theorem dX7_signOf_12 : decode cX7_signOf 12 = .ok (.idiv, 1) := by decide +kernel
theorem dX7_signOf_13 : decode cX7_signOf 13 = .ok (.iadd, 1) := by decide +kernel
theorem dX7_signOf_14 : decode cX7_signOf 14 = .ok (.aload_n 0, 1) := by decide +kernel
theorem dX7_signOf_15 : decode cX7_signOf 15 = .ok (.getfield 27, 3) := by decide +kernel
theorem dX7_signOf_18 : decode cX7_signOf 18 = .ok (.iconst 3, 1) := by decide +kernel
theorem dX7_signOf_19 : decode cX7_signOf 19 = .ok (.idiv, 1) := by decide +kernel
theorem dX7_signOf_20 : decode cX7_signOf 20 = .ok (.isub, 1) := by decide +kernel
theorem dX7_signOf_21 : decode cX7_signOf 21 = .ok (.istore_n 3, 1) := by decide +kernel
theorem dX7_signOf_22 : decode cX7_signOf 22 = .ok (.aload_n 1, 1) := by decide +kernel
theorem dX7_signOf_23 : decode cX7_signOf 23 = .ok (.getfield 9, 3) := by decide +kernel
theorem dX7_signOf_26 : decode cX7_signOf 26 = .ok (.iconst 0, 1) := by decide +kernel
theorem dX7_signOf_27 : decode cX7_signOf 27 = .ok (.iaload, 1) := by decide +kernel
theorem dX7_signOf_28 : decode cX7_signOf 28 = .ok (.aload_n 0, 1) := by decide +kernel
theorem dX7_signOf_29 : decode cX7_signOf 29 = .ok (.getfield 30, 3) := by decide +kernel
theorem dX7_signOf_32 : decode cX7_signOf 32 = .ok (.bipush 6, 2) := by decide +kernel
theorem dX7_signOf_34 : decode cX7_signOf 34 = .ok (.idiv, 1) := by decide +kernel
theorem dX7_signOf_35 : decode cX7_signOf 35 = .ok (.iadd, 1) := by decide +kernel
theorem dX7_signOf_36 : decode cX7_signOf 36 = .ok (.istore 4, 2) := by decide +kernel
theorem dX7_signOf_38 : decode cX7_signOf 38 = .ok (.aload_n 1, 1) := by decide +kernel
theorem dX7_signOf_39 : decode cX7_signOf 39 = .ok (.getfield 9, 3) := by decide +kernel
theorem dX7_signOf_42 : decode cX7_signOf 42 = .ok (.iconst 2, 1) := by decide +kernel
theorem dX7_signOf_43 : decode cX7_signOf 43 = .ok (.iaload, 1) := by decide +kernel
theorem dX7_signOf_44 : decode cX7_signOf 44 = .ok (.istore 5, 2) := by decide +kernel
theorem dX7_signOf_46 : decode cX7_signOf 46 = .ok (.iload_n 3, 1) := by decide +kernel
theorem dX7_signOf_47 : decode cX7_signOf 47 = .ok (.aload_n 0, 1) := by decide +kernel
theorem dX7_signOf_48 : decode cX7_signOf 48 = .ok (.getfield 36, 3) := by decide +kernel
theorem dX7_signOf_51 : decode cX7_signOf 51 = .ok (.iconst 2, 1) := by decide +kernel
theorem dX7_signOf_52 : decode cX7_signOf 52 = .ok (.iand, 1) := by decide +kernel
theorem dX7_signOf_53 : decode cX7_signOf 53 = .ok (.ifCond .eq 7, 3) := by decide +kernel
theorem dX7_signOf_56 : decode cX7_signOf 56 = .ok (.iconst 5, 1) := by decide +kernel
theorem dX7_signOf_57 : decode cX7_signOf 57 = .ok (.goto 4, 3) := by decide +kernel
theorem dX7_signOf_60 : decode cX7_signOf 60 = .ok (.iconst 0, 1) := by decide +kernel
theorem dX7_signOf_61 : decode cX7_signOf 61 = .ok (.isub, 1) := by decide +kernel
theorem dX7_signOf_62 : decode cX7_signOf 62 = .ok (.istore_n 3, 1) := by decide +kernel
theorem dX7_signOf_63 : decode cX7_signOf 63 = .ok (.iload 4, 2) := by decide +kernel
theorem dX7_signOf_65 : decode cX7_signOf 65 = .ok (.aload_n 0, 1) := by decide +kernel
theorem dX7_signOf_66 : decode cX7_signOf 66 = .ok (.getfield 36, 3) := by decide +kernel
theorem dX7_signOf_69 : decode cX7_signOf 69 = .ok (.iconst 1, 1) := by decide +kernel
theorem dX7_signOf_70 : decode cX7_signOf 70 = .ok (.iand, 1) := by decide +kernel
theorem dX7_signOf_71 : decode cX7_signOf 71 = .ok (.ifCond .eq 7, 3) := by decide +kernel
theorem dX7_signOf_74 : decode cX7_signOf 74 = .ok (.iconst 4, 1) := by decide +kernel
theorem dX7_signOf_75 : decode cX7_signOf 75 = .ok (.goto 4, 3) := by decide +kernel
theorem dX7_signOf_78 : decode cX7_signOf 78 = .ok (.iconst 0, 1) := by decide +kernel
theorem dX7_signOf_79 : decode cX7_signOf 79 = .ok (.isub, 1) := by decide +kernel
theorem dX7_signOf_80 : decode cX7_signOf 80 = .ok (.istore 4, 2) := by decide +kernel
theorem dX7_signOf_82 : decode cX7_signOf 82 = .ok (.iload 5, 2) := by decide +kernel
theorem dX7_signOf_84 : decode cX7_signOf 84 = .ok (.aload_n 0, 1) := by decide +kernel
theorem dX7_signOf_85 : decode cX7_signOf 85 = .ok (.getfield 36, 3) := by decide +kernel
theorem dX7_signOf_88 : decode cX7_signOf 88 = .ok (.bipush 8, 2) := by decide +kernel
theorem dX7_signOf_90 : decode cX7_signOf 90 = .ok (.iand, 1) := by decide +kernel
theorem dX7_signOf_91 : decode cX7_signOf 91 = .ok (.ifCond .eq 8, 3) := by decide +kernel
theorem dX7_signOf_94 : decode cX7_signOf 94 = .ok (.bipush 6, 2) := by decide +kernel
theorem dX7_signOf_96 : decode cX7_signOf 96 = .ok (.goto 4, 3) := by decide +kernel
theorem dX7_signOf_99 : decode cX7_signOf 99 = .ok (.iconst 0, 1) := by decide +kernel
theorem dX7_signOf_100 : decode cX7_signOf 100 = .ok (.isub, 1) := by decide +kernel
theorem dX7_signOf_101 : decode cX7_signOf 101 = .ok (.istore 5, 2) := by decide +kernel
theorem dX7_signOf_103 : decode cX7_signOf 103 = .ok (.iload_n 2, 1) := by decide +kernel
theorem dX7_signOf_104 : decode cX7_signOf 104 = .ok (.iconst 4, 1) := by decide +kernel
theorem dX7_signOf_105 : decode cX7_signOf 105 = .ok (.if_icmp .lt 44, 3) := by decide +kernel
theorem dX7_signOf_108 : decode cX7_signOf 108 = .ok (.iload_n 2, 1) := by decide +kernel
theorem dX7_signOf_109 : decode cX7_signOf 109 = .ok (.bipush 9, 2) := by decide +kernel
theorem dX7_signOf_111 : decode cX7_signOf 111 = .ok (.if_icmp .gt 38, 3) := by decide +kernel
theorem dX7_signOf_114 : decode cX7_signOf 114 = .ok (.iload_n 3, 1) := by decide +kernel
theorem dX7_signOf_115 : decode cX7_signOf 115 = .ok (.iconst 4, 1) := by decide +kernel
theorem dX7_signOf_116 : decode cX7_signOf 116 = .ok (.if_icmp .lt 33, 3) := by decide +kernel
theorem dX7_signOf_119 : decode cX7_signOf 119 = .ok (.iload 4, 2) := by decide +kernel
theorem dX7_signOf_121 : decode cX7_signOf 121 = .ok (.iconst 5, 1) := by decide +kernel
theorem dX7_signOf_122 : decode cX7_signOf 122 = .ok (.if_icmp .lt 27, 3) := by decide +kernel
theorem dX7_signOf_125 : decode cX7_signOf 125 = .ok (.iload 5, 2) := by decide +kernel
theorem dX7_signOf_127 : decode cX7_signOf 127 = .ok (.bipush 13, 2) := by decide +kernel
theorem dX7_signOf_129 : decode cX7_signOf 129 = .ok (.if_icmp .le 7, 3) := by decide +kernel
theorem dX7_signOf_132 : decode cX7_signOf 132 = .ok (.iconst 3, 1) := by decide +kernel
theorem dX7_signOf_133 : decode cX7_signOf 133 = .ok (.goto 15, 3) := by decide +kernel
theorem dX7_signOf_136 : decode cX7_signOf 136 = .ok (.iload 5, 2) := by decide +kernel
theorem dX7_signOf_138 : decode cX7_signOf 138 = .ok (.bipush 7, 2) := by decide +kernel
theorem dX7_signOf_140 : decode cX7_signOf 140 = .ok (.if_icmp .ge 7, 3) := by decide +kernel
theorem dX7_signOf_143 : decode cX7_signOf 143 = .ok (.iconst 1, 1) := by decide +kernel
theorem dX7_signOf_144 : decode cX7_signOf 144 = .ok (.goto 4, 3) := by decide +kernel
theorem dX7_signOf_147 : decode cX7_signOf 147 = .ok (.iconst 2, 1) := by decide +kernel
theorem dX7_signOf_148 : decode cX7_signOf 148 = .ok (.ireturn, 1) := by decide +kernel
theorem dX7_signOf_149 : decode cX7_signOf 149 = .ok (.iload_n 2, 1) := by decide +kernel
theorem dX7_signOf_150 : decode cX7_signOf 150 = .ok (.iconst 3, 1) := by decide +kernel
theorem dX7_signOf_151 : decode cX7_signOf 151 = .ok (.if_icmp .lt 24, 3) := by decide +kernel
theorem dX7_signOf_154 : decode cX7_signOf 154 = .ok (.iload_n 2, 1) := by decide +kernel
theorem dX7_signOf_155 : decode cX7_signOf 155 = .ok (.bipush 10, 2) := by decide +kernel
theorem dX7_signOf_157 : decode cX7_signOf 157 = .ok (.if_icmp .gt 18, 3) := by decide +kernel
theorem dX7_signOf_160 : decode cX7_signOf 160 = .ok (.iload_n 3, 1) := by decide +kernel
theorem dX7_signOf_161 : decode cX7_signOf 161 = .ok (.iconst 3, 1) := by decide +kernel
theorem dX7_signOf_162 : decode cX7_signOf 162 = .ok (.if_icmp .lt 13, 3) := by decide +kernel
theorem dX7_signOf_165 : decode cX7_signOf 165 = .ok (.iload 4, 2) := by decide +kernel
theorem dX7_signOf_167 : decode cX7_signOf 167 = .ok (.iconst 4, 1) := by decide +kernel
theorem dX7_signOf_168 : decode cX7_signOf 168 = .ok (.if_icmp .lt 7, 3) := by decide +kernel
theorem dX7_signOf_171 : decode cX7_signOf 171 = .ok (.iconst 1, 1) := by decide +kernel
theorem dX7_signOf_172 : decode cX7_signOf 172 = .ok (.goto 4, 3) := by decide +kernel
theorem dX7_signOf_175 : decode cX7_signOf 175 = .ok (.iconst 0, 1) := by decide +kernel
theorem dX7_signOf_176 : decode cX7_signOf 176 = .ok (.ireturn, 1) := by decide +kernel
theorem dX7_turn_0 : decode cX7_turn 0 = .ok (.aload_n 0, 1) := by decide +kernel
theorem dX7_turn_1 : decode cX7_turn 1 = .ok (.getfield 36, 3) := by decide +kernel
theorem dX7_turn_4 : decode cX7_turn 4 = .ok (.iconst 4, 1) := by decide +kernel
theorem dX7_turn_5 : decode cX7_turn 5 = .ok (.iand, 1) := by decide +kernel
theorem dX7_turn_6 : decode cX7_turn 6 = .ok (.ifCond .eq 7, 3) := by decide +kernel
theorem dX7_turn_9 : decode cX7_turn 9 = .ok (.iconst 1, 1) := by decide +kernel
theorem dX7_turn_10 : decode cX7_turn 10 = .ok (.goto 4, 3) := by decide +kernel
theorem dX7_turn_13 : decode cX7_turn 13 = .ok (.iconst 0, 1) := by decide +kernel
theorem dX7_turn_14 : decode cX7_turn 14 = .ok (.istore_n 3, 1) := by decide +kernel
theorem dX7_turn_15 : decode cX7_turn 15 = .ok (.aload_n 0, 1) := by decide +kernel
theorem dX7_turn_16 : decode cX7_turn 16 = .ok (.getfield 36, 3) := by decide +kernel
theorem dX7_turn_19 : decode cX7_turn 19 = .ok (.bipush 16, 2) := by decide +kernel
theorem dX7_turn_21 : decode cX7_turn 21 = .ok (.iand, 1) := by decide +kernel
theorem dX7_turn_22 : decode cX7_turn 22 = .ok (.ifCond .eq 16, 3) := by decide +kernel
theorem dX7_turn_25 : decode cX7_turn 25 = .ok (.aload_n 0, 1) := by decide +kernel
theorem dX7_turn_26 : decode cX7_turn 26 = .ok (.getfield 30, 3) := by decide +kernel
theorem dX7_turn_29 : decode cX7_turn 29 = .ok (.bipush 6, 2) := by decide +kernel
theorem dX7_turn_31 : decode cX7_turn 31 = .ok (.if_icmp .ge 7, 3) := by decide +kernel
theorem dX7_turn_34 : decode cX7_turn 34 = .ok (.iconst 1, 1) := by decide +kernel
theorem dX7_turn_35 : decode cX7_turn 35 = .ok (.goto 4, 3) := by decide +kernel
theorem dX7_turn_38 : decode cX7_turn 38 = .ok (.iconst 0, 1) := by decide +kernel
theorem dX7_turn_39 : decode cX7_turn 39 = .ok (.istore 4, 2) := by decide +kernel
theorem dX7_turn_41 : decode cX7_turn 41 = .ok (.iload_n 3, 1) := by decide +kernel
theorem dX7_turn_42 : decode cX7_turn 42 = .ok (.ifCond .ne 8, 3) := by decide +kernel
theorem dX7_turn_45 : decode cX7_turn 45 = .ok (.iload 4, 2) := by decide +kernel
theorem dX7_turn_47 : decode cX7_turn 47 = .ok (.ifCond .eq 7, 3) := by decide +kernel
theorem dX7_turn_50 : decode cX7_turn 50 = .ok (.iconst 0, 1) := by decide +kernel
theorem dX7_turn_51 : decode cX7_turn 51 = .ok (.goto 13, 3) := by decide +kernel
theorem dX7_turn_54 : decode cX7_turn 54 = .ok (.aload_n 1, 1) := by decide +kernel
theorem dX7_turn_55 : decode cX7_turn 55 = .ok (.getfield 9, 3) := by decide +kernel
theorem dX7_turn_58 : decode cX7_turn 58 = .ok (.iconst 3, 1) := by decide +kernel
theorem dX7_turn_59 : decode cX7_turn 59 = .ok (.iaload, 1) := by decide +kernel
theorem dX7_turn_60 : decode cX7_turn 60 = .ok (.iconst 2, 1) := by decide +kernel
theorem dX7_turn_61 : decode cX7_turn 61 = .ok (.iload_n 2, 1) := by decide +kernel
theorem dX7_turn_62 : decode cX7_turn 62 = .ok (.imul, 1) := by decide +kernel
theorem dX7_turn_63 : decode cX7_turn 63 = .ok (.iadd, 1) := by decide +kernel
theorem dX7_turn_64 : decode cX7_turn 64 = .ok (.istore 5, 2) := by decide +kernel
theorem dX7_turn_66 : decode cX7_turn 66 = .ok (.iload 5, 2) := by decide +kernel
theorem dX7_turn_68 : decode cX7_turn 68 = .ok (.aload_n 1, 1) := by decide +kernel
theorem dX7_turn_69 : decode cX7_turn 69 = .ok (.getfield 9, 3) := by decide +kernel
theorem dX7_turn_72 : decode cX7_turn 72 = .ok (.iconst 4, 1) := by decide +kernel
theorem dX7_turn_73 : decode cX7_turn 73 = .ok (.iaload, 1) := by decide +kernel
theorem dX7_turn_74 : decode cX7_turn 74 = .ok (.imul, 1) := by decide +kernel
theorem dX7_turn_75 : decode cX7_turn 75 = .ok (.bipush 10, 2) := by decide +kernel
theorem dX7_turn_77 : decode cX7_turn 77 = .ok (.idiv, 1) := by decide +kernel
theorem dX7_turn_78 : decode cX7_turn 78 = .ok (.istore 6, 2) := by decide +kernel
theorem dX7_turn_80 : decode cX7_turn 80 = .ok (.aload_n 0, 1) := by decide +kernel
theorem dX7_turn_81 : decode cX7_turn 81 = .ok (.getfield 24, 3) := by decide +kernel
theorem dX7_turn_84 : decode cX7_turn 84 = .ok (.iconst 4, 1) := by decide +kernel
theorem dX7_turn_85 : decode cX7_turn 85 = .ok (.idiv, 1) := by decide +kernel
theorem dX7_turn_86 : decode cX7_turn 86 = .ok (.istore 7, 2) := by decide +kernel
theorem dX7_turn_88 : decode cX7_turn 88 = .ok (.iload 5, 2) := by decide +kernel
theorem dX7_turn_90 : decode cX7_turn 90 = .ok (.iload 7, 2) := by decide +kernel
theorem dX7_turn_92 : decode cX7_turn 92 = .ok (.iadd, 1) := by decide +kernel
theorem dX7_turn_93 : decode cX7_turn 93 = .ok (.aload_n 0, 1) := by decide +kernel
theorem dX7_turn_94 : decode cX7_turn 94 = .ok (.getfield 33, 3) := by decide +kernel
theorem dX7_turn_97 : decode cX7_turn 97 = .ok (.iadd, 1) := by decide +kernel
theorem dX7_turn_98 : decode cX7_turn 98 = .ok (.iload 6, 2) := by decide +kernel
theorem dX7_turn_100 : decode cX7_turn 100 = .ok (.isub, 1) := by decide +kernel
theorem dX7_turn_101 : decode cX7_turn 101 = .ok (.istore 8, 2) := by decide +kernel
theorem dX7_turn_103 : decode cX7_turn 103 = .ok (.aload_n 0, 1) := by decide +kernel
theorem dX7_turn_104 : decode cX7_turn 104 = .ok (.dup, 1) := by decide +kernel
theorem dX7_turn_105 : decode cX7_turn 105 = .ok (.getfield 24, 3) := by decide +kernel
theorem dX7_turn_108 : decode cX7_turn 108 = .ok (.iload 6, 2) := by decide +kernel
theorem dX7_turn_110 : decode cX7_turn 110 = .ok (.iload 7, 2) := by decide +kernel
theorem dX7_turn_112 : decode cX7_turn 112 = .ok (.isub, 1) := by decide +kernel
theorem dX7_turn_113 : decode cX7_turn 113 = .ok (.iadd, 1) := by decide +kernel
theorem dX7_turn_114 : decode cX7_turn 114 = .ok (.putfield 24, 3) := by decide +kernel
theorem dX7_turn_117 : decode cX7_turn 117 = .ok (.aload_n 0, 1) := by decide +kernel
theorem dX7_turn_118 : decode cX7_turn 118 = .ok (.iconst 0, 1) := by decide +kernel
theorem dX7_turn_119 : decode cX7_turn 119 = .ok (.putfield 33, 3) := by decide +kernel
theorem dX7_turn_122 : decode cX7_turn 122 = .ok (.aload_n 0, 1) := by decide +kernel
theorem dX7_turn_123 : decode cX7_turn 123 = .ok (.aload_n 1, 1) := by decide +kernel
theorem dX7_turn_124 : decode cX7_turn 124 = .ok (.iload 8, 2) := by decide +kernel
theorem dX7_turn_126 : decode cX7_turn 126 = .ok (.invokevirtual 61, 3) := by decide +kernel
theorem dX7_turn_129 : decode cX7_turn 129 = .ok (.istore 9, 2) := by decide +kernel
theorem dX7_turn_131 : decode cX7_turn 131 = .ok (.iload 9, 2) := by decide +kernel
theorem dX7_turn_133 : decode cX7_turn 133 = .ok (.iconst 2, 1) := by decide +kernel
theorem dX7_turn_134 : decode cX7_turn 134 = .ok (.if_icmp .ne 11, 3) := by decide +kernel
theorem dX7_turn_137 : decode cX7_turn 137 = .ok (.aload_n 0, 1) := by decide +kernel
theorem dX7_turn_138 : decode cX7_turn 138 = .ok (.iconst 1, 1) := by decide +kernel
theorem dX7_turn_139 : decode cX7_turn 139 = .ok (.putfield 39, 3) := by decide +kernel
theorem dX7_turn_142 : decode cX7_turn 142 = .ok (.iload 9, 2) := by decide +kernel
theorem dX7_turn_144 : decode cX7_turn 144 = .ok (.ireturn, 1) := by decide +kernel
theorem dX7_turn_145 : decode cX7_turn 145 = .ok (.aload_n 0, 1) := by decide +kernel
theorem dX7_turn_146 : decode cX7_turn 146 = .ok (.bipush 99, 2) := by decide +kernel
theorem dX7_turn_148 : decode cX7_turn 148 = .ok (.aload_n 0, 1) := by decide +kernel
theorem dX7_turn_149 : decode cX7_turn 149 = .ok (.getfield 27, 3) := by decide +kernel
theorem dX7_turn_152 : decode cX7_turn 152 = .ok (.iconst 0, 1) := by decide +kernel
theorem dX7_turn_153 : decode cX7_turn 153 = .ok (.iload 8, 2) := by decide +kernel
theorem dX7_turn_155 : decode cX7_turn 155 = .ok (.bipush 9, 2) := by decide +kernel
theorem dX7_turn_157 : decode cX7_turn 157 = .ok (.isub, 1) := by decide +kernel
theorem dX7_turn_158 : decode cX7_turn 158 = .ok (.invokestatic 64, 3) := by decide +kernel
theorem dX7_turn_161 : decode cX7_turn 161 = .ok (.iadd, 1) := by decide +kernel
theorem dX7_turn_162 : decode cX7_turn 162 = .ok (.invokestatic 70, 3) := by decide +kernel
theorem dX7_turn_165 : decode cX7_turn 165 = .ok (.putfield 27, 3) := by decide +kernel
theorem dX7_turn_168 : decode cX7_turn 168 = .ok (.aload_n 0, 1) := by decide +kernel
theorem dX7_turn_169 : decode cX7_turn 169 = .ok (.bipush 20, 2) := by decide +kernel
theorem dX7_turn_171 : decode cX7_turn 171 = .ok (.aload_n 0, 1) := by decide +kernel
theorem dX7_turn_172 : decode cX7_turn 172 = .ok (.getfield 30, 3) := by decide +kernel
theorem dX7_turn_175 : decode cX7_turn 175 = .ok (.iload 9, 2) := by decide +kernel
theorem dX7_turn_177 : decode cX7_turn 177 = .ok (.ifCond .ne 7, 3) := by decide +kernel
theorem dX7_turn_180 : decode cX7_turn 180 = .ok (.iconst 1, 1) := by decide +kernel
theorem dX7_turn_181 : decode cX7_turn 181 = .ok (.goto 4, 3) := by decide +kernel
theorem dX7_turn_184 : decode cX7_turn 184 = .ok (.iconst 2, 1) := by decide +kernel
theorem dX7_turn_185 : decode cX7_turn 185 = .ok (.iadd, 1) := by decide +kernel
theorem dX7_turn_186 : decode cX7_turn 186 = .ok (.invokestatic 70, 3) := by decide +kernel
theorem dX7_turn_189 : decode cX7_turn 189 = .ok (.putfield 30, 3) := by decide +kernel
theorem dX7_turn_192 : decode cX7_turn 192 = .ok (.iload 9, 2) := by decide +kernel
theorem dX7_turn_194 : decode cX7_turn 194 = .ok (.ireturn, 1) := by decide +kernel
theorem dX7_does_0 : decode cX7_does 0 = .ok (.aload_n 0, 1) := by decide +kernel
theorem dX7_does_1 : decode cX7_does 1 = .ok (.getfield 39, 3) := by decide +kernel
theorem dX7_does_4 : decode cX7_does 4 = .ok (.ifCond .ne 12, 3) := by decide +kernel
theorem dX7_does_7 : decode cX7_does 7 = .ok (.iload_n 2, 1) := by decide +kernel
theorem dX7_does_8 : decode cX7_does 8 = .ok (.bipush 10, 2) := by decide +kernel
theorem dX7_does_10 : decode cX7_does 10 = .ok (.invokestatic 47, 3) := by decide +kernel
theorem dX7_does_13 : decode cX7_does 13 = .ok (.ifCond .ne 5, 3) := by decide +kernel
theorem dX7_does_16 : decode cX7_does 16 = .ok (.iconst 4, 1) := by decide +kernel
theorem dX7_does_17 : decode cX7_does 17 = .ok (.ireturn, 1) := by decide +kernel
theorem dX7_does_18 : decode cX7_does 18 = .ok (.iload_n 2, 1) := by decide +kernel
theorem dX7_does_19 : decode cX7_does 19 = .ok (.iconst 4, 1) := by decide +kernel
theorem dX7_does_20 : decode cX7_does 20 = .ok (.if_icmp .ge 16, 3) := by decide +kernel
theorem dX7_does_23 : decode cX7_does 23 = .ok (.iconst 1, 1) := by decide +kernel
theorem dX7_does_24 : decode cX7_does 24 = .ok (.aload_n 1, 1) := by decide +kernel
theorem dX7_does_25 : decode cX7_does 25 = .ok (.getfield 9, 3) := by decide +kernel
theorem dX7_does_28 : decode cX7_does 28 = .ok (.iconst 4, 1) := by decide +kernel
theorem dX7_does_29 : decode cX7_does 29 = .ok (.iaload, 1) := by decide +kernel
theorem dX7_does_30 : decode cX7_does 30 = .ok (.iconst 5, 1) := by decide +kernel
theorem dX7_does_31 : decode cX7_does 31 = .ok (.idiv, 1) := by decide +kernel
theorem dX7_does_32 : decode cX7_does 32 = .ok (.iadd, 1) := by decide +kernel
theorem dX7_does_33 : decode cX7_does 33 = .ok (.goto 4, 3) := by decide +kernel
theorem dX7_does_36 : decode cX7_does 36 = .ok (.iconst 0, 1) := by decide +kernel
theorem dX7_does_37 : decode cX7_does 37 = .ok (.istore_n 3, 1) := by decide +kernel
theorem dX7_does_38 : decode cX7_does 38 = .ok (.aload_n 0, 1) := by decide +kernel
theorem dX7_does_39 : decode cX7_does 39 = .ok (.getfield 15, 3) := by decide +kernel
theorem dX7_does_42 : decode cX7_does 42 = .ok (.iload_n 3, 1) := by decide +kernel
theorem dX7_does_43 : decode cX7_does 43 = .ok (.if_icmp .lt 15, 3) := by decide +kernel
theorem dX7_does_46 : decode cX7_does 46 = .ok (.aload_n 0, 1) := by decide +kernel
theorem dX7_does_47 : decode cX7_does 47 = .ok (.getfield 21, 3) := by decide +kernel
theorem dX7_does_50 : decode cX7_does 50 = .ok (.getstatic 51, 3) := by decide +kernel
theorem dX7_does_53 : decode cX7_does 53 = .ok (.iload_n 2, 1) := by decide +kernel
theorem dX7_does_54 : decode cX7_does 54 = .ok (.iaload, 1) := by decide +kernel
theorem dX7_does_55 : decode cX7_does 55 = .ok (.if_icmp .ge 5, 3) := by decide +kernel
theorem dX7_does_58 : decode cX7_does 58 = .ok (.iconst 4, 1) := by decide +kernel
theorem dX7_does_59 : decode cX7_does 59 = .ok (.ireturn, 1) := by decide +kernel
theorem dX7_does_60 : decode cX7_does 60 = .ok (.aload_n 0, 1) := by decide +kernel
theorem dX7_does_61 : decode cX7_does 61 = .ok (.dup, 1) := by decide +kernel
theorem dX7_does_62 : decode cX7_does 62 = .ok (.getfield 15, 3) := by decide +kernel
theorem dX7_does_65 : decode cX7_does 65 = .ok (.iload_n 3, 1) := by decide +kernel
theorem dX7_does_66 : decode cX7_does 66 = .ok (.isub, 1) := by decide +kernel
theorem dX7_does_67 : decode cX7_does 67 = .ok (.putfield 15, 3) := by decide +kernel
theorem dX7_does_70 : decode cX7_does 70 = .ok (.aload_n 0, 1) := by decide +kernel
theorem dX7_does_71 : decode cX7_does 71 = .ok (.dup, 1) := by decide +kernel
theorem dX7_does_72 : decode cX7_does 72 = .ok (.getfield 21, 3) := by decide +kernel
theorem dX7_does_75 : decode cX7_does 75 = .ok (.getstatic 51, 3) := by decide +kernel
theorem dX7_does_78 : decode cX7_does 78 = .ok (.iload_n 2, 1) := by decide +kernel
theorem dX7_does_79 : decode cX7_does 79 = .ok (.iaload, 1) := by decide +kernel
theorem dX7_does_80 : decode cX7_does 80 = .ok (.isub, 1) := by decide +kernel
theorem dX7_does_81 : decode cX7_does 81 = .ok (.putfield 21, 3) := by decide +kernel
theorem dX7_does_84 : decode cX7_does 84 = .ok (.iload_n 2, 1) := by decide +kernel
theorem dX7_does_85 : decode cX7_does 85 = .ok (.iconst 4, 1) := by decide +kernel
theorem dX7_does_86 : decode cX7_does 86 = .ok (.if_icmp .ge 12, 3) := by decide +kernel
theorem dX7_does_89 : decode cX7_does 89 = .ok (.aload_n 0, 1) := by decide +kernel
theorem dX7_does_90 : decode cX7_does 90 = .ok (.aload_n 1, 1) := by decide +kernel
theorem dX7_does_91 : decode cX7_does 91 = .ok (.iload_n 2, 1) := by decide +kernel
theorem dX7_does_92 : decode cX7_does 92 = .ok (.invokevirtual 54, 3) := by decide +kernel
theorem dX7_does_95 : decode cX7_does 95 = .ok (.goto 9, 3) := by decide +kernel
theorem dX7_does_98 : decode cX7_does 98 = .ok (.aload_n 0, 1) := by decide +kernel
theorem dX7_does_99 : decode cX7_does 99 = .ok (.aload_n 1, 1) := by decide +kernel
theorem dX7_does_100 : decode cX7_does 100 = .ok (.iload_n 2, 1) := by decide +kernel
theorem dX7_does_101 : decode cX7_does 101 = .ok (.invokevirtual 58, 3) := by decide +kernel
theorem dX7_does_104 : decode cX7_does 104 = .ok (.ireturn, 1) := by decide +kernel
theorem dX7_pack_0 : decode cX7_pack 0 = .ok (.aload_n 0, 1) := by decide +kernel
theorem dX7_pack_1 : decode cX7_pack 1 = .ok (.getfield 39, 3) := by decide +kernel
theorem dX7_pack_4 : decode cX7_pack 4 = .ok (.ifCond .eq 7, 3) := by decide +kernel
theorem dX7_pack_7 : decode cX7_pack 7 = .ok (.lconst 1, 1) := by decide +kernel
theorem dX7_pack_8 : decode cX7_pack 8 = .ok (.goto 4, 3) := by decide +kernel
theorem dX7_pack_11 : decode cX7_pack 11 = .ok (.lconst 0, 1) := by decide +kernel
theorem dX7_pack_12 : decode cX7_pack 12 = .ok (.lstore_n 1, 1) := by decide +kernel
theorem dX7_pack_13 : decode cX7_pack 13 = .ok (.lload_n 1, 1) := by decide +kernel
theorem dX7_pack_14 : decode cX7_pack 14 = .ok (.bipush 8, 2) := by decide +kernel
theorem dX7_pack_16 : decode cX7_pack 16 = .ok (.lshl, 1) := by decide +kernel
theorem dX7_pack_17 : decode cX7_pack 17 = .ok (.aload_n 0, 1) := by decide +kernel
theorem dX7_pack_18 : decode cX7_pack 18 = .ok (.getfield 36, 3) := by decide +kernel
theorem dX7_pack_21 : decode cX7_pack 21 = .ok (.i2l, 1) := by decide +kernel
theorem dX7_pack_22 : decode cX7_pack 22 = .ok (.lor, 1) := by decide +kernel
theorem dX7_pack_23 : decode cX7_pack 23 = .ok (.lstore_n 1, 1) := by decide +kernel
theorem dX7_pack_24 : decode cX7_pack 24 = .ok (.lload_n 1, 1) := by decide +kernel
theorem dX7_pack_25 : decode cX7_pack 25 = .ok (.bipush 8, 2) := by decide +kernel
theorem dX7_pack_27 : decode cX7_pack 27 = .ok (.lshl, 1) := by decide +kernel
theorem dX7_pack_28 : decode cX7_pack 28 = .ok (.aload_n 0, 1) := by decide +kernel
theorem dX7_pack_29 : decode cX7_pack 29 = .ok (.getfield 33, 3) := by decide +kernel
theorem dX7_pack_32 : decode cX7_pack 32 = .ok (.i2l, 1) := by decide +kernel
theorem dX7_pack_33 : decode cX7_pack 33 = .ok (.lor, 1) := by decide +kernel
theorem dX7_pack_34 : decode cX7_pack 34 = .ok (.lstore_n 1, 1) := by decide +kernel
theorem dX7_pack_35 : decode cX7_pack 35 = .ok (.lload_n 1, 1) := by decide +kernel
theorem dX7_pack_36 : decode cX7_pack 36 = .ok (.bipush 8, 2) := by decide +kernel
theorem dX7_pack_38 : decode cX7_pack 38 = .ok (.lshl, 1) := by decide +kernel
theorem dX7_pack_39 : decode cX7_pack 39 = .ok (.aload_n 0, 1) := by decide +kernel
theorem dX7_pack_40 : decode cX7_pack 40 = .ok (.getfield 30, 3) := by decide +kernel
theorem dX7_pack_43 : decode cX7_pack 43 = .ok (.i2l, 1) := by decide +kernel
theorem dX7_pack_44 : decode cX7_pack 44 = .ok (.lor, 1) := by decide +kernel
theorem dX7_pack_45 : decode cX7_pack 45 = .ok (.lstore_n 1, 1) := by decide +kernel
theorem dX7_pack_46 : decode cX7_pack 46 = .ok (.lload_n 1, 1) := by decide +kernel
theorem dX7_pack_47 : decode cX7_pack 47 = .ok (.bipush 8, 2) := by decide +kernel
theorem dX7_pack_49 : decode cX7_pack 49 = .ok (.lshl, 1) := by decide +kernel
theorem dX7_pack_50 : decode cX7_pack 50 = .ok (.aload_n 0, 1) := by decide +kernel
theorem dX7_pack_51 : decode cX7_pack 51 = .ok (.getfield 27, 3) := by decide +kernel
theorem dX7_pack_54 : decode cX7_pack 54 = .ok (.i2l, 1) := by decide +kernel
theorem dX7_pack_55 : decode cX7_pack 55 = .ok (.lor, 1) := by decide +kernel
theorem dX7_pack_56 : decode cX7_pack 56 = .ok (.lstore_n 1, 1) := by decide +kernel
theorem dX7_pack_57 : decode cX7_pack 57 = .ok (.lload_n 1, 1) := by decide +kernel
theorem dX7_pack_58 : decode cX7_pack 58 = .ok (.bipush 8, 2) := by decide +kernel
theorem dX7_pack_60 : decode cX7_pack 60 = .ok (.lshl, 1) := by decide +kernel
theorem dX7_pack_61 : decode cX7_pack 61 = .ok (.aload_n 0, 1) := by decide +kernel
theorem dX7_pack_62 : decode cX7_pack 62 = .ok (.getfield 24, 3) := by decide +kernel
theorem dX7_pack_65 : decode cX7_pack 65 = .ok (.i2l, 1) := by decide +kernel
theorem dX7_pack_66 : decode cX7_pack 66 = .ok (.lor, 1) := by decide +kernel
theorem dX7_pack_67 : decode cX7_pack 67 = .ok (.lstore_n 1, 1) := by decide +kernel
theorem dX7_pack_68 : decode cX7_pack 68 = .ok (.lload_n 1, 1) := by decide +kernel
theorem dX7_pack_69 : decode cX7_pack 69 = .ok (.bipush 8, 2) := by decide +kernel
theorem dX7_pack_71 : decode cX7_pack 71 = .ok (.lshl, 1) := by decide +kernel
theorem dX7_pack_72 : decode cX7_pack 72 = .ok (.aload_n 0, 1) := by decide +kernel
theorem dX7_pack_73 : decode cX7_pack 73 = .ok (.getfield 21, 3) := by decide +kernel
theorem dX7_pack_76 : decode cX7_pack 76 = .ok (.i2l, 1) := by decide +kernel
theorem dX7_pack_77 : decode cX7_pack 77 = .ok (.lor, 1) := by decide +kernel
theorem dX7_pack_78 : decode cX7_pack 78 = .ok (.lstore_n 1, 1) := by decide +kernel
theorem dX7_pack_79 : decode cX7_pack 79 = .ok (.lload_n 1, 1) := by decide +kernel
theorem dX7_pack_80 : decode cX7_pack 80 = .ok (.bipush 8, 2) := by decide +kernel
theorem dX7_pack_82 : decode cX7_pack 82 = .ok (.lshl, 1) := by decide +kernel
theorem dX7_pack_83 : decode cX7_pack 83 = .ok (.aload_n 0, 1) := by decide +kernel
theorem dX7_pack_84 : decode cX7_pack 84 = .ok (.getfield 15, 3) := by decide +kernel
theorem dX7_pack_87 : decode cX7_pack 87 = .ok (.i2l, 1) := by decide +kernel
theorem dX7_pack_88 : decode cX7_pack 88 = .ok (.lor, 1) := by decide +kernel
theorem dX7_pack_89 : decode cX7_pack 89 = .ok (.lreturn, 1) := by decide +kernel
theorem dX1_learn_0 : decode cX1_learn 0 = .ok (.aload_n 0, 1) := by decide +kernel
theorem dX1_learn_1 : decode cX1_learn 1 = .ok (.iconst 0, 1) := by decide +kernel
theorem dX1_learn_2 : decode cX1_learn 2 = .ok (.putfield 43, 3) := by decide +kernel
theorem dX1_learn_5 : decode cX1_learn 5 = .ok (.aload_n 0, 1) := by decide +kernel
theorem dX1_learn_6 : decode cX1_learn 6 = .ok (.iconst 0, 1) := by decide +kernel
theorem dX1_learn_7 : decode cX1_learn 7 = .ok (.putfield 47, 3) := by decide +kernel
theorem dX1_learn_10 : decode cX1_learn 10 = .ok (.iconst 0, 1) := by decide +kernel
theorem dX1_learn_11 : decode cX1_learn 11 = .ok (.istore 4, 2) := by decide +kernel
theorem dX1_learn_13 : decode cX1_learn 13 = .ok (.iconst 0, 1) := by decide +kernel
theorem dX1_learn_14 : decode cX1_learn 14 = .ok (.istore 5, 2) := by decide +kernel
theorem dX1_learn_16 : decode cX1_learn 16 = .ok (.iload 5, 2) := by decide +kernel
theorem dX1_learn_18 : decode cX1_learn 18 = .ok (.bipush 32, 2) := by decide +kernel
theorem dX1_learn_20 : decode cX1_learn 20 = .ok (.if_icmp .ge 190, 3) := by decide +kernel
theorem dX1_learn_23 : decode cX1_learn 23 = .ok (.iconst 1, 1) := by decide +kernel
theorem dX1_learn_24 : decode cX1_learn 24 = .ok (.istore 6, 2) := by decide +kernel
theorem dX1_learn_26 : decode cX1_learn 26 = .ok (.aload_n 0, 1) := by decide +kernel
theorem dX1_learn_27 : decode cX1_learn 27 = .ok (.getfield 39, 3) := by decide +kernel
theorem dX1_learn_30 : decode cX1_learn 30 = .ok (.aload_n 1, 1) := by decide +kernel
theorem dX1_learn_31 : decode cX1_learn 31 = .ok (.iload 5, 2) := by decide +kernel
theorem dX1_learn_33 : decode cX1_learn 33 = .ok (.invokevirtual 50, 3) := by decide +kernel
theorem dX1_learn_36 : decode cX1_learn 36 = .ok (.iconst 0, 1) := by decide +kernel
theorem dX1_learn_37 : decode cX1_learn 37 = .ok (.istore 7, 2) := by decide +kernel
theorem dX1_learn_39 : decode cX1_learn 39 = .ok (.iload 7, 2) := by decide +kernel
theorem dX1_learn_41 : decode cX1_learn 41 = .ok (.aload_n 2, 1) := by decide +kernel
theorem dX1_learn_42 : decode cX1_learn 42 = .ok (.getfield 54, 3) := by decide +kernel
theorem dX1_learn_45 : decode cX1_learn 45 = .ok (.if_icmp .ge 49, 3) := by decide +kernel
theorem dX1_learn_48 : decode cX1_learn 48 = .ok (.iload 7, 2) := by decide +kernel
theorem dX1_learn_50 : decode cX1_learn 50 = .ok (.bipush 24, 2) := by decide +kernel
theorem dX1_learn_52 : decode cX1_learn 52 = .ok (.if_icmp .ge 42, 3) := by decide +kernel
theorem dX1_learn_55 : decode cX1_learn 55 = .ok (.iload 6, 2) := by decide +kernel
theorem dX1_learn_57 : decode cX1_learn 57 = .ok (.aload_n 0, 1) := by decide +kernel
theorem dX1_learn_58 : decode cX1_learn 58 = .ok (.getfield 39, 3) := by decide +kernel
theorem dX1_learn_61 : decode cX1_learn 61 = .ok (.aload_n 1, 1) := by decide +kernel
theorem dX1_learn_62 : decode cX1_learn 62 = .ok (.aload_n 2, 1) := by decide +kernel
theorem dX1_learn_63 : decode cX1_learn 63 = .ok (.iload 7, 2) := by decide +kernel
theorem dX1_learn_65 : decode cX1_learn 65 = .ok (.invokevirtual 59, 3) := by decide +kernel
theorem dX1_learn_68 : decode cX1_learn 68 = .ok (.invokevirtual 63, 3) := by decide +kernel
theorem dX1_learn_71 : decode cX1_learn 71 = .ok (.aload_n 2, 1) := by decide +kernel
theorem dX1_learn_72 : decode cX1_learn 72 = .ok (.iload 7, 2) := by decide +kernel
theorem dX1_learn_74 : decode cX1_learn 74 = .ok (.invokevirtual 67, 3) := by decide +kernel
theorem dX1_learn_77 : decode cX1_learn 77 = .ok (.if_icmp .ne 7, 3) := by decide +kernel
theorem dX1_learn_80 : decode cX1_learn 80 = .ok (.iconst 1, 1) := by decide +kernel
theorem dX1_learn_81 : decode cX1_learn 81 = .ok (.goto 4, 3) := by decide +kernel
theorem dX1_learn_84 : decode cX1_learn 84 = .ok (.iconst 0, 1) := by decide +kernel
theorem dX1_learn_85 : decode cX1_learn 85 = .ok (.iand, 1) := by decide +kernel
theorem dX1_learn_86 : decode cX1_learn 86 = .ok (.istore 6, 2) := by decide +kernel
theorem dX1_learn_88 : decode cX1_learn 88 = .ok (.iinc 7 1, 3) := by decide +kernel
theorem dX1_learn_91 : decode cX1_learn 91 = .ok (.goto (-52), 3) := by decide +kernel
theorem dX1_learn_94 : decode cX1_learn 94 = .ok (.aload_n 0, 1) := by decide +kernel
theorem dX1_learn_95 : decode cX1_learn 95 = .ok (.getfield 9, 3) := by decide +kernel
theorem dX1_learn_98 : decode cX1_learn 98 = .ok (.iload 5, 2) := by decide +kernel
theorem dX1_learn_100 : decode cX1_learn 100 = .ok (.aload_n 0, 1) := by decide +kernel
theorem dX1_learn_101 : decode cX1_learn 101 = .ok (.getfield 39, 3) := by decide +kernel
theorem dX1_learn_104 : decode cX1_learn 104 = .ok (.invokevirtual 70, 3) := by decide +kernel
theorem dX1_learn_107 : decode cX1_learn 107 = .ok (.lastore, 1) := by decide +kernel
theorem dX1_learn_108 : decode cX1_learn 108 = .ok (.aload_n 0, 1) := by decide +kernel
theorem dX1_learn_109 : decode cX1_learn 109 = .ok (.getfield 15, 3) := by decide +kernel
theorem dX1_learn_112 : decode cX1_learn 112 = .ok (.iload 5, 2) := by decide +kernel
theorem dX1_learn_114 : decode cX1_learn 114 = .ok (.iload 6, 2) := by decide +kernel
theorem dX1_learn_116 : decode cX1_learn 116 = .ok (.ifCond .eq 13, 3) := by decide +kernel
theorem dX1_learn_119 : decode cX1_learn 119 = .ok (.aload_n 3, 1) := by decide +kernel
theorem dX1_learn_120 : decode cX1_learn 120 = .ok (.iload 5, 2) := by decide +kernel
theorem dX1_learn_122 : decode cX1_learn 122 = .ok (.iconst (-1), 1) := by decide +kernel
theorem dX1_learn_123 : decode cX1_learn 123 = .ok (.invokevirtual 74, 3) := by decide +kernel
theorem dX1_learn_126 : decode cX1_learn 126 = .ok (.goto 4, 3) := by decide +kernel
theorem dX1_learn_129 : decode cX1_learn 129 = .ok (.iconst 0, 1) := by decide +kernel
theorem dX1_learn_130 : decode cX1_learn 130 = .ok (.iastore, 1) := by decide +kernel
theorem dX1_learn_131 : decode cX1_learn 131 = .ok (.aload_n 0, 1) := by decide +kernel
theorem dX1_learn_132 : decode cX1_learn 132 = .ok (.dup, 1) := by decide +kernel
theorem dX1_learn_133 : decode cX1_learn 133 = .ok (.getfield 47, 3) := by decide +kernel
theorem dX1_learn_136 : decode cX1_learn 136 = .ok (.aload_n 0, 1) := by decide +kernel
theorem dX1_learn_137 : decode cX1_learn 137 = .ok (.getfield 15, 3) := by decide +kernel
theorem dX1_learn_140 : decode cX1_learn 140 = .ok (.iload 5, 2) := by decide +kernel
theorem dX1_learn_142 : decode cX1_learn 142 = .ok (.iaload, 1) := by decide +kernel
theorem dX1_learn_143 : decode cX1_learn 143 = .ok (.iadd, 1) := by decide +kernel
theorem dX1_learn_144 : decode cX1_learn 144 = .ok (.putfield 47, 3) := by decide +kernel
theorem dX1_learn_147 : decode cX1_learn 147 = .ok (.aload_n 0, 1) := by decide +kernel
theorem dX1_learn_148 : decode cX1_learn 148 = .ok (.dup, 1) := by decide +kernel
theorem dX1_learn_149 : decode cX1_learn 149 = .ok (.getfield 43, 3) := by decide +kernel
theorem dX1_learn_152 : decode cX1_learn 152 = .ok (.aload_n 0, 1) := by decide +kernel
theorem dX1_learn_153 : decode cX1_learn 153 = .ok (.getfield 15, 3) := by decide +kernel
theorem dX1_learn_156 : decode cX1_learn 156 = .ok (.iload 5, 2) := by decide +kernel
theorem dX1_learn_158 : decode cX1_learn 158 = .ok (.iaload, 1) := by decide +kernel
theorem dX1_learn_159 : decode cX1_learn 159 = .ok (.ifCond .le 10, 3) := by decide +kernel
theorem dX1_learn_162 : decode cX1_learn 162 = .ok (.iconst 1, 1) := by decide +kernel
theorem dX1_learn_163 : decode cX1_learn 163 = .ok (.iload 5, 2) := by decide +kernel
theorem dX1_learn_165 : decode cX1_learn 165 = .ok (.ishl, 1) := by decide +kernel
theorem dX1_learn_166 : decode cX1_learn 166 = .ok (.goto 4, 3) := by decide +kernel
theorem dX1_learn_169 : decode cX1_learn 169 = .ok (.iconst 0, 1) := by decide +kernel
theorem dX1_learn_170 : decode cX1_learn 170 = .ok (.ior, 1) := by decide +kernel
theorem dX1_learn_171 : decode cX1_learn 171 = .ok (.putfield 43, 3) := by decide +kernel
theorem dX1_learn_174 : decode cX1_learn 174 = .ok (.iload 4, 2) := by decide +kernel
theorem dX1_learn_176 : decode cX1_learn 176 = .ok (.aload_n 0, 1) := by decide +kernel
theorem dX1_learn_177 : decode cX1_learn 177 = .ok (.getfield 15, 3) := by decide +kernel
theorem dX1_learn_180 : decode cX1_learn 180 = .ok (.iload 5, 2) := by decide +kernel
theorem dX1_learn_182 : decode cX1_learn 182 = .ok (.iaload, 1) := by decide +kernel
theorem dX1_learn_183 : decode cX1_learn 183 = .ok (.ifCond .le 17, 3) := by decide +kernel
theorem dX1_learn_186 : decode cX1_learn 186 = .ok (.aload_n 0, 1) := by decide +kernel
theorem dX1_learn_187 : decode cX1_learn 187 = .ok (.getfield 39, 3) := by decide +kernel
theorem dX1_learn_190 : decode cX1_learn 190 = .ok (.getfield 80, 3) := by decide +kernel
theorem dX1_learn_193 : decode cX1_learn 193 = .ok (.ifCond .eq 7, 3) := by decide +kernel
theorem dX1_learn_196 : decode cX1_learn 196 = .ok (.iconst 1, 1) := by decide +kernel
theorem dX1_learn_197 : decode cX1_learn 197 = .ok (.goto 4, 3) := by decide +kernel
theorem dX1_learn_200 : decode cX1_learn 200 = .ok (.iconst 0, 1) := by decide +kernel
theorem dX1_learn_201 : decode cX1_learn 201 = .ok (.ior, 1) := by decide +kernel
theorem dX1_learn_202 : decode cX1_learn 202 = .ok (.istore 4, 2) := by decide +kernel
theorem dX1_learn_204 : decode cX1_learn 204 = .ok (.iinc 5 1, 3) := by decide +kernel
theorem dX1_learn_207 : decode cX1_learn 207 = .ok (.goto (-191), 3) := by decide +kernel
theorem dX1_learn_210 : decode cX1_learn 210 = .ok (.aload_n 0, 1) := by decide +kernel
theorem dX1_learn_211 : decode cX1_learn 211 = .ok (.getfield 27, 3) := by decide +kernel
theorem dX1_learn_214 : decode cX1_learn 214 = .ok (.iload 4, 2) := by decide +kernel
theorem dX1_learn_216 : decode cX1_learn 216 = .ok (.ifCond .eq 7, 3) := by decide +kernel
theorem dX1_learn_219 : decode cX1_learn 219 = .ok (.iconst 0, 1) := by decide +kernel
theorem dX1_learn_220 : decode cX1_learn 220 = .ok (.goto 4, 3) := by decide +kernel
theorem dX1_learn_223 : decode cX1_learn 223 = .ok (.iconst (-1), 1) := by decide +kernel
theorem dX1_learn_224 : decode cX1_learn 224 = .ok (.invokestatic 84, 3) := by decide +kernel
theorem dX1_learn_227 : decode cX1_learn 227 = .ok (.aload_n 0, 1) := by decide +kernel
theorem dX1_learn_228 : decode cX1_learn 228 = .ok (.getfield 30, 3) := by decide +kernel
theorem dX1_learn_231 : decode cX1_learn 231 = .ok (.aload_n 0, 1) := by decide +kernel
theorem dX1_learn_232 : decode cX1_learn 232 = .ok (.getfield 47, 3) := by decide +kernel
theorem dX1_learn_235 : decode cX1_learn 235 = .ok (.invokestatic 84, 3) := by decide +kernel
theorem dX1_learn_238 : decode cX1_learn 238 = .ok (.aload_n 0, 1) := by decide +kernel
theorem dX1_learn_239 : decode cX1_learn 239 = .ok (.iconst 1, 1) := by decide +kernel
theorem dX1_learn_240 : decode cX1_learn 240 = .ok (.putfield 90, 3) := by decide +kernel
theorem dX1_learn_243 : decode cX1_learn 243 = .ok (.return_, 1) := by decide +kernel
theorem dX1_weightWith_0 : decode cX1_weightWith 0 = .ok (.iconst 0, 1) := by decide +kernel
theorem dX1_weightWith_1 : decode cX1_weightWith 1 = .ok (.istore_n 2, 1) := by decide +kernel
theorem dX1_weightWith_2 : decode cX1_weightWith 2 = .ok (.iconst 0, 1) := by decide +kernel
theorem dX1_weightWith_3 : decode cX1_weightWith 3 = .ok (.istore_n 3, 1) := by decide +kernel
theorem dX1_weightWith_4 : decode cX1_weightWith 4 = .ok (.iload_n 3, 1) := by decide +kernel
theorem dX1_weightWith_5 : decode cX1_weightWith 5 = .ok (.bipush 32, 2) := by decide +kernel
theorem dX1_weightWith_7 : decode cX1_weightWith 7 = .ok (.if_icmp .ge 24, 3) := by decide +kernel
theorem dX1_weightWith_10 : decode cX1_weightWith 10 = .ok (.iload_n 2, 1) := by decide +kernel
theorem dX1_weightWith_11 : decode cX1_weightWith 11 = .ok (.iload_n 3, 1) := by decide +kernel
theorem dX1_weightWith_12 : decode cX1_weightWith 12 = .ok (.iload_n 1, 1) := by decide +kernel
theorem dX1_weightWith_13 : decode cX1_weightWith 13 = .ok (.iushr, 1) := by decide +kernel
theorem dX1_weightWith_14 : decode cX1_weightWith 14 = .ok (.iconst 1, 1) := by decide +kernel
theorem dX1_weightWith_15 : decode cX1_weightWith 15 = .ok (.iand, 1) := by decide +kernel
theorem dX1_weightWith_16 : decode cX1_weightWith 16 = .ok (.aload_n 0, 1) := by decide +kernel
theorem dX1_weightWith_17 : decode cX1_weightWith 17 = .ok (.getfield 15, 3) := by decide +kernel
theorem dX1_weightWith_20 : decode cX1_weightWith 20 = .ok (.iload_n 3, 1) := by decide +kernel
theorem dX1_weightWith_21 : decode cX1_weightWith 21 = .ok (.iaload, 1) := by decide +kernel
theorem dX1_weightWith_22 : decode cX1_weightWith 22 = .ok (.imul, 1) := by decide +kernel
theorem dX1_weightWith_23 : decode cX1_weightWith 23 = .ok (.iadd, 1) := by decide +kernel
theorem dX1_weightWith_24 : decode cX1_weightWith 24 = .ok (.istore_n 2, 1) := by decide +kernel
theorem dX1_weightWith_25 : decode cX1_weightWith 25 = .ok (.iinc 3 1, 3) := by decide +kernel
theorem dX1_weightWith_28 : decode cX1_weightWith 28 = .ok (.goto (-24), 3) := by decide +kernel
theorem dX1_weightWith_31 : decode cX1_weightWith 31 = .ok (.iload_n 2, 1) := by decide +kernel
theorem dX1_weightWith_32 : decode cX1_weightWith 32 = .ok (.ireturn, 1) := by decide +kernel
theorem dX1_heaviestOf_0 : decode cX1_heaviestOf 0 = .ok (.iconst 0, 1) := by decide +kernel
theorem dX1_heaviestOf_1 : decode cX1_heaviestOf 1 = .ok (.istore_n 2, 1) := by decide +kernel
theorem dX1_heaviestOf_2 : decode cX1_heaviestOf 2 = .ok (.iconst 0, 1) := by decide +kernel
theorem dX1_heaviestOf_3 : decode cX1_heaviestOf 3 = .ok (.istore_n 3, 1) := by decide +kernel
theorem dX1_heaviestOf_4 : decode cX1_heaviestOf 4 = .ok (.iload_n 3, 1) := by decide +kernel
theorem dX1_heaviestOf_5 : decode cX1_heaviestOf 5 = .ok (.bipush 32, 2) := by decide +kernel
theorem dX1_heaviestOf_7 : decode cX1_heaviestOf 7 = .ok (.if_icmp .ge 26, 3) := by decide +kernel
theorem dX1_heaviestOf_10 : decode cX1_heaviestOf 10 = .ok (.iload_n 2, 1) := by decide +kernel
theorem dX1_heaviestOf_11 : decode cX1_heaviestOf 11 = .ok (.iload_n 1, 1) := by decide +kernel
theorem dX1_heaviestOf_12 : decode cX1_heaviestOf 12 = .ok (.iload_n 3, 1) := by decide +kernel
theorem dX1_heaviestOf_13 : decode cX1_heaviestOf 13 = .ok (.iushr, 1) := by decide +kernel
theorem dX1_heaviestOf_14 : decode cX1_heaviestOf 14 = .ok (.iconst 1, 1) := by decide +kernel
theorem dX1_heaviestOf_15 : decode cX1_heaviestOf 15 = .ok (.iand, 1) := by decide +kernel
theorem dX1_heaviestOf_16 : decode cX1_heaviestOf 16 = .ok (.aload_n 0, 1) := by decide +kernel
theorem dX1_heaviestOf_17 : decode cX1_heaviestOf 17 = .ok (.getfield 15, 3) := by decide +kernel
theorem dX1_heaviestOf_20 : decode cX1_heaviestOf 20 = .ok (.iload_n 3, 1) := by decide +kernel
theorem dX1_heaviestOf_21 : decode cX1_heaviestOf 21 = .ok (.iaload, 1) := by decide +kernel
theorem dX1_heaviestOf_22 : decode cX1_heaviestOf 22 = .ok (.imul, 1) := by decide +kernel
theorem dX1_heaviestOf_23 : decode cX1_heaviestOf 23 = .ok (.invokestatic 93, 3) := by decide +kernel
theorem dX1_heaviestOf_26 : decode cX1_heaviestOf 26 = .ok (.istore_n 2, 1) := by decide +kernel
theorem dX1_heaviestOf_27 : decode cX1_heaviestOf 27 = .ok (.iinc 3 1, 3) := by decide +kernel
theorem dX1_heaviestOf_30 : decode cX1_heaviestOf 30 = .ok (.goto (-26), 3) := by decide +kernel
theorem dX1_heaviestOf_33 : decode cX1_heaviestOf 33 = .ok (.iload_n 2, 1) := by decide +kernel
theorem dX1_heaviestOf_34 : decode cX1_heaviestOf 34 = .ok (.ireturn, 1) := by decide +kernel
theorem dX7_partOf_0 : decode cX7_partOf 0 = .ok (.lload_n 0, 1) := by decide +kernel
theorem dX7_partOf_1 : decode cX7_partOf 1 = .ok (.bipush 8, 2) := by decide +kernel
theorem dX7_partOf_3 : decode cX7_partOf 3 = .ok (.iload_n 2, 1) := by decide +kernel
theorem dX7_partOf_4 : decode cX7_partOf 4 = .ok (.imul, 1) := by decide +kernel
theorem dX7_partOf_5 : decode cX7_partOf 5 = .ok (.lushr, 1) := by decide +kernel
theorem dX7_partOf_6 : decode cX7_partOf 6 = .ok (.l2i, 1) := by decide +kernel
theorem dX7_partOf_7 : decode cX7_partOf 7 = .ok (.sipush 255, 3) := by decide +kernel
theorem dX7_partOf_10 : decode cX7_partOf 10 = .ok (.iand, 1) := by decide +kernel
theorem dX7_partOf_11 : decode cX7_partOf 11 = .ok (.ireturn, 1) := by decide +kernel
theorem dX7_unpack_0 : decode cX7_unpack 0 = .ok (.aload_n 0, 1) := by decide +kernel
theorem dX7_unpack_1 : decode cX7_unpack 1 = .ok (.lload_n 1, 1) := by decide +kernel
theorem dX7_unpack_2 : decode cX7_unpack 2 = .ok (.iconst 0, 1) := by decide +kernel
theorem dX7_unpack_3 : decode cX7_unpack 3 = .ok (.invokestatic 43, 3) := by decide +kernel
theorem dX7_unpack_6 : decode cX7_unpack 6 = .ok (.putfield 15, 3) := by decide +kernel
theorem dX7_unpack_9 : decode cX7_unpack 9 = .ok (.aload_n 0, 1) := by decide +kernel
theorem dX7_unpack_10 : decode cX7_unpack 10 = .ok (.lload_n 1, 1) := by decide +kernel
theorem dX7_unpack_11 : decode cX7_unpack 11 = .ok (.iconst 1, 1) := by decide +kernel
theorem dX7_unpack_12 : decode cX7_unpack 12 = .ok (.invokestatic 43, 3) := by decide +kernel
theorem dX7_unpack_15 : decode cX7_unpack 15 = .ok (.putfield 21, 3) := by decide +kernel
theorem dX7_unpack_18 : decode cX7_unpack 18 = .ok (.aload_n 0, 1) := by decide +kernel
theorem dX7_unpack_19 : decode cX7_unpack 19 = .ok (.lload_n 1, 1) := by decide +kernel
theorem dX7_unpack_20 : decode cX7_unpack 20 = .ok (.iconst 2, 1) := by decide +kernel
theorem dX7_unpack_21 : decode cX7_unpack 21 = .ok (.invokestatic 43, 3) := by decide +kernel
theorem dX7_unpack_24 : decode cX7_unpack 24 = .ok (.putfield 24, 3) := by decide +kernel
theorem dX7_unpack_27 : decode cX7_unpack 27 = .ok (.aload_n 0, 1) := by decide +kernel
theorem dX7_unpack_28 : decode cX7_unpack 28 = .ok (.lload_n 1, 1) := by decide +kernel
theorem dX7_unpack_29 : decode cX7_unpack 29 = .ok (.iconst 3, 1) := by decide +kernel
theorem dX7_unpack_30 : decode cX7_unpack 30 = .ok (.invokestatic 43, 3) := by decide +kernel
theorem dX7_unpack_33 : decode cX7_unpack 33 = .ok (.putfield 27, 3) := by decide +kernel
theorem dX7_unpack_36 : decode cX7_unpack 36 = .ok (.aload_n 0, 1) := by decide +kernel
theorem dX7_unpack_37 : decode cX7_unpack 37 = .ok (.lload_n 1, 1) := by decide +kernel
theorem dX7_unpack_38 : decode cX7_unpack 38 = .ok (.iconst 4, 1) := by decide +kernel
theorem dX7_unpack_39 : decode cX7_unpack 39 = .ok (.invokestatic 43, 3) := by decide +kernel
theorem dX7_unpack_42 : decode cX7_unpack 42 = .ok (.putfield 30, 3) := by decide +kernel
theorem dX7_unpack_45 : decode cX7_unpack 45 = .ok (.aload_n 0, 1) := by decide +kernel
theorem dX7_unpack_46 : decode cX7_unpack 46 = .ok (.lload_n 1, 1) := by decide +kernel
theorem dX7_unpack_47 : decode cX7_unpack 47 = .ok (.iconst 5, 1) := by decide +kernel
theorem dX7_unpack_48 : decode cX7_unpack 48 = .ok (.invokestatic 43, 3) := by decide +kernel
theorem dX7_unpack_51 : decode cX7_unpack 51 = .ok (.putfield 33, 3) := by decide +kernel
theorem dX7_unpack_54 : decode cX7_unpack 54 = .ok (.aload_n 0, 1) := by decide +kernel
theorem dX7_unpack_55 : decode cX7_unpack 55 = .ok (.lload_n 1, 1) := by decide +kernel
theorem dX7_unpack_56 : decode cX7_unpack 56 = .ok (.bipush 6, 2) := by decide +kernel
theorem dX7_unpack_58 : decode cX7_unpack 58 = .ok (.invokestatic 43, 3) := by decide +kernel
theorem dX7_unpack_61 : decode cX7_unpack 61 = .ok (.putfield 36, 3) := by decide +kernel
theorem dX7_unpack_64 : decode cX7_unpack 64 = .ok (.aload_n 0, 1) := by decide +kernel
theorem dX7_unpack_65 : decode cX7_unpack 65 = .ok (.lload_n 1, 1) := by decide +kernel
theorem dX7_unpack_66 : decode cX7_unpack 66 = .ok (.bipush 7, 2) := by decide +kernel
theorem dX7_unpack_68 : decode cX7_unpack 68 = .ok (.invokestatic 43, 3) := by decide +kernel
theorem dX7_unpack_71 : decode cX7_unpack 71 = .ok (.iconst 1, 1) := by decide +kernel
theorem dX7_unpack_72 : decode cX7_unpack 72 = .ok (.if_icmp .ne 7, 3) := by decide +kernel
theorem dX7_unpack_75 : decode cX7_unpack 75 = .ok (.iconst 1, 1) := by decide +kernel
theorem dX7_unpack_76 : decode cX7_unpack 76 = .ok (.goto 4, 3) := by decide +kernel
theorem dX7_unpack_79 : decode cX7_unpack 79 = .ok (.iconst 0, 1) := by decide +kernel
theorem dX7_unpack_80 : decode cX7_unpack 80 = .ok (.putfield 39, 3) := by decide +kernel
theorem dX7_unpack_83 : decode cX7_unpack 83 = .ok (.return_, 1) := by decide +kernel
theorem dX1_part_0 : decode cX1_part 0 = .ok (.iload 4, 2) := by decide +kernel
theorem dX1_part_2 : decode cX1_part 2 = .ok (.iconst 3, 1) := by decide +kernel
theorem dX1_part_3 : decode cX1_part 3 = .ok (.invokestatic 98, 3) := by decide +kernel
theorem dX1_part_6 : decode cX1_part 6 = .ok (.ifCond .ne 4, 3) := by decide +kernel
theorem dX1_part_9 : decode cX1_part 9 = .ok (.return_, 1) := by decide +kernel
theorem dX1_part_10 : decode cX1_part 10 = .ok (.aload_n 0, 1) := by decide +kernel
theorem dX1_part_11 : decode cX1_part 11 = .ok (.getfield 21, 3) := by decide +kernel
theorem dX1_part_14 : decode cX1_part 14 = .ok (.iload 4, 2) := by decide +kernel
theorem dX1_part_16 : decode cX1_part 16 = .ok (.aaload, 1) := by decide +kernel
theorem dX1_part_17 : decode cX1_part 17 = .ok (.iconst 0, 1) := by decide +kernel
theorem dX1_part_18 : decode cX1_part 18 = .ok (.invokestatic 84, 3) := by decide +kernel
theorem dX1_part_21 : decode cX1_part 21 = .ok (.aload_n 0, 1) := by decide +kernel
theorem dX1_part_22 : decode cX1_part 22 = .ok (.getfield 24, 3) := by decide +kernel
theorem dX1_part_25 : decode cX1_part 25 = .ok (.iload 4, 2) := by decide +kernel
theorem dX1_part_27 : decode cX1_part 27 = .ok (.aaload, 1) := by decide +kernel
theorem dX1_part_28 : decode cX1_part 28 = .ok (.iconst 0, 1) := by decide +kernel
theorem dX1_part_29 : decode cX1_part 29 = .ok (.invokestatic 84, 3) := by decide +kernel
theorem dX1_part_32 : decode cX1_part 32 = .ok (.iconst 0, 1) := by decide +kernel
theorem dX1_part_33 : decode cX1_part 33 = .ok (.istore 5, 2) := by decide +kernel
theorem dX1_part_35 : decode cX1_part 35 = .ok (.iload 5, 2) := by decide +kernel
theorem dX1_part_37 : decode cX1_part 37 = .ok (.bipush 32, 2) := by decide +kernel
theorem dX1_part_39 : decode cX1_part 39 = .ok (.if_icmp .ge 128, 3) := by decide +kernel
theorem dX1_part_42 : decode cX1_part 42 = .ok (.iload_n 2, 1) := by decide +kernel
theorem dX1_part_43 : decode cX1_part 43 = .ok (.iload 5, 2) := by decide +kernel
theorem dX1_part_45 : decode cX1_part 45 = .ok (.iushr, 1) := by decide +kernel
theorem dX1_part_46 : decode cX1_part 46 = .ok (.ifCond .eq 121, 3) := by decide +kernel
theorem dX1_part_49 : decode cX1_part 49 = .ok (.iload_n 2, 1) := by decide +kernel
theorem dX1_part_50 : decode cX1_part 50 = .ok (.iload 5, 2) := by decide +kernel
theorem dX1_part_52 : decode cX1_part 52 = .ok (.iushr, 1) := by decide +kernel
theorem dX1_part_53 : decode cX1_part 53 = .ok (.iconst 1, 1) := by decide +kernel
theorem dX1_part_54 : decode cX1_part 54 = .ok (.iand, 1) := by decide +kernel
theorem dX1_part_55 : decode cX1_part 55 = .ok (.ifCond .ne 6, 3) := by decide +kernel
theorem dX1_part_58 : decode cX1_part 58 = .ok (.goto 103, 3) := by decide +kernel
theorem dX1_part_61 : decode cX1_part 61 = .ok (.aload_n 0, 1) := by decide +kernel
theorem dX1_part_62 : decode cX1_part 62 = .ok (.getfield 39, 3) := by decide +kernel
theorem dX1_part_65 : decode cX1_part 65 = .ok (.aload_n 0, 1) := by decide +kernel
theorem dX1_part_66 : decode cX1_part 66 = .ok (.getfield 9, 3) := by decide +kernel
theorem dX1_part_69 : decode cX1_part 69 = .ok (.iload 4, 2) := by decide +kernel
theorem dX1_part_71 : decode cX1_part 71 = .ok (.bipush 32, 2) := by decide +kernel
theorem dX1_part_73 : decode cX1_part 73 = .ok (.imul, 1) := by decide +kernel
theorem dX1_part_74 : decode cX1_part 74 = .ok (.iload 5, 2) := by decide +kernel
theorem dX1_part_76 : decode cX1_part 76 = .ok (.iadd, 1) := by decide +kernel
theorem dX1_part_77 : decode cX1_part 77 = .ok (.laload, 1) := by decide +kernel
theorem dX1_part_78 : decode cX1_part 78 = .ok (.invokevirtual 102, 3) := by decide +kernel
theorem dX1_part_81 : decode cX1_part 81 = .ok (.aload_n 0, 1) := by decide +kernel
theorem dX1_part_82 : decode cX1_part 82 = .ok (.getfield 39, 3) := by decide +kernel
theorem dX1_part_85 : decode cX1_part 85 = .ok (.aload_n 1, 1) := by decide +kernel
theorem dX1_part_86 : decode cX1_part 86 = .ok (.iload_n 3, 1) := by decide +kernel
theorem dX1_part_87 : decode cX1_part 87 = .ok (.invokevirtual 63, 3) := by decide +kernel
theorem dX1_part_90 : decode cX1_part 90 = .ok (.istore 6, 2) := by decide +kernel
theorem dX1_part_92 : decode cX1_part 92 = .ok (.aload_n 0, 1) := by decide +kernel
theorem dX1_part_93 : decode cX1_part 93 = .ok (.getfield 9, 3) := by decide +kernel
theorem dX1_part_96 : decode cX1_part 96 = .ok (.iload 4, 2) := by decide +kernel
theorem dX1_part_98 : decode cX1_part 98 = .ok (.iconst 1, 1) := by decide +kernel
theorem dX1_part_99 : decode cX1_part 99 = .ok (.iadd, 1) := by decide +kernel
theorem dX1_part_100 : decode cX1_part 100 = .ok (.bipush 32, 2) := by decide +kernel
theorem dX1_part_102 : decode cX1_part 102 = .ok (.imul, 1) := by decide +kernel
theorem dX1_part_103 : decode cX1_part 103 = .ok (.iload 5, 2) := by decide +kernel
theorem dX1_part_105 : decode cX1_part 105 = .ok (.iadd, 1) := by decide +kernel
theorem dX1_part_106 : decode cX1_part 106 = .ok (.aload_n 0, 1) := by decide +kernel
theorem dX1_part_107 : decode cX1_part 107 = .ok (.getfield 39, 3) := by decide +kernel
theorem dX1_part_110 : decode cX1_part 110 = .ok (.invokevirtual 70, 3) := by decide +kernel
theorem dX1_part_113 : decode cX1_part 113 = .ok (.lastore, 1) := by decide +kernel
theorem dX1_part_114 : decode cX1_part 114 = .ok (.iload 6, 2) := by decide +kernel
theorem dX1_part_116 : decode cX1_part 116 = .ok (.bipush 7, 2) := by decide +kernel
theorem dX1_part_118 : decode cX1_part 118 = .ok (.invokestatic 98, 3) := by decide +kernel
theorem dX1_part_121 : decode cX1_part 121 = .ok (.ifCond .eq 40, 3) := by decide +kernel
theorem dX1_part_124 : decode cX1_part 124 = .ok (.aload_n 0, 1) := by decide +kernel
theorem dX1_part_125 : decode cX1_part 125 = .ok (.getfield 21, 3) := by decide +kernel
theorem dX1_part_128 : decode cX1_part 128 = .ok (.iload 4, 2) := by decide +kernel
theorem dX1_part_130 : decode cX1_part 130 = .ok (.aaload, 1) := by decide +kernel
theorem dX1_part_131 : decode cX1_part 131 = .ok (.iload 6, 2) := by decide +kernel
theorem dX1_part_133 : decode cX1_part 133 = .ok (.dup2, 1) := by decide +kernel
theorem dX1_part_134 : decode cX1_part 134 = .ok (.iaload, 1) := by decide +kernel
theorem dX1_part_135 : decode cX1_part 135 = .ok (.iconst 1, 1) := by decide +kernel
theorem dX1_part_136 : decode cX1_part 136 = .ok (.iload 5, 2) := by decide +kernel
theorem dX1_part_138 : decode cX1_part 138 = .ok (.ishl, 1) := by decide +kernel
theorem dX1_part_139 : decode cX1_part 139 = .ok (.ior, 1) := by decide +kernel
theorem dX1_part_140 : decode cX1_part 140 = .ok (.iastore, 1) := by decide +kernel
theorem dX1_part_141 : decode cX1_part 141 = .ok (.aload_n 0, 1) := by decide +kernel
theorem dX1_part_142 : decode cX1_part 142 = .ok (.getfield 24, 3) := by decide +kernel
theorem dX1_part_145 : decode cX1_part 145 = .ok (.iload 4, 2) := by decide +kernel
theorem dX1_part_147 : decode cX1_part 147 = .ok (.aaload, 1) := by decide +kernel
theorem dX1_part_148 : decode cX1_part 148 = .ok (.iload 6, 2) := by decide +kernel
theorem dX1_part_150 : decode cX1_part 150 = .ok (.dup2, 1) := by decide +kernel
theorem dX1_part_151 : decode cX1_part 151 = .ok (.iaload, 1) := by decide +kernel
theorem dX1_part_152 : decode cX1_part 152 = .ok (.aload_n 0, 1) := by decide +kernel
theorem dX1_part_153 : decode cX1_part 153 = .ok (.getfield 15, 3) := by decide +kernel
theorem dX1_part_156 : decode cX1_part 156 = .ok (.iload 5, 2) := by decide +kernel
theorem dX1_part_158 : decode cX1_part 158 = .ok (.iaload, 1) := by decide +kernel
theorem dX1_part_159 : decode cX1_part 159 = .ok (.iadd, 1) := by decide +kernel
theorem dX1_part_160 : decode cX1_part 160 = .ok (.iastore, 1) := by decide +kernel
theorem dX1_part_161 : decode cX1_part 161 = .ok (.iinc 5 1, 3) := by decide +kernel
theorem dX1_part_164 : decode cX1_part 164 = .ok (.goto (-129), 3) := by decide +kernel
theorem dX1_part_167 : decode cX1_part 167 = .ok (.return_, 1) := by decide +kernel
end
section
/-! X0_weightOf -/
def w_X0_weightOf_c51 (a1 : Int32) (a2 : Int32) (a4 : Int32) (z0 : Int32) (z1 : Int32) (u : gg_M) (k5 : Int32 × Int32 × gg_M → Prop) (Q : Int32 → gg_M → Prop) : Prop :=
  ∀ v1 : Int32, v1 = (z0 * z1) →
  k5 (v1, (a4 + 1), u)
set_option maxRecDepth 10000 in
theorem m_X0_weightOf_c51 {a1 : Int32} {a2 : Int32} {a4 : Int32} {z0 : Int32} {z1 : Int32} {u : gg_M} {k5 : Int32 × Int32 × gg_M → Prop} {G : gg_T} {Q : Int32 → gg_M → Prop} (hG : gg_Cl none cX0_weightOf 6 RX0 (some .int) 1 (gg_eI Q) G)  (h : w_X0_weightOf_c51 a1 a2 a4 z0 z1 u k5 Q)  (hk5 : ∀ s : Int32 × Int32 × gg_M, k5 s → G 5 [some (.ref 10), some (.int a1), some (.int a2), some (.int s.1), some (.int s.2.1), none] [] s.2.2) : G 51 [some (.ref 10), some (.int a1), some (.int a2), none, some (.int a4), none] [.int z1, .int z0] u := by
  unfold w_X0_weightOf_c51 at h
  refine gg_imul hG dX0_weightOf_51 ?_
  refine gg_ni (fun v1 e1 => ?_)
  replace h := h v1 e1
  refine gg_istore_n (L1 := [some (.ref 10), some (.int a1), some (.int a2), some (.int v1), some (.int a4), none]) hG dX0_weightOf_52 rfl (by decide) rfl ?_
  refine gg_iinc (v := (a4 + 1)) (L1 := [some (.ref 10), some (.int a1), some (.int a2), some (.int v1), some (.int (a4 + 1)), none]) hG dX0_weightOf_53 rfl rfl (by decide) rfl ?_
  refine gg_goto (tgt := 5) hG dX0_weightOf_56 (by decide) ?_
  exact hk5 _ h
def w_X0_weightOf_c28 (a1 : Int32) (a2 : Int32) (a3 : Int32) (a4 : Int32) (z0 : Int32) (u : gg_M) (k5 : Int32 × Int32 × gg_M → Prop) (Q : Int32 → gg_M → Prop) : Prop :=
  (¬ ((gu_ushr a1 a4) &&& 1) = 1 →
   w_X0_weightOf_c51 a1 a2 a4 a3 ((16 : Int32) - z0) u k5 Q) ∧
  (((gu_ushr a1 a4) &&& 1) = 1 →
   w_X0_weightOf_c51 a1 a2 a4 a3 z0 u k5 Q)
set_option maxRecDepth 10000 in
theorem m_X0_weightOf_c28 {a1 : Int32} {a2 : Int32} {a3 : Int32} {a4 : Int32} {z0 : Int32} {u : gg_M} {k5 : Int32 × Int32 × gg_M → Prop} {G : gg_T} {Q : Int32 → gg_M → Prop} (hG : gg_Cl none cX0_weightOf 6 RX0 (some .int) 1 (gg_eI Q) G)  (h : w_X0_weightOf_c28 a1 a2 a3 a4 z0 u k5 Q)  (hk5 : ∀ s : Int32 × Int32 × gg_M, k5 s → G 5 [some (.ref 10), some (.int a1), some (.int a2), some (.int s.1), some (.int s.2.1), none] [] s.2.2) : G 28 [some (.ref 10), some (.int a1), some (.int a2), some (.int a3), some (.int a4), none] [.int z0] u := by
  unfold w_X0_weightOf_c28 at h
  refine gg_istore (L1 := [some (.ref 10), some (.int a1), some (.int a2), some (.int a3), some (.int a4), some (.int z0)]) hG dX0_weightOf_28 (by decide) rfl ?_
  refine gg_iload_n hG dX0_weightOf_30 rfl rfl ?_
  refine gg_iload_n hG dX0_weightOf_31 rfl rfl ?_
  refine gg_iload hG dX0_weightOf_32 rfl ?_
  refine gg_iushr hG dX0_weightOf_34 ?_
  refine gg_iconst (v := 1) hG dX0_weightOf_35 (by decide) ?_
  refine gg_iand hG dX0_weightOf_36 ?_
  refine gg_iconst (v := 1) hG dX0_weightOf_37 (by decide) ?_
  refine gg_ic_ne (tgt := 46) hG dX0_weightOf_38 (by decide) (fun c2 => ?_) (fun c2 => ?_)
  · replace h := h.1 c2
    refine gg_bipush (v := 16) hG dX0_weightOf_46 (by decide) ?_
    refine gg_iload hG dX0_weightOf_48 rfl ?_
    refine gg_isub hG dX0_weightOf_50 ?_
    refine gg_mk hG [true, true, true, false, true, false] rfl ?_
    exact m_X0_weightOf_c51 hG h hk5
  · replace h := h.2 c2
    refine gg_iload hG dX0_weightOf_41 rfl ?_
    refine gg_goto (tgt := 51) hG dX0_weightOf_43 (by decide) ?_
    refine gg_mk hG [true, true, true, false, true, false] rfl ?_
    exact m_X0_weightOf_c51 hG h hk5
def b_X0_weightOf_c5 (a1 : Int32) (a2 : Int32) (a3 : Int32) (a4 : Int32) (u : gg_M)  (k5 : Int32 × Int32 × gg_M → Prop) (Q : Int32 → gg_M → Prop) : Prop :=
  (5 ≤ a4 →
   Q a3 u) ∧
  (¬ 5 ≤ a4 →
   (¬ a4 = a2 →
    vp_in a4 5 ∧
    w_X0_weightOf_c28 a1 a2 a3 a4 (u.1 11 a4.toNatClampNeg) u k5 Q) ∧
   (a4 = a2 →
    w_X0_weightOf_c28 a1 a2 a3 a4 0 u k5 Q))
set_option maxRecDepth 10000 in
theorem mb_X0_weightOf_c5 {a1 : Int32} {a2 : Int32} {a3 : Int32} {a4 : Int32} {u : gg_M}  {k5 : Int32 × Int32 × gg_M → Prop} {G : gg_T} {Q : Int32 → gg_M → Prop} (hG : gg_Cl none cX0_weightOf 6 RX0 (some .int) 1 (gg_eI Q) G)  (h : b_X0_weightOf_c5 a1 a2 a3 a4 u k5 Q)   (hk5 : ∀ s : Int32 × Int32 × gg_M, k5 s → G 5 [some (.ref 10), some (.int a1), some (.int a2), some (.int s.1), some (.int s.2.1), none] [] s.2.2) : G 5 [some (.ref 10), some (.int a1), some (.int a2), some (.int a3), some (.int a4), none] [] u := by
  unfold b_X0_weightOf_c5 at h
  refine gg_iload hG dX0_weightOf_5 rfl ?_
  refine gg_iconst (v := 5) hG dX0_weightOf_7 (by decide) ?_
  refine gg_ic_ge (tgt := 59) hG dX0_weightOf_8 (by decide) (fun c3 => ?_) (fun c3 => ?_)
  · replace h := h.1 c3
    refine gg_iload_n hG dX0_weightOf_59 rfl rfl ?_
    exact gg_iret hG dX0_weightOf_60 rfl rfl ⟨_, rfl, h⟩
  · replace h := h.2 c3
    refine gg_iload hG dX0_weightOf_11 rfl ?_
    refine gg_iload_n hG dX0_weightOf_13 rfl rfl ?_
    refine gg_ic_ne (tgt := 21) hG dX0_weightOf_14 (by decide) (fun c4 => ?_) (fun c4 => ?_)
    · replace h := h.1 c4
      refine gg_aload_n hG dX0_weightOf_21 rfl rfl ?_
      refine gg_get (v := .ref 11) hG dX0_weightOf_22 (by decide) rfl fl_RX0_9 rfl ?_
      refine gg_iload hG dX0_weightOf_25 rfl ?_
      obtain ⟨h5, h⟩ := h
      refine gg_iald (j := a4.toNatClampNeg) hG dX0_weightOf_27 (by decide) rfl h5 rfl ?_
      exact m_X0_weightOf_c28 hG h hk5
    · replace h := h.2 c4
      refine gg_iconst (v := 0) hG dX0_weightOf_17 (by decide) ?_
      refine gg_goto (tgt := 28) hG dX0_weightOf_18 (by decide) ?_
      exact m_X0_weightOf_c28 hG h hk5
def w_X0_weightOf_c5 (a1 : Int32) (a2 : Int32) (a3 : Int32) (a4 : Int32) (u : gg_M)  (Q : Int32 → gg_M → Prop) : Prop :=
  gg_loop (fun (s : Int32 × Int32 × gg_M) k5 => b_X0_weightOf_c5 a1 a2 s.1 s.2.1 s.2.2  k5 Q) (a3, a4, u)
set_option maxRecDepth 10000 in
theorem m_X0_weightOf_c5 {a1 : Int32} {a2 : Int32} {a3 : Int32} {a4 : Int32} {u : gg_M}  {G : gg_T} {Q : Int32 → gg_M → Prop} (hG : gg_Cl none cX0_weightOf 6 RX0 (some .int) 1 (gg_eI Q) G)  (h : w_X0_weightOf_c5 a1 a2 a3 a4 u  Q)   : G 5 [some (.ref 10), some (.int a1), some (.int a2), some (.int a3), some (.int a4), none] [] u :=
  gg_loop_use (P := fun s : Int32 × Int32 × gg_M => G 5 [some (.ref 10), some (.int a1), some (.int a2), some (.int s.1), some (.int s.2.1), none] [] s.2.2) h (fun s rc hb hr => mb_X0_weightOf_c5 hG  hb   hr)
def w_X0_weightOf (a1 : Int32) (a2 : Int32) (u : gg_M)  (Q : Int32 → gg_M → Prop) : Prop :=
  w_X0_weightOf_c5 a1 a2 1 0 u Q
set_option maxRecDepth 10000 in
theorem m_X0_weightOf {a1 : Int32} {a2 : Int32} {u : gg_M}  {G : gg_T} {Q : Int32 → gg_M → Prop} (hG : gg_Cl none cX0_weightOf 6 RX0 (some .int) 1 (gg_eI Q) G)  (h : w_X0_weightOf a1 a2 u  Q)   : G 0 [some (.ref 10), some (.int a1), some (.int a2), none, none, none] [] u := by
  unfold w_X0_weightOf at h
  refine gg_iconst (v := 1) hG dX0_weightOf_0 (by decide) ?_
  refine gg_istore_n (L1 := [some (.ref 10), some (.int a1), some (.int a2), some (.int 1), none, none]) hG dX0_weightOf_1 rfl (by decide) rfl ?_
  refine gg_iconst (v := 0) hG dX0_weightOf_2 (by decide) ?_
  refine gg_istore (L1 := [some (.ref 10), some (.int a1), some (.int a2), some (.int 1), some (.int 0), none]) hG dX0_weightOf_3 (by decide) rfl ?_
  exact m_X0_weightOf_c5 hG h
theorem mt_X0_weightOf {a1 : Int32} {a2 : Int32}  {u : gg_M} {Q : Int32 → gg_M → Prop} (h : w_X0_weightOf a1 a2 u Q) : gg_Mt 1 yX0_weightOf cX0_weightOf 6 (some .int) [.ref 10, .int a1, .int a2] u (gg_eI Q) :=
  gg_intro (own := RX0) (by decide +kernel) rfl rfl (Nat.le_of_ble_eq_true rfl) (fun G hG => m_X0_weightOf hG  h)
/-! X0_together -/
def b_X0_together_c4  (a1 : Int32) (a2 : Int32) (u : gg_M)  (k4 : Int32 × Int32 × gg_M → Prop) (Q : Int32 → gg_M → Prop) : Prop :=
  (5 ≤ a2 →
   Q a1 u) ∧
  (¬ 5 ≤ a2 →
   vp_in a2 5 ∧
   ∀ v3 : Int32, v3 = (a1 + (u.1 11 a2.toNatClampNeg)) →
   k4 (v3, (a2 + 1), u))
set_option maxRecDepth 10000 in
theorem mb_X0_together_c4  {a1 : Int32} {a2 : Int32} {u : gg_M}  {k4 : Int32 × Int32 × gg_M → Prop} {G : gg_T} {Q : Int32 → gg_M → Prop} (hG : gg_Cl none cX0_together 3 RX0 (some .int) 1 (gg_eI Q) G)  (h : b_X0_together_c4 a1 a2 u k4 Q)   (hk4 : ∀ s : Int32 × Int32 × gg_M, k4 s → G 4 [some (.ref 10), some (.int s.1), some (.int s.2.1)] [] s.2.2) : G 4 [some (.ref 10), some (.int a1), some (.int a2)] [] u := by
  unfold b_X0_together_c4 at h
  refine gg_iload_n hG dX0_together_4 rfl rfl ?_
  refine gg_iconst (v := 5) hG dX0_together_5 (by decide) ?_
  refine gg_ic_ge (tgt := 24) hG dX0_together_6 (by decide) (fun c1 => ?_) (fun c1 => ?_)
  · replace h := h.1 c1
    refine gg_iload_n hG dX0_together_24 rfl rfl ?_
    exact gg_iret hG dX0_together_25 rfl rfl ⟨_, rfl, h⟩
  · replace h := h.2 c1
    refine gg_iload_n hG dX0_together_9 rfl rfl ?_
    refine gg_aload_n hG dX0_together_10 rfl rfl ?_
    refine gg_get (v := .ref 11) hG dX0_together_11 (by decide) rfl fl_RX0_9 rfl ?_
    refine gg_iload_n hG dX0_together_14 rfl rfl ?_
    obtain ⟨h2, h⟩ := h
    refine gg_iald (j := a2.toNatClampNeg) hG dX0_together_15 (by decide) rfl h2 rfl ?_
    refine gg_iadd hG dX0_together_16 ?_
    refine gg_ni (fun v3 e3 => ?_)
    replace h := h v3 e3
    refine gg_istore_n (L1 := [some (.ref 10), some (.int v3), some (.int a2)]) hG dX0_together_17 rfl (by decide) rfl ?_
    refine gg_iinc (v := (a2 + 1)) (L1 := [some (.ref 10), some (.int v3), some (.int (a2 + 1))]) hG dX0_together_18 rfl rfl (by decide) rfl ?_
    refine gg_goto (tgt := 4) hG dX0_together_21 (by decide) ?_
    exact hk4 _ h
def w_X0_together_c4 (a1 : Int32) (a2 : Int32) (u : gg_M)  (Q : Int32 → gg_M → Prop) : Prop :=
  gg_loop (fun (s : Int32 × Int32 × gg_M) k4 => b_X0_together_c4  s.1 s.2.1 s.2.2  k4 Q) (a1, a2, u)
set_option maxRecDepth 10000 in
theorem m_X0_together_c4 {a1 : Int32} {a2 : Int32} {u : gg_M}  {G : gg_T} {Q : Int32 → gg_M → Prop} (hG : gg_Cl none cX0_together 3 RX0 (some .int) 1 (gg_eI Q) G)  (h : w_X0_together_c4 a1 a2 u  Q)   : G 4 [some (.ref 10), some (.int a1), some (.int a2)] [] u :=
  gg_loop_use (P := fun s : Int32 × Int32 × gg_M => G 4 [some (.ref 10), some (.int s.1), some (.int s.2.1)] [] s.2.2) h (fun s rc hb hr => mb_X0_together_c4 hG  hb   hr)
def w_X0_together  (u : gg_M)  (Q : Int32 → gg_M → Prop) : Prop :=
  w_X0_together_c4 0 0 u Q
set_option maxRecDepth 10000 in
theorem m_X0_together  {u : gg_M}  {G : gg_T} {Q : Int32 → gg_M → Prop} (hG : gg_Cl none cX0_together 3 RX0 (some .int) 1 (gg_eI Q) G)  (h : w_X0_together  u  Q)   : G 0 [some (.ref 10), none, none] [] u := by
  unfold w_X0_together at h
  refine gg_iconst (v := 0) hG dX0_together_0 (by decide) ?_
  refine gg_istore_n (L1 := [some (.ref 10), some (.int 0), none]) hG dX0_together_1 rfl (by decide) rfl ?_
  refine gg_iconst (v := 0) hG dX0_together_2 (by decide) ?_
  refine gg_istore_n (L1 := [some (.ref 10), some (.int 0), some (.int 0)]) hG dX0_together_3 rfl (by decide) rfl ?_
  exact m_X0_together_c4 hG h
theorem mt_X0_together   {u : gg_M} {Q : Int32 → gg_M → Prop} (h : w_X0_together  u Q) : gg_Mt 1 yX0_together cX0_together 3 (some .int) [.ref 10] u (gg_eI Q) :=
  gg_intro (own := RX0) (by decide +kernel) rfl rfl (Nat.le_of_ble_eq_true rfl) (fun G hG => m_X0_together hG  h)
/-! J7_fill_53178 -/
def b_J7_fill_53178_c5 (t0 : Nat) (a1 : Int32) (a3 : Int32) (a2 : Int32) (u : gg_M)  (k5 : Int32 × gg_M → Prop) (Q : gg_M → Prop) : Prop :=
  (a3 ≤ a2 →
   Q u) ∧
  (¬ a3 ≤ a2 →
   vp_in a2 (gg_al t0) ∧
   ∀ u3 : gg_M, u3 = gg_wI u t0 a2.toNatClampNeg a1 →
   k5 ((a2 + 1), u3))
set_option maxRecDepth 10000 in
theorem mb_J7_fill_53178_c5 {t0 : Nat} {a1 : Int32} {a3 : Int32} {a2 : Int32} {u : gg_M}  {k5 : Int32 × gg_M → Prop} {G : gg_T} {Q : gg_M → Prop} (hG : gg_Cl none cJ7_fill_53178 4 RJ7 none 1 (gg_eV Q) G) (kt0 : gg_kd t0 = 20) (h : b_J7_fill_53178_c5 t0 a1 a3 a2 u k5 Q)   (hk5 : ∀ s : Int32 × gg_M, k5 s → G 5 [some (.ref t0), some (.int a1), some (.int s.1), some (.int a3)] [] s.2) : G 5 [some (.ref t0), some (.int a1), some (.int a2), some (.int a3)] [] u := by
  unfold b_J7_fill_53178_c5 at h
  refine gg_iload_n hG dJ7_fill_53178_5 rfl rfl ?_
  refine gg_iload_n hG dJ7_fill_53178_6 rfl rfl ?_
  refine gg_ic_ge (tgt := 20) hG dJ7_fill_53178_7 (by decide) (fun c1 => ?_) (fun c1 => ?_)
  · replace h := h.1 c1
    exact gg_vret hG dJ7_fill_53178_20 rfl ⟨rfl, h⟩
  · replace h := h.2 c1
    refine gg_aload_n hG dJ7_fill_53178_10 rfl rfl ?_
    refine gg_iload_n hG dJ7_fill_53178_11 rfl rfl ?_
    refine gg_iload_n hG dJ7_fill_53178_12 rfl rfl ?_
    obtain ⟨h2, h⟩ := h
    refine gg_iast (j := a2.toNatClampNeg) hG dJ7_fill_53178_13 (gg_kd_lt kt0 (by decide)) kt0 h2 rfl ?_
    refine gg_nu (fun u3 eu3 => ?_)
    replace h := h u3 eu3
    refine gg_iinc (v := (a2 + 1)) (L1 := [some (.ref t0), some (.int a1), some (.int (a2 + 1)), some (.int a3)]) hG dJ7_fill_53178_14 rfl rfl (by decide) rfl ?_
    refine gg_goto (tgt := 5) hG dJ7_fill_53178_17 (by decide) ?_
    exact hk5 _ h
def w_J7_fill_53178_c5 (t0 : Nat) (a1 : Int32) (a2 : Int32) (a3 : Int32) (u : gg_M)  (Q : gg_M → Prop) : Prop :=
  gg_loop (fun (s : Int32 × gg_M) k5 => b_J7_fill_53178_c5 t0 a1 a3 s.1 s.2  k5 Q) (a2, u)
set_option maxRecDepth 10000 in
theorem m_J7_fill_53178_c5 {t0 : Nat} {a1 : Int32} {a2 : Int32} {a3 : Int32} {u : gg_M}  {G : gg_T} {Q : gg_M → Prop} (hG : gg_Cl none cJ7_fill_53178 4 RJ7 none 1 (gg_eV Q) G) (kt0 : gg_kd t0 = 20) (h : w_J7_fill_53178_c5 t0 a1 a2 a3 u  Q)   : G 5 [some (.ref t0), some (.int a1), some (.int a2), some (.int a3)] [] u :=
  gg_loop_use (P := fun s : Int32 × gg_M => G 5 [some (.ref t0), some (.int a1), some (.int s.1), some (.int a3)] [] s.2) h (fun s rc hb hr => mb_J7_fill_53178_c5 hG kt0 hb   hr)
def w_J7_fill_53178 (t0 : Nat) (a1 : Int32) (u : gg_M)  (Q : gg_M → Prop) : Prop :=
  w_J7_fill_53178_c5 t0 a1 0 (Int32.ofNat (gg_al t0)) u Q
set_option maxRecDepth 10000 in
theorem m_J7_fill_53178 {t0 : Nat} {a1 : Int32} {u : gg_M}  {G : gg_T} {Q : gg_M → Prop} (hG : gg_Cl none cJ7_fill_53178 4 RJ7 none 1 (gg_eV Q) G) (kt0 : gg_kd t0 = 20) (h : w_J7_fill_53178 t0 a1 u  Q)   : G 0 [some (.ref t0), some (.int a1), none, none] [] u := by
  unfold w_J7_fill_53178 at h
  refine gg_iconst (v := 0) hG dJ7_fill_53178_0 (by decide) ?_
  refine gg_istore_n (L1 := [some (.ref t0), some (.int a1), some (.int 0), none]) hG dJ7_fill_53178_1 rfl (by decide) rfl ?_
  refine gg_aload_n hG dJ7_fill_53178_2 rfl rfl ?_
  refine gg_alen hG dJ7_fill_53178_3 (gg_kd_lt kt0 (by decide)) kt0 rfl ?_
  refine gg_istore_n (L1 := [some (.ref t0), some (.int a1), some (.int 0), some (.int (Int32.ofNat (gg_al t0)))]) hG dJ7_fill_53178_4 rfl (by decide) rfl ?_
  exact m_J7_fill_53178_c5 hG kt0 h
theorem mt_J7_fill_53178 {t0 : Nat} {a1 : Int32} (kt0 : gg_kd t0 = 20) {u : gg_M} {Q : gg_M → Prop} (h : w_J7_fill_53178 t0 a1 u Q) : gg_Mt 1 yJ7_fill_53178 cJ7_fill_53178 4 none [.ref t0, .int a1] u (gg_eV Q) :=
  gg_intro (own := RJ7) (by decide +kernel) rfl rfl (Nat.le_of_ble_eq_true rfl) (fun G hG => m_J7_fill_53178 hG kt0 h)
/-! X10_isBelow -/
def w_X10_isBelow_c14 (z0 : Int32) (u : gg_M)  (Q : Int32 → gg_M → Prop) : Prop :=
  (z0 = 0 ∨ z0 = 1) ∧
  Q z0 u
set_option maxRecDepth 10000 in
theorem m_X10_isBelow_c14 {z0 : Int32} {u : gg_M}  {G : gg_T} {Q : Int32 → gg_M → Prop} (hG : gg_Cl none cX10_isBelow 2 RX10 (some .boolean) 1 (gg_eI Q) G)  (h : w_X10_isBelow_c14 z0 u  Q)   : G 14 [none, none] [.int z0] u := by
  unfold w_X10_isBelow_c14 at h
  obtain ⟨h1, h⟩ := h
  exact gg_iret hG dX10_isBelow_14 rfl (gg_nb h1).1 ⟨_, rfl, h⟩
def w_X10_isBelow_c13  (u : gg_M)  (Q : Int32 → gg_M → Prop) : Prop :=
  w_X10_isBelow_c14 0 u Q
set_option maxRecDepth 10000 in
theorem m_X10_isBelow_c13  {u : gg_M}  {G : gg_T} {Q : Int32 → gg_M → Prop} (hG : gg_Cl none cX10_isBelow 2 RX10 (some .boolean) 1 (gg_eI Q) G)  (h : w_X10_isBelow_c13  u  Q)   : G 13 [none, none] [] u := by
  unfold w_X10_isBelow_c13 at h
  refine gg_iconst (v := 0) hG dX10_isBelow_13 (by decide) ?_
  exact m_X10_isBelow_c14 hG h
def w_X10_isBelow (a0 : Int32) (a1 : Int32) (u : gg_M)  (Q : Int32 → gg_M → Prop) : Prop :=
  (a0 < 0 →
   w_X10_isBelow_c13 u Q) ∧
  (¬ a0 < 0 →
   (a1 ≤ a0 →
    w_X10_isBelow_c13 u Q) ∧
   (¬ a1 ≤ a0 →
    w_X10_isBelow_c14 1 u Q))
set_option maxRecDepth 10000 in
theorem m_X10_isBelow {a0 : Int32} {a1 : Int32} {u : gg_M}  {G : gg_T} {Q : Int32 → gg_M → Prop} (hG : gg_Cl none cX10_isBelow 2 RX10 (some .boolean) 1 (gg_eI Q) G)  (h : w_X10_isBelow a0 a1 u  Q)   : G 0 [some (.int a0), some (.int a1)] [] u := by
  unfold w_X10_isBelow at h
  refine gg_iload_n hG dX10_isBelow_0 rfl rfl ?_
  refine gg_if_lt (tgt := 13) hG dX10_isBelow_1 (by decide) (fun c2 => ?_) (fun c2 => ?_)
  · replace h := h.1 c2
    refine gg_mk hG [false, false] rfl ?_
    exact m_X10_isBelow_c13 hG h
  · replace h := h.2 c2
    refine gg_iload_n hG dX10_isBelow_4 rfl rfl ?_
    refine gg_iload_n hG dX10_isBelow_5 rfl rfl ?_
    refine gg_ic_ge (tgt := 13) hG dX10_isBelow_6 (by decide) (fun c3 => ?_) (fun c3 => ?_)
    · replace h := h.1 c3
      refine gg_mk hG [false, false] rfl ?_
      exact m_X10_isBelow_c13 hG h
    · replace h := h.2 c3
      refine gg_iconst (v := 1) hG dX10_isBelow_9 (by decide) ?_
      refine gg_goto (tgt := 14) hG dX10_isBelow_10 (by decide) ?_
      refine gg_mk hG [false, false] rfl ?_
      exact m_X10_isBelow_c14 hG h
theorem mt_X10_isBelow {a0 : Int32} {a1 : Int32}  {u : gg_M} {Q : Int32 → gg_M → Prop} (h : w_X10_isBelow a0 a1 u Q) : gg_Mt 1 yX10_isBelow cX10_isBelow 2 (some .boolean) [.int a0, .int a1] u (gg_eI Q) :=
  gg_intro (own := RX10) (by decide +kernel) rfl rfl (Nat.le_of_ble_eq_true rfl) (fun G hG => m_X10_isBelow hG  h)
/-! X2_actAt -/
def w_X2_actAt_c19 (z0 : Int32) (u : gg_M)  (Q : Int32 → gg_M → Prop) : Prop :=
  Q z0 u
set_option maxRecDepth 10000 in
theorem m_X2_actAt_c19 {z0 : Int32} {u : gg_M}  {G : gg_T} {Q : Int32 → gg_M → Prop} (hG : gg_Cl none cX2_actAt 2 RX2 (some .int) 2 (gg_eI Q) G)  (h : w_X2_actAt_c19 z0 u  Q)   : G 19 [none, none] [.int z0] u := by
  unfold w_X2_actAt_c19 at h
  exact gg_iret hG dX2_actAt_19 rfl rfl ⟨_, rfl, h⟩
def w_X2_actAt (a1 : Int32) (u : gg_M)  (Q : Int32 → gg_M → Prop) : Prop :=
  w_X10_isBelow a1 24 u (fun v2 u1 =>
  (v2 = 0 →
   w_X2_actAt_c19 (-1) u1 Q) ∧
  (¬ v2 = 0 →
   vp_in a1 24 ∧
   w_X2_actAt_c19 (u1.1 13 a1.toNatClampNeg) u1 Q))
set_option maxRecDepth 10000 in
theorem m_X2_actAt {a1 : Int32} {u : gg_M}  {G : gg_T} {Q : Int32 → gg_M → Prop} (hG : gg_Cl none cX2_actAt 2 RX2 (some .int) 2 (gg_eI Q) G)  (h : w_X2_actAt a1 u  Q)   : G 0 [some (.ref 12), some (.int a1)] [] u := by
  unfold w_X2_actAt at h
  refine gg_iload_n hG dX2_actAt_0 rfl rfl ?_
  refine gg_bipush (v := 24) hG dX2_actAt_1 (by decide) ?_
  refine gg_xsN (As := [.int a1, .int 24]) (st := []) hG dX2_actAt_3 ml_RX2_22 Y_X10_isBelow YS_X10_isBelow (mt_X10_isBelow h) rfl (by decide) (Nat.le_of_ble_eq_true rfl) rfl (gg_ki (fun v2 u1 h => ?_))
  refine gg_if_eq (tgt := 18) hG dX2_actAt_6 (by decide) (fun c3 => ?_) (fun c3 => ?_)
  · replace h := h.1 c3
    refine gg_iconst (v := (-1)) hG dX2_actAt_18 (by decide) ?_
    refine gg_mk hG [false, false] rfl ?_
    exact m_X2_actAt_c19 hG h
  · replace h := h.2 c3
    refine gg_aload_n hG dX2_actAt_9 rfl rfl ?_
    refine gg_get (v := .ref 13) hG dX2_actAt_10 (by decide) rfl fl_RX2_9 rfl ?_
    refine gg_iload_n hG dX2_actAt_13 rfl rfl ?_
    obtain ⟨h4, h⟩ := h
    refine gg_iald (j := a1.toNatClampNeg) hG dX2_actAt_14 (by decide) rfl h4 rfl ?_
    refine gg_goto (tgt := 19) hG dX2_actAt_15 (by decide) ?_
    refine gg_mk hG [false, false] rfl ?_
    exact m_X2_actAt_c19 hG h
theorem mt_X2_actAt {a1 : Int32}  {u : gg_M} {Q : Int32 → gg_M → Prop} (h : w_X2_actAt a1 u Q) : gg_Mt 2 yX2_actAt cX2_actAt 2 (some .int) [.ref 12, .int a1] u (gg_eI Q) :=
  gg_intro (own := RX2) (by decide +kernel) rfl rfl (Nat.le_of_ble_eq_true rfl) (fun G hG => m_X2_actAt hG  h)
/-! X2_signAt -/
def w_X2_signAt_c19 (z0 : Int32) (u : gg_M)  (Q : Int32 → gg_M → Prop) : Prop :=
  Q z0 u
set_option maxRecDepth 10000 in
theorem m_X2_signAt_c19 {z0 : Int32} {u : gg_M}  {G : gg_T} {Q : Int32 → gg_M → Prop} (hG : gg_Cl none cX2_signAt 2 RX2 (some .int) 2 (gg_eI Q) G)  (h : w_X2_signAt_c19 z0 u  Q)   : G 19 [none, none] [.int z0] u := by
  unfold w_X2_signAt_c19 at h
  exact gg_iret hG dX2_signAt_19 rfl rfl ⟨_, rfl, h⟩
def w_X2_signAt (a1 : Int32) (u : gg_M)  (Q : Int32 → gg_M → Prop) : Prop :=
  w_X10_isBelow a1 24 u (fun v2 u1 =>
  (v2 = 0 →
   w_X2_signAt_c19 (-1) u1 Q) ∧
  (¬ v2 = 0 →
   vp_in a1 24 ∧
   w_X2_signAt_c19 (u1.1 14 a1.toNatClampNeg) u1 Q))
set_option maxRecDepth 10000 in
theorem m_X2_signAt {a1 : Int32} {u : gg_M}  {G : gg_T} {Q : Int32 → gg_M → Prop} (hG : gg_Cl none cX2_signAt 2 RX2 (some .int) 2 (gg_eI Q) G)  (h : w_X2_signAt a1 u  Q)   : G 0 [some (.ref 12), some (.int a1)] [] u := by
  unfold w_X2_signAt at h
  refine gg_iload_n hG dX2_signAt_0 rfl rfl ?_
  refine gg_bipush (v := 24) hG dX2_signAt_1 (by decide) ?_
  refine gg_xsN (As := [.int a1, .int 24]) (st := []) hG dX2_signAt_3 ml_RX2_22 Y_X10_isBelow YS_X10_isBelow (mt_X10_isBelow h) rfl (by decide) (Nat.le_of_ble_eq_true rfl) rfl (gg_ki (fun v2 u1 h => ?_))
  refine gg_if_eq (tgt := 18) hG dX2_signAt_6 (by decide) (fun c3 => ?_) (fun c3 => ?_)
  · replace h := h.1 c3
    refine gg_iconst (v := (-1)) hG dX2_signAt_18 (by decide) ?_
    refine gg_mk hG [false, false] rfl ?_
    exact m_X2_signAt_c19 hG h
  · replace h := h.2 c3
    refine gg_aload_n hG dX2_signAt_9 rfl rfl ?_
    refine gg_get (v := .ref 14) hG dX2_signAt_10 (by decide) rfl fl_RX2_15 rfl ?_
    refine gg_iload_n hG dX2_signAt_13 rfl rfl ?_
    obtain ⟨h4, h⟩ := h
    refine gg_iald (j := a1.toNatClampNeg) hG dX2_signAt_14 (by decide) rfl h4 rfl ?_
    refine gg_goto (tgt := 19) hG dX2_signAt_15 (by decide) ?_
    refine gg_mk hG [false, false] rfl ?_
    exact m_X2_signAt_c19 hG h
theorem mt_X2_signAt {a1 : Int32}  {u : gg_M} {Q : Int32 → gg_M → Prop} (h : w_X2_signAt a1 u Q) : gg_Mt 2 yX2_signAt cX2_signAt 2 (some .int) [.ref 12, .int a1] u (gg_eI Q) :=
  gg_intro (own := RX2) (by decide +kernel) rfl rfl (Nat.le_of_ble_eq_true rfl) (fun G hG => m_X2_signAt hG  h)
/-! X7_begin -/
def w_X7_begin (t0 : Nat) (a2 : Int32) (u : gg_M)  (Q : gg_M → Prop) : Prop :=
  ∀ u1 : gg_M, u1 = gg_wI u t0 0 (u.1 7 5) →
  ∀ u2 : gg_M, u2 = gg_wI u1 t0 1 (u1.1 7 6) →
  ∀ u3 : gg_M, u3 = gg_wI u2 t0 2 0 →
  ∀ u4 : gg_M, u4 = gg_wI u3 t0 3 0 →
  ∀ u5 : gg_M, u5 = gg_wI u4 t0 4 0 →
  ∀ u6 : gg_M, u6 = gg_wI u5 t0 5 0 →
  ∀ u7 : gg_M, u7 = gg_wI u6 t0 6 a2 →
  ∀ u8 : gg_M, u8 = gg_wI u7 t0 7 0 →
  Q u8
set_option maxRecDepth 10000 in
theorem m_X7_begin {t0 : Nat} {a2 : Int32} {u : gg_M}  {G : gg_T} {Q : gg_M → Prop} (hG : gg_Cl none cX7_begin 3 RX7 none 1 (gg_eV Q) G) (kt0 : gg_kd t0 = 7) (h : w_X7_begin t0 a2 u  Q)   : G 0 [some (.ref t0), some (.ref 6), some (.int a2)] [] u := by
  unfold w_X7_begin at h
  refine gg_aload_n hG dX7_begin_0 rfl rfl ?_
  refine gg_aload_n hG dX7_begin_1 rfl rfl ?_
  refine gg_get (v := .ref 7) hG dX7_begin_2 (by decide) rfl fl_RX7_9 rfl ?_
  refine gg_iconst (v := 5) hG dX7_begin_5 (by decide) ?_
  refine gg_iald (j := 5) hG dX7_begin_6 (by decide) rfl (gg_vin (by decide +kernel)) (by decide) ?_
  refine gg_putI hG dX7_begin_7 (gg_kd_lt kt0 (by decide)) kt0 fp_RX7_15 rfl rfl rfl ?_
  refine gg_nu (fun u1 eu1 => ?_)
  replace h := h u1 eu1
  refine gg_aload_n hG dX7_begin_10 rfl rfl ?_
  refine gg_aload_n hG dX7_begin_11 rfl rfl ?_
  refine gg_get (v := .ref 7) hG dX7_begin_12 (by decide) rfl fl_RX7_9 rfl ?_
  refine gg_bipush (v := 6) hG dX7_begin_15 (by decide) ?_
  refine gg_iald (j := 6) hG dX7_begin_17 (by decide) rfl (gg_vin (by decide +kernel)) (by decide) ?_
  refine gg_putI hG dX7_begin_18 (gg_kd_lt kt0 (by decide)) kt0 fp_RX7_21 rfl rfl rfl ?_
  refine gg_nu (fun u2 eu2 => ?_)
  replace h := h u2 eu2
  refine gg_aload_n hG dX7_begin_21 rfl rfl ?_
  refine gg_iconst (v := 0) hG dX7_begin_22 (by decide) ?_
  refine gg_putI hG dX7_begin_23 (gg_kd_lt kt0 (by decide)) kt0 fp_RX7_24 rfl rfl rfl ?_
  refine gg_nu (fun u3 eu3 => ?_)
  replace h := h u3 eu3
  refine gg_aload_n hG dX7_begin_26 rfl rfl ?_
  refine gg_iconst (v := 0) hG dX7_begin_27 (by decide) ?_
  refine gg_putI hG dX7_begin_28 (gg_kd_lt kt0 (by decide)) kt0 fp_RX7_27 rfl rfl rfl ?_
  refine gg_nu (fun u4 eu4 => ?_)
  replace h := h u4 eu4
  refine gg_aload_n hG dX7_begin_31 rfl rfl ?_
  refine gg_iconst (v := 0) hG dX7_begin_32 (by decide) ?_
  refine gg_putI hG dX7_begin_33 (gg_kd_lt kt0 (by decide)) kt0 fp_RX7_30 rfl rfl rfl ?_
  refine gg_nu (fun u5 eu5 => ?_)
  replace h := h u5 eu5
  refine gg_aload_n hG dX7_begin_36 rfl rfl ?_
  refine gg_iconst (v := 0) hG dX7_begin_37 (by decide) ?_
  refine gg_putI hG dX7_begin_38 (gg_kd_lt kt0 (by decide)) kt0 fp_RX7_33 rfl rfl rfl ?_
  refine gg_nu (fun u6 eu6 => ?_)
  replace h := h u6 eu6
  refine gg_aload_n hG dX7_begin_41 rfl rfl ?_
  refine gg_iload_n hG dX7_begin_42 rfl rfl ?_
  refine gg_putI hG dX7_begin_43 (gg_kd_lt kt0 (by decide)) kt0 fp_RX7_36 rfl rfl rfl ?_
  refine gg_nu (fun u7 eu7 => ?_)
  replace h := h u7 eu7
  refine gg_aload_n hG dX7_begin_46 rfl rfl ?_
  refine gg_iconst (v := 0) hG dX7_begin_47 (by decide) ?_
  refine gg_putI hG dX7_begin_48 (gg_kd_lt kt0 (by decide)) kt0 fp_RX7_39 rfl (gg_nb (Or.inl rfl)).1 (gg_nb (Or.inl rfl)).2 ?_
  refine gg_nu (fun u8 eu8 => ?_)
  replace h := h u8 eu8
  exact gg_vret hG dX7_begin_51 rfl ⟨rfl, h⟩
theorem mt_X7_begin {t0 : Nat} {a2 : Int32} (kt0 : gg_kd t0 = 7) {u : gg_M} {Q : gg_M → Prop} (h : w_X7_begin t0 a2 u Q) : gg_Mt 1 yX7_begin cX7_begin 3 none [.ref t0, .ref 6, .int a2] u (gg_eV Q) :=
  gg_intro (own := RX7) (by decide +kernel) rfl rfl (Nat.le_of_ble_eq_true rfl) (fun G hG => m_X7_begin hG kt0 h)
/-! J9_max_7cf53 -/
def w_J9_max_7cf53_c10 (z0 : Int32) (u : gg_M)  (Q : Int32 → gg_M → Prop) : Prop :=
  Q z0 u
set_option maxRecDepth 10000 in
theorem m_J9_max_7cf53_c10 {z0 : Int32} {u : gg_M}  {G : gg_T} {Q : Int32 → gg_M → Prop} (hG : gg_Cl none cJ9_max_7cf53 2 RJ9 (some .int) 1 (gg_eI Q) G)  (h : w_J9_max_7cf53_c10 z0 u  Q)   : G 10 [none, none] [.int z0] u := by
  unfold w_J9_max_7cf53_c10 at h
  exact gg_iret hG dJ9_max_7cf53_10 rfl rfl ⟨_, rfl, h⟩
def w_J9_max_7cf53 (a0 : Int32) (a1 : Int32) (u : gg_M)  (Q : Int32 → gg_M → Prop) : Prop :=
  (a0 < a1 →
   w_J9_max_7cf53_c10 a1 u Q) ∧
  (¬ a0 < a1 →
   w_J9_max_7cf53_c10 a0 u Q)
set_option maxRecDepth 10000 in
theorem m_J9_max_7cf53 {a0 : Int32} {a1 : Int32} {u : gg_M}  {G : gg_T} {Q : Int32 → gg_M → Prop} (hG : gg_Cl none cJ9_max_7cf53 2 RJ9 (some .int) 1 (gg_eI Q) G)  (h : w_J9_max_7cf53 a0 a1 u  Q)   : G 0 [some (.int a0), some (.int a1)] [] u := by
  unfold w_J9_max_7cf53 at h
  refine gg_iload_n hG dJ9_max_7cf53_0 rfl rfl ?_
  refine gg_iload_n hG dJ9_max_7cf53_1 rfl rfl ?_
  refine gg_ic_lt (tgt := 9) hG dJ9_max_7cf53_2 (by decide) (fun c1 => ?_) (fun c1 => ?_)
  · replace h := h.1 c1
    refine gg_iload_n hG dJ9_max_7cf53_9 rfl rfl ?_
    refine gg_mk hG [false, false] rfl ?_
    exact m_J9_max_7cf53_c10 hG h
  · replace h := h.2 c1
    refine gg_iload_n hG dJ9_max_7cf53_5 rfl rfl ?_
    refine gg_goto (tgt := 10) hG dJ9_max_7cf53_6 (by decide) ?_
    refine gg_mk hG [false, false] rfl ?_
    exact m_J9_max_7cf53_c10 hG h
theorem mt_J9_max_7cf53 {a0 : Int32} {a1 : Int32}  {u : gg_M} {Q : Int32 → gg_M → Prop} (h : w_J9_max_7cf53 a0 a1 u Q) : gg_Mt 1 yJ9_max_7cf53 cJ9_max_7cf53 2 (some .int) [.int a0, .int a1] u (gg_eI Q) :=
  gg_intro (own := RJ9) (by decide +kernel) rfl rfl (Nat.le_of_ble_eq_true rfl) (fun G hG => m_J9_max_7cf53 hG  h)
/-! J9_min_7cf53 -/
def w_J9_min_7cf53_c10 (z0 : Int32) (u : gg_M)  (Q : Int32 → gg_M → Prop) : Prop :=
  Q z0 u
set_option maxRecDepth 10000 in
theorem m_J9_min_7cf53_c10 {z0 : Int32} {u : gg_M}  {G : gg_T} {Q : Int32 → gg_M → Prop} (hG : gg_Cl none cJ9_min_7cf53 2 RJ9 (some .int) 1 (gg_eI Q) G)  (h : w_J9_min_7cf53_c10 z0 u  Q)   : G 10 [none, none] [.int z0] u := by
  unfold w_J9_min_7cf53_c10 at h
  exact gg_iret hG dJ9_min_7cf53_10 rfl rfl ⟨_, rfl, h⟩
def w_J9_min_7cf53 (a0 : Int32) (a1 : Int32) (u : gg_M)  (Q : Int32 → gg_M → Prop) : Prop :=
  (a1 < a0 →
   w_J9_min_7cf53_c10 a1 u Q) ∧
  (¬ a1 < a0 →
   w_J9_min_7cf53_c10 a0 u Q)
set_option maxRecDepth 10000 in
theorem m_J9_min_7cf53 {a0 : Int32} {a1 : Int32} {u : gg_M}  {G : gg_T} {Q : Int32 → gg_M → Prop} (hG : gg_Cl none cJ9_min_7cf53 2 RJ9 (some .int) 1 (gg_eI Q) G)  (h : w_J9_min_7cf53 a0 a1 u  Q)   : G 0 [some (.int a0), some (.int a1)] [] u := by
  unfold w_J9_min_7cf53 at h
  refine gg_iload_n hG dJ9_min_7cf53_0 rfl rfl ?_
  refine gg_iload_n hG dJ9_min_7cf53_1 rfl rfl ?_
  refine gg_ic_gt (tgt := 9) hG dJ9_min_7cf53_2 (by decide) (fun c1 => ?_) (fun c1 => ?_)
  · replace h := h.1 c1
    refine gg_iload_n hG dJ9_min_7cf53_9 rfl rfl ?_
    refine gg_mk hG [false, false] rfl ?_
    exact m_J9_min_7cf53_c10 hG h
  · replace h := h.2 c1
    refine gg_iload_n hG dJ9_min_7cf53_5 rfl rfl ?_
    refine gg_goto (tgt := 10) hG dJ9_min_7cf53_6 (by decide) ?_
    refine gg_mk hG [false, false] rfl ?_
    exact m_J9_min_7cf53_c10 hG h
theorem mt_J9_min_7cf53 {a0 : Int32} {a1 : Int32}  {u : gg_M} {Q : Int32 → gg_M → Prop} (h : w_J9_min_7cf53 a0 a1 u Q) : gg_Mt 1 yJ9_min_7cf53 cJ9_min_7cf53 2 (some .int) [.int a0, .int a1] u (gg_eI Q) :=
  gg_intro (own := RJ9) (by decide +kernel) rfl rfl (Nat.le_of_ble_eq_true rfl) (fun G hG => m_J9_min_7cf53 hG  h)
/-! X7_dry -/
def w_X7_dry_c13 (t0 : Nat) (z0 : Int32) (u : gg_M)  (Q : Int32 → gg_M → Prop) : Prop :=
  ∀ u1 : gg_M, u1 = gg_wI u t0 3 0 →
  Q z0 u1
set_option maxRecDepth 10000 in
theorem m_X7_dry_c13 {t0 : Nat} {z0 : Int32} {u : gg_M}  {G : gg_T} {Q : Int32 → gg_M → Prop} (hG : gg_Cl none cX7_dry 2 RX7 (some .int) 1 (gg_eI Q) G) (kt0 : gg_kd t0 = 7) (h : w_X7_dry_c13 t0 z0 u  Q)   : G 13 [some (.ref t0), none] [.int z0] u := by
  unfold w_X7_dry_c13 at h
  refine gg_istore_n (L1 := [some (.ref t0), some (.int z0)]) hG dX7_dry_13 rfl (by decide) rfl ?_
  refine gg_aload_n hG dX7_dry_14 rfl rfl ?_
  refine gg_iconst (v := 0) hG dX7_dry_15 (by decide) ?_
  refine gg_putI hG dX7_dry_16 (gg_kd_lt kt0 (by decide)) kt0 fp_RX7_27 rfl rfl rfl ?_
  refine gg_nu (fun u1 eu1 => ?_)
  replace h := h u1 eu1
  refine gg_iload_n hG dX7_dry_19 rfl rfl ?_
  exact gg_iret hG dX7_dry_20 rfl rfl ⟨_, rfl, h⟩
def w_X7_dry (t0 : Nat) (u : gg_M)  (Q : Int32 → gg_M → Prop) : Prop :=
  ((u.1 t0 3) ≤ 0 →
   w_X7_dry_c13 t0 6 u Q) ∧
  (¬ (u.1 t0 3) ≤ 0 →
   w_X7_dry_c13 t0 5 u Q)
set_option maxRecDepth 10000 in
theorem m_X7_dry {t0 : Nat} {u : gg_M}  {G : gg_T} {Q : Int32 → gg_M → Prop} (hG : gg_Cl none cX7_dry 2 RX7 (some .int) 1 (gg_eI Q) G) (kt0 : gg_kd t0 = 7) (h : w_X7_dry t0 u  Q)   : G 0 [some (.ref t0), none] [] u := by
  unfold w_X7_dry at h
  refine gg_aload_n hG dX7_dry_0 rfl rfl ?_
  refine gg_get (v := .int (u.1 t0 3)) hG dX7_dry_1 (gg_kd_lt kt0 (by decide)) kt0 fl_RX7_27 (gg_fvI kt0 rfl) ?_
  refine gg_if_le (tgt := 11) hG dX7_dry_4 (by decide) (fun c2 => ?_) (fun c2 => ?_)
  · replace h := h.1 c2
    refine gg_bipush (v := 6) hG dX7_dry_11 (by decide) ?_
    exact m_X7_dry_c13 hG kt0 h
  · replace h := h.2 c2
    refine gg_iconst (v := 5) hG dX7_dry_7 (by decide) ?_
    refine gg_goto (tgt := 13) hG dX7_dry_8 (by decide) ?_
    exact m_X7_dry_c13 hG kt0 h
theorem mt_X7_dry {t0 : Nat} (kt0 : gg_kd t0 = 7) {u : gg_M} {Q : Int32 → gg_M → Prop} (h : w_X7_dry t0 u Q) : gg_Mt 1 yX7_dry cX7_dry 2 (some .int) [.ref t0] u (gg_eI Q) :=
  gg_intro (own := RX7) (by decide +kernel) rfl rfl (Nat.le_of_ble_eq_true rfl) (fun G hG => m_X7_dry hG kt0 h)
/-! X7_tend -/
def w_X7_tend (t0 : Nat) (a2 : Int32) (u : gg_M)  (Q : Int32 → gg_M → Prop) : Prop :=
  (a2 = 4 →
   w_J9_max_7cf53 0 ((u.1 t0 3) - 4) u (fun v3 u2 =>
   ∀ u4 : gg_M, u4 = gg_wI u2 t0 3 v3 →
   w_J9_max_7cf53 0 ((u4.1 t0 4) - 1) u4 (fun v6 u5 =>
   ∀ u7 : gg_M, u7 = gg_wI u5 t0 4 v6 →
   w_J9_min_7cf53 (u7.1 7 5) ((u7.1 t0 0) + 1) u7 (fun v9 u8 =>
   ∀ u10 : gg_M, u10 = gg_wI u8 t0 0 v9 →
   Q 0 u10)))) ∧
  (a2 = 5 →
   w_X7_dry t0 u (fun v13 u12 =>
   Q v13 u12)) ∧
  (a2 = 6 →
   w_J9_min_7cf53 20 ((u.1 t0 4) + 6) u (fun v16 u15 =>
   ∀ u17 : gg_M, u17 = gg_wI u15 t0 4 v16 →
   Q 0 u17)) ∧
  (a2 = 7 →
   ∀ u19 : gg_M, u19 = gg_wI u t0 5 5 →
   Q 0 u19) ∧
  (a2 = 8 →
   ∀ u21 : gg_M, u21 = gg_wI u t0 6 ((u.1 t0 6) &&& (-3)) →
   Q 0 u21) ∧
  (a2 = 9 →
   ∀ u23 : gg_M, u23 = gg_wI u t0 6 ((u.1 t0 6) &&& (-9)) →
   Q 0 u23) ∧
  ((a2.toInt < 4 ∨ 9 < a2.toInt) →
   Q 4 u)
set_option maxRecDepth 10000 in
theorem m_X7_tend {t0 : Nat} {a2 : Int32} {u : gg_M}  {G : gg_T} {Q : Int32 → gg_M → Prop} (hG : gg_Cl none cX7_tend 3 RX7 (some .int) 2 (gg_eI Q) G) (kt0 : gg_kd t0 = 7) (h : w_X7_tend t0 a2 u  Q)   : G 0 [some (.ref t0), some (.ref 6), some (.int a2)] [] u := by
  unfold w_X7_tend at h
  refine gg_iload_n hG dX7_tend_0 rfl rfl ?_
  by_cases c1 : a2 = 4
  · refine gg_tabIn (off := 39) (tgt := 40) hG dX7_tend_1 (by rw [c1]; decide) (by rw [c1]; decide) (by rw [c1]; decide) (by decide) ?_
    replace h := h.1 c1
    refine gg_aload_n hG dX7_tend_40 rfl rfl ?_
    refine gg_iconst (v := 0) hG dX7_tend_41 (by decide) ?_
    refine gg_aload_n hG dX7_tend_42 rfl rfl ?_
    refine gg_get (v := .int (u.1 t0 3)) hG dX7_tend_43 (gg_kd_lt kt0 (by decide)) kt0 fl_RX7_27 (gg_fvI kt0 rfl) ?_
    refine gg_iconst (v := 4) hG dX7_tend_46 (by decide) ?_
    refine gg_isub hG dX7_tend_47 ?_
    refine gg_xs (As := [.int 0, .int ((u.1 t0 3) - 4)]) (st := [.ref t0]) hG dX7_tend_48 ml_RX7_64 Y_J9_max_7cf53 YS_J9_max_7cf53 (mt_J9_max_7cf53 h) rfl (by decide) (Nat.le_of_ble_eq_true rfl) rfl (gg_ki (fun v3 u2 h => ?_))
    refine gg_putI hG dX7_tend_51 (gg_kd_lt kt0 (by decide)) kt0 fp_RX7_27 rfl rfl rfl ?_
    refine gg_nu (fun u4 eu4 => ?_)
    replace h := h u4 eu4
    refine gg_aload_n hG dX7_tend_54 rfl rfl ?_
    refine gg_iconst (v := 0) hG dX7_tend_55 (by decide) ?_
    refine gg_aload_n hG dX7_tend_56 rfl rfl ?_
    refine gg_get (v := .int (u4.1 t0 4)) hG dX7_tend_57 (gg_kd_lt kt0 (by decide)) kt0 fl_RX7_30 (gg_fvI kt0 rfl) ?_
    refine gg_iconst (v := 1) hG dX7_tend_60 (by decide) ?_
    refine gg_isub hG dX7_tend_61 ?_
    refine gg_xs (As := [.int 0, .int ((u4.1 t0 4) - 1)]) (st := [.ref t0]) hG dX7_tend_62 ml_RX7_64 Y_J9_max_7cf53 YS_J9_max_7cf53 (mt_J9_max_7cf53 h) rfl (by decide) (Nat.le_of_ble_eq_true rfl) rfl (gg_ki (fun v6 u5 h => ?_))
    refine gg_putI hG dX7_tend_65 (gg_kd_lt kt0 (by decide)) kt0 fp_RX7_30 rfl rfl rfl ?_
    refine gg_nu (fun u7 eu7 => ?_)
    replace h := h u7 eu7
    refine gg_aload_n hG dX7_tend_68 rfl rfl ?_
    refine gg_aload_n hG dX7_tend_69 rfl rfl ?_
    refine gg_get (v := .ref 7) hG dX7_tend_70 (by decide) rfl fl_RX7_9 rfl ?_
    refine gg_iconst (v := 5) hG dX7_tend_73 (by decide) ?_
    refine gg_iald (j := 5) hG dX7_tend_74 (by decide) rfl (gg_vin (by decide +kernel)) (by decide) ?_
    refine gg_aload_n hG dX7_tend_75 rfl rfl ?_
    refine gg_get (v := .int (u7.1 t0 0)) hG dX7_tend_76 (gg_kd_lt kt0 (by decide)) kt0 fl_RX7_15 (gg_fvI kt0 rfl) ?_
    refine gg_iconst (v := 1) hG dX7_tend_79 (by decide) ?_
    refine gg_iadd hG dX7_tend_80 ?_
    refine gg_xs (As := [.int (u7.1 7 5), .int ((u7.1 t0 0) + 1)]) (st := [.ref t0]) hG dX7_tend_81 ml_RX7_70 Y_J9_min_7cf53 YS_J9_min_7cf53 (mt_J9_min_7cf53 h) rfl (by decide) (Nat.le_of_ble_eq_true rfl) rfl (gg_ki (fun v9 u8 h => ?_))
    refine gg_putI hG dX7_tend_84 (gg_kd_lt kt0 (by decide)) kt0 fp_RX7_15 rfl rfl rfl ?_
    refine gg_nu (fun u10 eu10 => ?_)
    replace h := h u10 eu10
    refine gg_iconst (v := 0) hG dX7_tend_87 (by decide) ?_
    exact gg_iret hG dX7_tend_88 rfl rfl ⟨_, rfl, h⟩
  by_cases c11 : a2 = 5
  · refine gg_tabIn (off := 88) (tgt := 89) hG dX7_tend_1 (by rw [c11]; decide) (by rw [c11]; decide) (by rw [c11]; decide) (by decide) ?_
    replace h := h.2.1 c11
    refine gg_aload_n hG dX7_tend_89 rfl rfl ?_
    refine gg_xv (As := []) (st := []) hG dX7_tend_90 ml_RX7_73 Y_X7_dry YV_X7_dry (gg_kd_lt kt0 (by decide)) (gg_rcv kt0 rfl) (mt_X7_dry kt0 h) rfl (by decide) (Nat.le_of_ble_eq_true rfl) rfl (gg_ki (fun v13 u12 h => ?_))
    exact gg_iret hG dX7_tend_93 rfl rfl ⟨_, rfl, h⟩
  by_cases c14 : a2 = 6
  · refine gg_tabIn (off := 93) (tgt := 94) hG dX7_tend_1 (by rw [c14]; decide) (by rw [c14]; decide) (by rw [c14]; decide) (by decide) ?_
    replace h := h.2.2.1 c14
    refine gg_aload_n hG dX7_tend_94 rfl rfl ?_
    refine gg_bipush (v := 20) hG dX7_tend_95 (by decide) ?_
    refine gg_aload_n hG dX7_tend_97 rfl rfl ?_
    refine gg_get (v := .int (u.1 t0 4)) hG dX7_tend_98 (gg_kd_lt kt0 (by decide)) kt0 fl_RX7_30 (gg_fvI kt0 rfl) ?_
    refine gg_bipush (v := 6) hG dX7_tend_101 (by decide) ?_
    refine gg_iadd hG dX7_tend_103 ?_
    refine gg_xs (As := [.int 20, .int ((u.1 t0 4) + 6)]) (st := [.ref t0]) hG dX7_tend_104 ml_RX7_70 Y_J9_min_7cf53 YS_J9_min_7cf53 (mt_J9_min_7cf53 h) rfl (by decide) (Nat.le_of_ble_eq_true rfl) rfl (gg_ki (fun v16 u15 h => ?_))
    refine gg_putI hG dX7_tend_107 (gg_kd_lt kt0 (by decide)) kt0 fp_RX7_30 rfl rfl rfl ?_
    refine gg_nu (fun u17 eu17 => ?_)
    replace h := h u17 eu17
    refine gg_iconst (v := 0) hG dX7_tend_110 (by decide) ?_
    exact gg_iret hG dX7_tend_111 rfl rfl ⟨_, rfl, h⟩
  by_cases c18 : a2 = 7
  · refine gg_tabIn (off := 111) (tgt := 112) hG dX7_tend_1 (by rw [c18]; decide) (by rw [c18]; decide) (by rw [c18]; decide) (by decide) ?_
    replace h := h.2.2.2.1 c18
    refine gg_aload_n hG dX7_tend_112 rfl rfl ?_
    refine gg_iconst (v := 5) hG dX7_tend_113 (by decide) ?_
    refine gg_putI hG dX7_tend_114 (gg_kd_lt kt0 (by decide)) kt0 fp_RX7_33 rfl rfl rfl ?_
    refine gg_nu (fun u19 eu19 => ?_)
    replace h := h u19 eu19
    refine gg_iconst (v := 0) hG dX7_tend_117 (by decide) ?_
    exact gg_iret hG dX7_tend_118 rfl rfl ⟨_, rfl, h⟩
  by_cases c20 : a2 = 8
  · refine gg_tabIn (off := 118) (tgt := 119) hG dX7_tend_1 (by rw [c20]; decide) (by rw [c20]; decide) (by rw [c20]; decide) (by decide) ?_
    replace h := h.2.2.2.2.1 c20
    refine gg_aload_n hG dX7_tend_119 rfl rfl ?_
    refine gg_dup hG dX7_tend_120 rfl ?_
    refine gg_get (v := .int (u.1 t0 6)) hG dX7_tend_121 (gg_kd_lt kt0 (by decide)) kt0 fl_RX7_36 (gg_fvI kt0 rfl) ?_
    refine gg_bipush (v := (-3)) hG dX7_tend_124 (by decide) ?_
    refine gg_iand hG dX7_tend_126 ?_
    refine gg_putI hG dX7_tend_127 (gg_kd_lt kt0 (by decide)) kt0 fp_RX7_36 rfl rfl rfl ?_
    refine gg_nu (fun u21 eu21 => ?_)
    replace h := h u21 eu21
    refine gg_iconst (v := 0) hG dX7_tend_130 (by decide) ?_
    exact gg_iret hG dX7_tend_131 rfl rfl ⟨_, rfl, h⟩
  by_cases c22 : a2 = 9
  · refine gg_tabIn (off := 131) (tgt := 132) hG dX7_tend_1 (by rw [c22]; decide) (by rw [c22]; decide) (by rw [c22]; decide) (by decide) ?_
    replace h := h.2.2.2.2.2.1 c22
    refine gg_aload_n hG dX7_tend_132 rfl rfl ?_
    refine gg_dup hG dX7_tend_133 rfl ?_
    refine gg_get (v := .int (u.1 t0 6)) hG dX7_tend_134 (gg_kd_lt kt0 (by decide)) kt0 fl_RX7_36 (gg_fvI kt0 rfl) ?_
    refine gg_bipush (v := (-9)) hG dX7_tend_137 (by decide) ?_
    refine gg_iand hG dX7_tend_139 ?_
    refine gg_putI hG dX7_tend_140 (gg_kd_lt kt0 (by decide)) kt0 fp_RX7_36 rfl rfl rfl ?_
    refine gg_nu (fun u23 eu23 => ?_)
    replace h := h u23 eu23
    refine gg_iconst (v := 0) hG dX7_tend_143 (by decide) ?_
    exact gg_iret hG dX7_tend_144 rfl rfl ⟨_, rfl, h⟩
  have hsw : a2.toInt < 4 ∨ 9 < a2.toInt := by
    have nc1 := lv_neT (a := 4) c1 (by decide)
    have nc11 := lv_neT (a := 5) c11 (by decide)
    have nc14 := lv_neT (a := 6) c14 (by decide)
    have nc18 := lv_neT (a := 7) c18 (by decide)
    have nc20 := lv_neT (a := 8) c20 (by decide)
    have nc22 := lv_neT (a := 9) c22 (by decide)
    omega
  refine gg_tabOut (tgt := 145) hG dX7_tend_1 hsw (by decide) ?_
  replace h := h.2.2.2.2.2.2 hsw
  refine gg_iconst (v := 4) hG dX7_tend_145 (by decide) ?_
  exact gg_iret hG dX7_tend_146 rfl rfl ⟨_, rfl, h⟩
theorem mt_X7_tend {t0 : Nat} {a2 : Int32} (kt0 : gg_kd t0 = 7) {u : gg_M} {Q : Int32 → gg_M → Prop} (h : w_X7_tend t0 a2 u Q) : gg_Mt 2 yX7_tend cX7_tend 3 (some .int) [.ref t0, .ref 6, .int a2] u (gg_eI Q) :=
  gg_intro (own := RX7) (by decide +kernel) rfl rfl (Nat.le_of_ble_eq_true rfl) (fun G hG => m_X7_tend hG kt0 h)
/-! X7_signOf -/
def w_X7_signOf_c176 (z0 : Int32) (u : gg_M)  (Q : Int32 → gg_M → Prop) : Prop :=
  Q z0 u
set_option maxRecDepth 10000 in
theorem m_X7_signOf_c176 {z0 : Int32} {u : gg_M}  {G : gg_T} {Q : Int32 → gg_M → Prop} (hG : gg_Cl none cX7_signOf 6 RX7 (some .int) 1 (gg_eI Q) G)  (h : w_X7_signOf_c176 z0 u  Q)   : G 176 [none, none, none, none, none, none] [.int z0] u := by
  unfold w_X7_signOf_c176 at h
  exact gg_iret hG dX7_signOf_176 rfl rfl ⟨_, rfl, h⟩
def w_X7_signOf_c175  (u : gg_M)  (Q : Int32 → gg_M → Prop) : Prop :=
  w_X7_signOf_c176 0 u Q
set_option maxRecDepth 10000 in
theorem m_X7_signOf_c175  {u : gg_M}  {G : gg_T} {Q : Int32 → gg_M → Prop} (hG : gg_Cl none cX7_signOf 6 RX7 (some .int) 1 (gg_eI Q) G)  (h : w_X7_signOf_c175  u  Q)   : G 175 [none, none, none, none, none, none] [] u := by
  unfold w_X7_signOf_c175 at h
  refine gg_iconst (v := 0) hG dX7_signOf_175 (by decide) ?_
  exact m_X7_signOf_c176 hG h
def w_X7_signOf_c149 (a2 : Int32) (a3 : Int32) (a4 : Int32) (u : gg_M)  (Q : Int32 → gg_M → Prop) : Prop :=
  (a2 < 3 →
   w_X7_signOf_c175 u Q) ∧
  (¬ a2 < 3 →
   (10 < a2 →
    w_X7_signOf_c175 u Q) ∧
   (¬ 10 < a2 →
    (a3 < 3 →
     w_X7_signOf_c175 u Q) ∧
    (¬ a3 < 3 →
     (a4 < 4 →
      w_X7_signOf_c175 u Q) ∧
     (¬ a4 < 4 →
      w_X7_signOf_c176 1 u Q))))
set_option maxRecDepth 10000 in
theorem m_X7_signOf_c149 {a2 : Int32} {a3 : Int32} {a4 : Int32} {u : gg_M}  {G : gg_T} {Q : Int32 → gg_M → Prop} (hG : gg_Cl none cX7_signOf 6 RX7 (some .int) 1 (gg_eI Q) G)  (h : w_X7_signOf_c149 a2 a3 a4 u  Q)   : G 149 [none, none, some (.int a2), some (.int a3), some (.int a4), none] [] u := by
  unfold w_X7_signOf_c149 at h
  refine gg_iload_n hG dX7_signOf_149 rfl rfl ?_
  refine gg_iconst (v := 3) hG dX7_signOf_150 (by decide) ?_
  refine gg_ic_lt (tgt := 175) hG dX7_signOf_151 (by decide) (fun c1 => ?_) (fun c1 => ?_)
  · replace h := h.1 c1
    refine gg_mk hG [false, false, false, false, false, false] rfl ?_
    exact m_X7_signOf_c175 hG h
  · replace h := h.2 c1
    refine gg_iload_n hG dX7_signOf_154 rfl rfl ?_
    refine gg_bipush (v := 10) hG dX7_signOf_155 (by decide) ?_
    refine gg_ic_gt (tgt := 175) hG dX7_signOf_157 (by decide) (fun c2 => ?_) (fun c2 => ?_)
    · replace h := h.1 c2
      refine gg_mk hG [false, false, false, false, false, false] rfl ?_
      exact m_X7_signOf_c175 hG h
    · replace h := h.2 c2
      refine gg_iload_n hG dX7_signOf_160 rfl rfl ?_
      refine gg_iconst (v := 3) hG dX7_signOf_161 (by decide) ?_
      refine gg_ic_lt (tgt := 175) hG dX7_signOf_162 (by decide) (fun c3 => ?_) (fun c3 => ?_)
      · replace h := h.1 c3
        refine gg_mk hG [false, false, false, false, false, false] rfl ?_
        exact m_X7_signOf_c175 hG h
      · replace h := h.2 c3
        refine gg_iload hG dX7_signOf_165 rfl ?_
        refine gg_iconst (v := 4) hG dX7_signOf_167 (by decide) ?_
        refine gg_ic_lt (tgt := 175) hG dX7_signOf_168 (by decide) (fun c4 => ?_) (fun c4 => ?_)
        · replace h := h.1 c4
          refine gg_mk hG [false, false, false, false, false, false] rfl ?_
          exact m_X7_signOf_c175 hG h
        · replace h := h.2 c4
          refine gg_iconst (v := 1) hG dX7_signOf_171 (by decide) ?_
          refine gg_goto (tgt := 176) hG dX7_signOf_172 (by decide) ?_
          refine gg_mk hG [false, false, false, false, false, false] rfl ?_
          exact m_X7_signOf_c176 hG h
def w_X7_signOf_c148 (z0 : Int32) (u : gg_M)  (Q : Int32 → gg_M → Prop) : Prop :=
  Q z0 u
set_option maxRecDepth 10000 in
theorem m_X7_signOf_c148 {z0 : Int32} {u : gg_M}  {G : gg_T} {Q : Int32 → gg_M → Prop} (hG : gg_Cl none cX7_signOf 6 RX7 (some .int) 1 (gg_eI Q) G)  (h : w_X7_signOf_c148 z0 u  Q)   : G 148 [none, none, none, none, none, none] [.int z0] u := by
  unfold w_X7_signOf_c148 at h
  exact gg_iret hG dX7_signOf_148 rfl rfl ⟨_, rfl, h⟩
def w_X7_signOf_c100 (a2 : Int32) (a3 : Int32) (a4 : Int32) (z0 : Int32) (z1 : Int32) (u : gg_M)  (Q : Int32 → gg_M → Prop) : Prop :=
  ∀ v5 : Int32, v5 = (z0 - z1) →
  (a2 < 4 →
   w_X7_signOf_c149 a2 a3 a4 u Q) ∧
  (¬ a2 < 4 →
   (9 < a2 →
    w_X7_signOf_c149 a2 a3 a4 u Q) ∧
   (¬ 9 < a2 →
    (a3 < 4 →
     w_X7_signOf_c149 a2 a3 a4 u Q) ∧
    (¬ a3 < 4 →
     (a4 < 5 →
      w_X7_signOf_c149 a2 a3 a4 u Q) ∧
     (¬ a4 < 5 →
      (v5 ≤ 13 →
       (7 ≤ v5 →
        w_X7_signOf_c148 2 u Q) ∧
       (¬ 7 ≤ v5 →
        w_X7_signOf_c148 1 u Q)) ∧
      (¬ v5 ≤ 13 →
       w_X7_signOf_c148 3 u Q)))))
set_option maxRecDepth 10000 in
theorem m_X7_signOf_c100 {a2 : Int32} {a3 : Int32} {a4 : Int32} {z0 : Int32} {z1 : Int32} {u : gg_M}  {G : gg_T} {Q : Int32 → gg_M → Prop} (hG : gg_Cl none cX7_signOf 6 RX7 (some .int) 1 (gg_eI Q) G)  (h : w_X7_signOf_c100 a2 a3 a4 z0 z1 u  Q)   : G 100 [none, none, some (.int a2), some (.int a3), some (.int a4), none] [.int z1, .int z0] u := by
  unfold w_X7_signOf_c100 at h
  refine gg_isub hG dX7_signOf_100 ?_
  refine gg_ni (fun v5 e5 => ?_)
  replace h := h v5 e5
  refine gg_istore (L1 := [none, none, some (.int a2), some (.int a3), some (.int a4), some (.int v5)]) hG dX7_signOf_101 (by decide) rfl ?_
  refine gg_iload_n hG dX7_signOf_103 rfl rfl ?_
  refine gg_iconst (v := 4) hG dX7_signOf_104 (by decide) ?_
  refine gg_ic_lt (tgt := 149) hG dX7_signOf_105 (by decide) (fun c6 => ?_) (fun c6 => ?_)
  · replace h := h.1 c6
    refine gg_mk hG [false, false, true, true, true, false] rfl ?_
    exact m_X7_signOf_c149 hG h
  · replace h := h.2 c6
    refine gg_iload_n hG dX7_signOf_108 rfl rfl ?_
    refine gg_bipush (v := 9) hG dX7_signOf_109 (by decide) ?_
    refine gg_ic_gt (tgt := 149) hG dX7_signOf_111 (by decide) (fun c7 => ?_) (fun c7 => ?_)
    · replace h := h.1 c7
      refine gg_mk hG [false, false, true, true, true, false] rfl ?_
      exact m_X7_signOf_c149 hG h
    · replace h := h.2 c7
      refine gg_iload_n hG dX7_signOf_114 rfl rfl ?_
      refine gg_iconst (v := 4) hG dX7_signOf_115 (by decide) ?_
      refine gg_ic_lt (tgt := 149) hG dX7_signOf_116 (by decide) (fun c8 => ?_) (fun c8 => ?_)
      · replace h := h.1 c8
        refine gg_mk hG [false, false, true, true, true, false] rfl ?_
        exact m_X7_signOf_c149 hG h
      · replace h := h.2 c8
        refine gg_iload hG dX7_signOf_119 rfl ?_
        refine gg_iconst (v := 5) hG dX7_signOf_121 (by decide) ?_
        refine gg_ic_lt (tgt := 149) hG dX7_signOf_122 (by decide) (fun c9 => ?_) (fun c9 => ?_)
        · replace h := h.1 c9
          refine gg_mk hG [false, false, true, true, true, false] rfl ?_
          exact m_X7_signOf_c149 hG h
        · replace h := h.2 c9
          refine gg_iload hG dX7_signOf_125 rfl ?_
          refine gg_bipush (v := 13) hG dX7_signOf_127 (by decide) ?_
          refine gg_ic_le (tgt := 136) hG dX7_signOf_129 (by decide) (fun c10 => ?_) (fun c10 => ?_)
          · replace h := h.1 c10
            refine gg_iload hG dX7_signOf_136 rfl ?_
            refine gg_bipush (v := 7) hG dX7_signOf_138 (by decide) ?_
            refine gg_ic_ge (tgt := 147) hG dX7_signOf_140 (by decide) (fun c11 => ?_) (fun c11 => ?_)
            · replace h := h.1 c11
              refine gg_iconst (v := 2) hG dX7_signOf_147 (by decide) ?_
              refine gg_mk hG [false, false, false, false, false, false] rfl ?_
              exact m_X7_signOf_c148 hG h
            · replace h := h.2 c11
              refine gg_iconst (v := 1) hG dX7_signOf_143 (by decide) ?_
              refine gg_goto (tgt := 148) hG dX7_signOf_144 (by decide) ?_
              refine gg_mk hG [false, false, false, false, false, false] rfl ?_
              exact m_X7_signOf_c148 hG h
          · replace h := h.2 c10
            refine gg_iconst (v := 3) hG dX7_signOf_132 (by decide) ?_
            refine gg_goto (tgt := 148) hG dX7_signOf_133 (by decide) ?_
            refine gg_mk hG [false, false, false, false, false, false] rfl ?_
            exact m_X7_signOf_c148 hG h
def w_X7_signOf_c79 (t0 : Nat) (a2 : Int32) (a3 : Int32) (a5 : Int32) (z0 : Int32) (z1 : Int32) (u : gg_M)  (Q : Int32 → gg_M → Prop) : Prop :=
  ∀ v12 : Int32, v12 = (z0 - z1) →
  (((u.1 t0 6) &&& 8) = 0 →
   w_X7_signOf_c100 a2 a3 v12 a5 0 u Q) ∧
  (¬ ((u.1 t0 6) &&& 8) = 0 →
   w_X7_signOf_c100 a2 a3 v12 a5 6 u Q)
set_option maxRecDepth 10000 in
theorem m_X7_signOf_c79 {t0 : Nat} {a2 : Int32} {a3 : Int32} {a5 : Int32} {z0 : Int32} {z1 : Int32} {u : gg_M}  {G : gg_T} {Q : Int32 → gg_M → Prop} (hG : gg_Cl none cX7_signOf 6 RX7 (some .int) 1 (gg_eI Q) G) (kt0 : gg_kd t0 = 7) (h : w_X7_signOf_c79 t0 a2 a3 a5 z0 z1 u  Q)   : G 79 [some (.ref t0), none, some (.int a2), some (.int a3), none, some (.int a5)] [.int z1, .int z0] u := by
  unfold w_X7_signOf_c79 at h
  refine gg_isub hG dX7_signOf_79 ?_
  refine gg_ni (fun v12 e12 => ?_)
  replace h := h v12 e12
  refine gg_istore (L1 := [some (.ref t0), none, some (.int a2), some (.int a3), some (.int v12), some (.int a5)]) hG dX7_signOf_80 (by decide) rfl ?_
  refine gg_iload hG dX7_signOf_82 rfl ?_
  refine gg_aload_n hG dX7_signOf_84 rfl rfl ?_
  refine gg_get (v := .int (u.1 t0 6)) hG dX7_signOf_85 (gg_kd_lt kt0 (by decide)) kt0 fl_RX7_36 (gg_fvI kt0 rfl) ?_
  refine gg_bipush (v := 8) hG dX7_signOf_88 (by decide) ?_
  refine gg_iand hG dX7_signOf_90 ?_
  refine gg_if_eq (tgt := 99) hG dX7_signOf_91 (by decide) (fun c13 => ?_) (fun c13 => ?_)
  · replace h := h.1 c13
    refine gg_iconst (v := 0) hG dX7_signOf_99 (by decide) ?_
    refine gg_mk hG [false, false, true, true, true, false] rfl ?_
    exact m_X7_signOf_c100 hG h
  · replace h := h.2 c13
    refine gg_bipush (v := 6) hG dX7_signOf_94 (by decide) ?_
    refine gg_goto (tgt := 100) hG dX7_signOf_96 (by decide) ?_
    refine gg_mk hG [false, false, true, true, true, false] rfl ?_
    exact m_X7_signOf_c100 hG h
def w_X7_signOf_c61 (t0 : Nat) (a2 : Int32) (a4 : Int32) (a5 : Int32) (z0 : Int32) (z1 : Int32) (u : gg_M)  (Q : Int32 → gg_M → Prop) : Prop :=
  ∀ v14 : Int32, v14 = (z0 - z1) →
  (((u.1 t0 6) &&& 1) = 0 →
   w_X7_signOf_c79 t0 a2 v14 a5 a4 0 u Q) ∧
  (¬ ((u.1 t0 6) &&& 1) = 0 →
   w_X7_signOf_c79 t0 a2 v14 a5 a4 4 u Q)
set_option maxRecDepth 10000 in
theorem m_X7_signOf_c61 {t0 : Nat} {a2 : Int32} {a4 : Int32} {a5 : Int32} {z0 : Int32} {z1 : Int32} {u : gg_M}  {G : gg_T} {Q : Int32 → gg_M → Prop} (hG : gg_Cl none cX7_signOf 6 RX7 (some .int) 1 (gg_eI Q) G) (kt0 : gg_kd t0 = 7) (h : w_X7_signOf_c61 t0 a2 a4 a5 z0 z1 u  Q)   : G 61 [some (.ref t0), none, some (.int a2), none, some (.int a4), some (.int a5)] [.int z1, .int z0] u := by
  unfold w_X7_signOf_c61 at h
  refine gg_isub hG dX7_signOf_61 ?_
  refine gg_ni (fun v14 e14 => ?_)
  replace h := h v14 e14
  refine gg_istore_n (L1 := [some (.ref t0), none, some (.int a2), some (.int v14), some (.int a4), some (.int a5)]) hG dX7_signOf_62 rfl (by decide) rfl ?_
  refine gg_iload hG dX7_signOf_63 rfl ?_
  refine gg_aload_n hG dX7_signOf_65 rfl rfl ?_
  refine gg_get (v := .int (u.1 t0 6)) hG dX7_signOf_66 (gg_kd_lt kt0 (by decide)) kt0 fl_RX7_36 (gg_fvI kt0 rfl) ?_
  refine gg_iconst (v := 1) hG dX7_signOf_69 (by decide) ?_
  refine gg_iand hG dX7_signOf_70 ?_
  refine gg_if_eq (tgt := 78) hG dX7_signOf_71 (by decide) (fun c15 => ?_) (fun c15 => ?_)
  · replace h := h.1 c15
    refine gg_iconst (v := 0) hG dX7_signOf_78 (by decide) ?_
    refine gg_mk hG [true, false, true, true, false, true] rfl ?_
    exact m_X7_signOf_c79 hG kt0 h
  · replace h := h.2 c15
    refine gg_iconst (v := 4) hG dX7_signOf_74 (by decide) ?_
    refine gg_goto (tgt := 79) hG dX7_signOf_75 (by decide) ?_
    refine gg_mk hG [true, false, true, true, false, true] rfl ?_
    exact m_X7_signOf_c79 hG kt0 h
def w_X7_signOf (t0 : Nat) (a2 : Int32) (u : gg_M)  (Q : Int32 → gg_M → Prop) : Prop :=
  ∀ v16 : Int32, v16 = (((u.1 7 1) + ((u.1 t0 0) / 8)) - ((u.1 t0 3) / 3)) →
  ∀ v17 : Int32, v17 = ((u.1 7 0) + ((u.1 t0 4) / 6)) →
  ∀ v18 : Int32, v18 = (u.1 7 2) →
  (((u.1 t0 6) &&& 2) = 0 →
   w_X7_signOf_c61 t0 a2 v17 v18 v16 0 u Q) ∧
  (¬ ((u.1 t0 6) &&& 2) = 0 →
   w_X7_signOf_c61 t0 a2 v17 v18 v16 5 u Q)
set_option maxRecDepth 10000 in
theorem m_X7_signOf {t0 : Nat} {a2 : Int32} {u : gg_M}  {G : gg_T} {Q : Int32 → gg_M → Prop} (hG : gg_Cl none cX7_signOf 6 RX7 (some .int) 1 (gg_eI Q) G) (kt0 : gg_kd t0 = 7) (h : w_X7_signOf t0 a2 u  Q)   : G 0 [some (.ref t0), some (.ref 6), some (.int a2), none, none, none] [] u := by
  unfold w_X7_signOf at h
  refine gg_aload_n hG dX7_signOf_0 rfl rfl ?_
  refine gg_get (v := .ref 7) hG dX7_signOf_1 (by decide) rfl fl_RX7_9 rfl ?_
  refine gg_iconst (v := 1) hG dX7_signOf_4 (by decide) ?_
  refine gg_iald (j := 1) hG dX7_signOf_5 (by decide) rfl (gg_vin (by decide +kernel)) (by decide) ?_
  refine gg_aload_n hG dX7_signOf_6 rfl rfl ?_
  refine gg_get (v := .int (u.1 t0 0)) hG dX7_signOf_7 (gg_kd_lt kt0 (by decide)) kt0 fl_RX7_15 (gg_fvI kt0 rfl) ?_
  refine gg_bipush (v := 8) hG dX7_signOf_10 (by decide) ?_
  refine gg_idiv hG dX7_signOf_12 (by decide) ?_
  refine gg_iadd hG dX7_signOf_13 ?_
  refine gg_aload_n hG dX7_signOf_14 rfl rfl ?_
  refine gg_get (v := .int (u.1 t0 3)) hG dX7_signOf_15 (gg_kd_lt kt0 (by decide)) kt0 fl_RX7_27 (gg_fvI kt0 rfl) ?_
  refine gg_iconst (v := 3) hG dX7_signOf_18 (by decide) ?_
  refine gg_idiv hG dX7_signOf_19 (by decide) ?_
  refine gg_isub hG dX7_signOf_20 ?_
  refine gg_ni (fun v16 e16 => ?_)
  replace h := h v16 e16
  refine gg_istore_n (L1 := [some (.ref t0), some (.ref 6), some (.int a2), some (.int v16), none, none]) hG dX7_signOf_21 rfl (by decide) rfl ?_
  refine gg_aload_n hG dX7_signOf_22 rfl rfl ?_
  refine gg_get (v := .ref 7) hG dX7_signOf_23 (by decide) rfl fl_RX7_9 rfl ?_
  refine gg_iconst (v := 0) hG dX7_signOf_26 (by decide) ?_
  refine gg_iald (j := 0) hG dX7_signOf_27 (by decide) rfl (gg_vin (by decide +kernel)) (by decide) ?_
  refine gg_aload_n hG dX7_signOf_28 rfl rfl ?_
  refine gg_get (v := .int (u.1 t0 4)) hG dX7_signOf_29 (gg_kd_lt kt0 (by decide)) kt0 fl_RX7_30 (gg_fvI kt0 rfl) ?_
  refine gg_bipush (v := 6) hG dX7_signOf_32 (by decide) ?_
  refine gg_idiv hG dX7_signOf_34 (by decide) ?_
  refine gg_iadd hG dX7_signOf_35 ?_
  refine gg_ni (fun v17 e17 => ?_)
  replace h := h v17 e17
  refine gg_istore (L1 := [some (.ref t0), some (.ref 6), some (.int a2), some (.int v16), some (.int v17), none]) hG dX7_signOf_36 (by decide) rfl ?_
  refine gg_aload_n hG dX7_signOf_38 rfl rfl ?_
  refine gg_get (v := .ref 7) hG dX7_signOf_39 (by decide) rfl fl_RX7_9 rfl ?_
  refine gg_iconst (v := 2) hG dX7_signOf_42 (by decide) ?_
  refine gg_iald (j := 2) hG dX7_signOf_43 (by decide) rfl (gg_vin (by decide +kernel)) (by decide) ?_
  refine gg_ni (fun v18 e18 => ?_)
  replace h := h v18 e18
  refine gg_istore (L1 := [some (.ref t0), some (.ref 6), some (.int a2), some (.int v16), some (.int v17), some (.int v18)]) hG dX7_signOf_44 (by decide) rfl ?_
  refine gg_iload_n hG dX7_signOf_46 rfl rfl ?_
  refine gg_aload_n hG dX7_signOf_47 rfl rfl ?_
  refine gg_get (v := .int (u.1 t0 6)) hG dX7_signOf_48 (gg_kd_lt kt0 (by decide)) kt0 fl_RX7_36 (gg_fvI kt0 rfl) ?_
  refine gg_iconst (v := 2) hG dX7_signOf_51 (by decide) ?_
  refine gg_iand hG dX7_signOf_52 ?_
  refine gg_if_eq (tgt := 60) hG dX7_signOf_53 (by decide) (fun c19 => ?_) (fun c19 => ?_)
  · replace h := h.1 c19
    refine gg_iconst (v := 0) hG dX7_signOf_60 (by decide) ?_
    refine gg_mk hG [true, false, true, false, true, true] rfl ?_
    exact m_X7_signOf_c61 hG kt0 h
  · replace h := h.2 c19
    refine gg_iconst (v := 5) hG dX7_signOf_56 (by decide) ?_
    refine gg_goto (tgt := 61) hG dX7_signOf_57 (by decide) ?_
    refine gg_mk hG [true, false, true, false, true, true] rfl ?_
    exact m_X7_signOf_c61 hG kt0 h
theorem mt_X7_signOf {t0 : Nat} {a2 : Int32} (kt0 : gg_kd t0 = 7) {u : gg_M} {Q : Int32 → gg_M → Prop} (h : w_X7_signOf t0 a2 u Q) : gg_Mt 1 yX7_signOf cX7_signOf 6 (some .int) [.ref t0, .ref 6, .int a2] u (gg_eI Q) :=
  gg_intro (own := RX7) (by decide +kernel) rfl rfl (Nat.le_of_ble_eq_true rfl) (fun G hG => m_X7_signOf hG kt0 h)
/-! X7_turn -/
def w_X7_turn_c185 (a9 : Int32) (r0 : Nat) (z1 : Int32) (z2 : Int32) (z3 : Int32) (u : gg_M)  (Q : Int32 → gg_M → Prop) : Prop :=
  w_J9_min_7cf53 z1 (z2 + z3) u (fun v2 u1 =>
  ∀ u3 : gg_M, u3 = gg_wI u1 r0 4 v2 →
  Q a9 u3)
set_option maxRecDepth 10000 in
theorem m_X7_turn_c185 {a9 : Int32} {r0 : Nat} {z1 : Int32} {z2 : Int32} {z3 : Int32} {u : gg_M}  {G : gg_T} {Q : Int32 → gg_M → Prop} (hG : gg_Cl none cX7_turn 10 RX7 (some .int) 2 (gg_eI Q) G) (kr0 : gg_kd r0 = 7) (h : w_X7_turn_c185 a9 r0 z1 z2 z3 u  Q)   : G 185 [none, none, none, none, none, none, none, none, none, some (.int a9)] [.int z3, .int z2, .int z1, .ref r0] u := by
  unfold w_X7_turn_c185 at h
  refine gg_iadd hG dX7_turn_185 ?_
  refine gg_xs (As := [.int z1, .int (z2 + z3)]) (st := [.ref r0]) hG dX7_turn_186 ml_RX7_70 Y_J9_min_7cf53 YS_J9_min_7cf53 (mt_J9_min_7cf53 h) rfl (by decide) (Nat.le_of_ble_eq_true rfl) rfl (gg_ki (fun v2 u1 h => ?_))
  refine gg_putI hG dX7_turn_189 (gg_kd_lt kr0 (by decide)) kr0 fp_RX7_30 rfl rfl rfl ?_
  refine gg_nu (fun u3 eu3 => ?_)
  replace h := h u3 eu3
  refine gg_iload hG dX7_turn_192 rfl ?_
  exact gg_iret hG dX7_turn_194 rfl rfl ⟨_, rfl, h⟩
def w_X7_turn_c64 (t0 : Nat) (z0 : Int32) (u : gg_M)  (Q : Int32 → gg_M → Prop) : Prop :=
  ∀ v4 : Int32, v4 = ((z0 * (u.1 7 4)) / 10) →
  ∀ v5 : Int32, v5 = ((u.1 t0 2) / 4) →
  ∀ v6 : Int32, v6 = (((z0 + v5) + (u.1 t0 5)) - v4) →
  ∀ u7 : gg_M, u7 = gg_wI u t0 2 ((u.1 t0 2) + (v4 - v5)) →
  ∀ u8 : gg_M, u8 = gg_wI u7 t0 5 0 →
  w_X7_signOf t0 v6 u8 (fun v10 u9 =>
  (¬ v10 = 2 →
   w_J9_max_7cf53 0 (v6 - 9) u9 (fun v13 u12 =>
   w_J9_min_7cf53 99 ((u9.1 t0 3) + v13) u12 (fun v15 u14 =>
   ∀ u16 : gg_M, u16 = gg_wI u14 t0 3 v15 →
   (¬ v10 = 0 →
    w_X7_turn_c185 v10 t0 20 (u16.1 t0 4) 2 u16 Q) ∧
   (v10 = 0 →
    w_X7_turn_c185 v10 t0 20 (u16.1 t0 4) 1 u16 Q)))) ∧
  (v10 = 2 →
   ∀ u18 : gg_M, u18 = gg_wI u9 t0 7 1 →
   Q v10 u18))
set_option maxRecDepth 10000 in
theorem m_X7_turn_c64 {t0 : Nat} {z0 : Int32} {u : gg_M}  {G : gg_T} {Q : Int32 → gg_M → Prop} (hG : gg_Cl none cX7_turn 10 RX7 (some .int) 2 (gg_eI Q) G) (kt0 : gg_kd t0 = 7) (h : w_X7_turn_c64 t0 z0 u  Q)   : G 64 [some (.ref t0), some (.ref 6), none, none, none, none, none, none, none, none] [.int z0] u := by
  unfold w_X7_turn_c64 at h
  refine gg_istore (L1 := [some (.ref t0), some (.ref 6), none, none, none, some (.int z0), none, none, none, none]) hG dX7_turn_64 (by decide) rfl ?_
  refine gg_iload hG dX7_turn_66 rfl ?_
  refine gg_aload_n hG dX7_turn_68 rfl rfl ?_
  refine gg_get (v := .ref 7) hG dX7_turn_69 (by decide) rfl fl_RX7_9 rfl ?_
  refine gg_iconst (v := 4) hG dX7_turn_72 (by decide) ?_
  refine gg_iald (j := 4) hG dX7_turn_73 (by decide) rfl (gg_vin (by decide +kernel)) (by decide) ?_
  refine gg_imul hG dX7_turn_74 ?_
  refine gg_bipush (v := 10) hG dX7_turn_75 (by decide) ?_
  refine gg_idiv hG dX7_turn_77 (by decide) ?_
  refine gg_ni (fun v4 e4 => ?_)
  replace h := h v4 e4
  refine gg_istore (L1 := [some (.ref t0), some (.ref 6), none, none, none, some (.int z0), some (.int v4), none, none, none]) hG dX7_turn_78 (by decide) rfl ?_
  refine gg_aload_n hG dX7_turn_80 rfl rfl ?_
  refine gg_get (v := .int (u.1 t0 2)) hG dX7_turn_81 (gg_kd_lt kt0 (by decide)) kt0 fl_RX7_24 (gg_fvI kt0 rfl) ?_
  refine gg_iconst (v := 4) hG dX7_turn_84 (by decide) ?_
  refine gg_idiv hG dX7_turn_85 (by decide) ?_
  refine gg_ni (fun v5 e5 => ?_)
  replace h := h v5 e5
  refine gg_istore (L1 := [some (.ref t0), some (.ref 6), none, none, none, some (.int z0), some (.int v4), some (.int v5), none, none]) hG dX7_turn_86 (by decide) rfl ?_
  refine gg_iload hG dX7_turn_88 rfl ?_
  refine gg_iload hG dX7_turn_90 rfl ?_
  refine gg_iadd hG dX7_turn_92 ?_
  refine gg_aload_n hG dX7_turn_93 rfl rfl ?_
  refine gg_get (v := .int (u.1 t0 5)) hG dX7_turn_94 (gg_kd_lt kt0 (by decide)) kt0 fl_RX7_33 (gg_fvI kt0 rfl) ?_
  refine gg_iadd hG dX7_turn_97 ?_
  refine gg_iload hG dX7_turn_98 rfl ?_
  refine gg_isub hG dX7_turn_100 ?_
  refine gg_ni (fun v6 e6 => ?_)
  replace h := h v6 e6
  refine gg_istore (L1 := [some (.ref t0), some (.ref 6), none, none, none, some (.int z0), some (.int v4), some (.int v5), some (.int v6), none]) hG dX7_turn_101 (by decide) rfl ?_
  refine gg_aload_n hG dX7_turn_103 rfl rfl ?_
  refine gg_dup hG dX7_turn_104 rfl ?_
  refine gg_get (v := .int (u.1 t0 2)) hG dX7_turn_105 (gg_kd_lt kt0 (by decide)) kt0 fl_RX7_24 (gg_fvI kt0 rfl) ?_
  refine gg_iload hG dX7_turn_108 rfl ?_
  refine gg_iload hG dX7_turn_110 rfl ?_
  refine gg_isub hG dX7_turn_112 ?_
  refine gg_iadd hG dX7_turn_113 ?_
  refine gg_putI hG dX7_turn_114 (gg_kd_lt kt0 (by decide)) kt0 fp_RX7_24 rfl rfl rfl ?_
  refine gg_nu (fun u7 eu7 => ?_)
  replace h := h u7 eu7
  refine gg_aload_n hG dX7_turn_117 rfl rfl ?_
  refine gg_iconst (v := 0) hG dX7_turn_118 (by decide) ?_
  refine gg_putI hG dX7_turn_119 (gg_kd_lt kt0 (by decide)) kt0 fp_RX7_33 rfl rfl rfl ?_
  refine gg_nu (fun u8 eu8 => ?_)
  replace h := h u8 eu8
  refine gg_aload_n hG dX7_turn_122 rfl rfl ?_
  refine gg_aload_n hG dX7_turn_123 rfl rfl ?_
  refine gg_iload hG dX7_turn_124 rfl ?_
  refine gg_xv (As := [.ref 6, .int v6]) (st := []) hG dX7_turn_126 ml_RX7_61 Y_X7_signOf YV_X7_signOf (gg_kd_lt kt0 (by decide)) (gg_rcv kt0 rfl) (mt_X7_signOf kt0 h) rfl (by decide) (Nat.le_of_ble_eq_true rfl) rfl (gg_ki (fun v10 u9 h => ?_))
  refine gg_istore (L1 := [some (.ref t0), some (.ref 6), none, none, none, some (.int z0), some (.int v4), some (.int v5), some (.int v6), some (.int v10)]) hG dX7_turn_129 (by decide) rfl ?_
  refine gg_iload hG dX7_turn_131 rfl ?_
  refine gg_iconst (v := 2) hG dX7_turn_133 (by decide) ?_
  refine gg_ic_ne (tgt := 145) hG dX7_turn_134 (by decide) (fun c11 => ?_) (fun c11 => ?_)
  · replace h := h.1 c11
    refine gg_aload_n hG dX7_turn_145 rfl rfl ?_
    refine gg_bipush (v := 99) hG dX7_turn_146 (by decide) ?_
    refine gg_aload_n hG dX7_turn_148 rfl rfl ?_
    refine gg_get (v := .int (u9.1 t0 3)) hG dX7_turn_149 (gg_kd_lt kt0 (by decide)) kt0 fl_RX7_27 (gg_fvI kt0 rfl) ?_
    refine gg_iconst (v := 0) hG dX7_turn_152 (by decide) ?_
    refine gg_iload hG dX7_turn_153 rfl ?_
    refine gg_bipush (v := 9) hG dX7_turn_155 (by decide) ?_
    refine gg_isub hG dX7_turn_157 ?_
    refine gg_xs (As := [.int 0, .int (v6 - 9)]) (st := [.int (u9.1 t0 3), .int 99, .ref t0]) hG dX7_turn_158 ml_RX7_64 Y_J9_max_7cf53 YS_J9_max_7cf53 (mt_J9_max_7cf53 h) rfl (by decide) (Nat.le_of_ble_eq_true rfl) rfl (gg_ki (fun v13 u12 h => ?_))
    refine gg_iadd hG dX7_turn_161 ?_
    refine gg_xs (As := [.int 99, .int ((u9.1 t0 3) + v13)]) (st := [.ref t0]) hG dX7_turn_162 ml_RX7_70 Y_J9_min_7cf53 YS_J9_min_7cf53 (mt_J9_min_7cf53 h) rfl (by decide) (Nat.le_of_ble_eq_true rfl) rfl (gg_ki (fun v15 u14 h => ?_))
    refine gg_putI hG dX7_turn_165 (gg_kd_lt kt0 (by decide)) kt0 fp_RX7_27 rfl rfl rfl ?_
    refine gg_nu (fun u16 eu16 => ?_)
    replace h := h u16 eu16
    refine gg_aload_n hG dX7_turn_168 rfl rfl ?_
    refine gg_bipush (v := 20) hG dX7_turn_169 (by decide) ?_
    refine gg_aload_n hG dX7_turn_171 rfl rfl ?_
    refine gg_get (v := .int (u16.1 t0 4)) hG dX7_turn_172 (gg_kd_lt kt0 (by decide)) kt0 fl_RX7_30 (gg_fvI kt0 rfl) ?_
    refine gg_iload hG dX7_turn_175 rfl ?_
    refine gg_if_ne (tgt := 184) hG dX7_turn_177 (by decide) (fun c17 => ?_) (fun c17 => ?_)
    · replace h := h.1 c17
      refine gg_iconst (v := 2) hG dX7_turn_184 (by decide) ?_
      refine gg_mk hG [false, false, false, false, false, false, false, false, false, true] rfl ?_
      exact m_X7_turn_c185 hG kt0 h
    · replace h := h.2 c17
      refine gg_iconst (v := 1) hG dX7_turn_180 (by decide) ?_
      refine gg_goto (tgt := 185) hG dX7_turn_181 (by decide) ?_
      refine gg_mk hG [false, false, false, false, false, false, false, false, false, true] rfl ?_
      exact m_X7_turn_c185 hG kt0 h
  · replace h := h.2 c11
    refine gg_aload_n hG dX7_turn_137 rfl rfl ?_
    refine gg_iconst (v := 1) hG dX7_turn_138 (by decide) ?_
    refine gg_putI hG dX7_turn_139 (gg_kd_lt kt0 (by decide)) kt0 fp_RX7_39 rfl (gg_nb (Or.inr rfl)).1 (gg_nb (Or.inr rfl)).2 ?_
    refine gg_nu (fun u18 eu18 => ?_)
    replace h := h u18 eu18
    refine gg_iload hG dX7_turn_142 rfl ?_
    exact gg_iret hG dX7_turn_144 rfl rfl ⟨_, rfl, h⟩
def w_X7_turn_c50 (t0 : Nat) (u : gg_M)  (Q : Int32 → gg_M → Prop) : Prop :=
  w_X7_turn_c64 t0 0 u Q
set_option maxRecDepth 10000 in
theorem m_X7_turn_c50 {t0 : Nat} {u : gg_M}  {G : gg_T} {Q : Int32 → gg_M → Prop} (hG : gg_Cl none cX7_turn 10 RX7 (some .int) 2 (gg_eI Q) G) (kt0 : gg_kd t0 = 7) (h : w_X7_turn_c50 t0 u  Q)   : G 50 [some (.ref t0), some (.ref 6), none, none, none, none, none, none, none, none] [] u := by
  unfold w_X7_turn_c50 at h
  refine gg_iconst (v := 0) hG dX7_turn_50 (by decide) ?_
  refine gg_goto (tgt := 64) hG dX7_turn_51 (by decide) ?_
  exact m_X7_turn_c64 hG kt0 h
def w_X7_turn_c39 (t0 : Nat) (a2 : Int32) (a3 : Int32) (z0 : Int32) (u : gg_M)  (Q : Int32 → gg_M → Prop) : Prop :=
  (¬ a3 = 0 →
   w_X7_turn_c50 t0 u Q) ∧
  (a3 = 0 →
   (z0 = 0 →
    w_X7_turn_c64 t0 ((u.1 7 3) + ((2 : Int32) * a2)) u Q) ∧
   (¬ z0 = 0 →
    w_X7_turn_c50 t0 u Q))
set_option maxRecDepth 10000 in
theorem m_X7_turn_c39 {t0 : Nat} {a2 : Int32} {a3 : Int32} {z0 : Int32} {u : gg_M}  {G : gg_T} {Q : Int32 → gg_M → Prop} (hG : gg_Cl none cX7_turn 10 RX7 (some .int) 2 (gg_eI Q) G) (kt0 : gg_kd t0 = 7) (h : w_X7_turn_c39 t0 a2 a3 z0 u  Q)   : G 39 [some (.ref t0), some (.ref 6), some (.int a2), some (.int a3), none, none, none, none, none, none] [.int z0] u := by
  unfold w_X7_turn_c39 at h
  refine gg_istore (L1 := [some (.ref t0), some (.ref 6), some (.int a2), some (.int a3), some (.int z0), none, none, none, none, none]) hG dX7_turn_39 (by decide) rfl ?_
  refine gg_iload_n hG dX7_turn_41 rfl rfl ?_
  refine gg_if_ne (tgt := 50) hG dX7_turn_42 (by decide) (fun c19 => ?_) (fun c19 => ?_)
  · replace h := h.1 c19
    refine gg_mk hG [true, true, false, false, false, false, false, false, false, false] rfl ?_
    exact m_X7_turn_c50 hG kt0 h
  · replace h := h.2 c19
    refine gg_iload hG dX7_turn_45 rfl ?_
    refine gg_if_eq (tgt := 54) hG dX7_turn_47 (by decide) (fun c20 => ?_) (fun c20 => ?_)
    · replace h := h.1 c20
      refine gg_aload_n hG dX7_turn_54 rfl rfl ?_
      refine gg_get (v := .ref 7) hG dX7_turn_55 (by decide) rfl fl_RX7_9 rfl ?_
      refine gg_iconst (v := 3) hG dX7_turn_58 (by decide) ?_
      refine gg_iald (j := 3) hG dX7_turn_59 (by decide) rfl (gg_vin (by decide +kernel)) (by decide) ?_
      refine gg_iconst (v := 2) hG dX7_turn_60 (by decide) ?_
      refine gg_iload_n hG dX7_turn_61 rfl rfl ?_
      refine gg_imul hG dX7_turn_62 ?_
      refine gg_iadd hG dX7_turn_63 ?_
      refine gg_mk hG [true, true, false, false, false, false, false, false, false, false] rfl ?_
      exact m_X7_turn_c64 hG kt0 h
    · replace h := h.2 c20
      refine gg_mk hG [true, true, false, false, false, false, false, false, false, false] rfl ?_
      exact m_X7_turn_c50 hG kt0 h
def w_X7_turn_c38 (t0 : Nat) (a2 : Int32) (a3 : Int32) (u : gg_M)  (Q : Int32 → gg_M → Prop) : Prop :=
  w_X7_turn_c39 t0 a2 a3 0 u Q
set_option maxRecDepth 10000 in
theorem m_X7_turn_c38 {t0 : Nat} {a2 : Int32} {a3 : Int32} {u : gg_M}  {G : gg_T} {Q : Int32 → gg_M → Prop} (hG : gg_Cl none cX7_turn 10 RX7 (some .int) 2 (gg_eI Q) G) (kt0 : gg_kd t0 = 7) (h : w_X7_turn_c38 t0 a2 a3 u  Q)   : G 38 [some (.ref t0), some (.ref 6), some (.int a2), some (.int a3), none, none, none, none, none, none] [] u := by
  unfold w_X7_turn_c38 at h
  refine gg_iconst (v := 0) hG dX7_turn_38 (by decide) ?_
  exact m_X7_turn_c39 hG kt0 h
def w_X7_turn_c14 (t0 : Nat) (a2 : Int32) (z0 : Int32) (u : gg_M)  (Q : Int32 → gg_M → Prop) : Prop :=
  (((u.1 t0 6) &&& 16) = 0 →
   w_X7_turn_c38 t0 a2 z0 u Q) ∧
  (¬ ((u.1 t0 6) &&& 16) = 0 →
   (6 ≤ (u.1 t0 4) →
    w_X7_turn_c38 t0 a2 z0 u Q) ∧
   (¬ 6 ≤ (u.1 t0 4) →
    w_X7_turn_c39 t0 a2 z0 1 u Q))
set_option maxRecDepth 10000 in
theorem m_X7_turn_c14 {t0 : Nat} {a2 : Int32} {z0 : Int32} {u : gg_M}  {G : gg_T} {Q : Int32 → gg_M → Prop} (hG : gg_Cl none cX7_turn 10 RX7 (some .int) 2 (gg_eI Q) G) (kt0 : gg_kd t0 = 7) (h : w_X7_turn_c14 t0 a2 z0 u  Q)   : G 14 [some (.ref t0), some (.ref 6), some (.int a2), none, none, none, none, none, none, none] [.int z0] u := by
  unfold w_X7_turn_c14 at h
  refine gg_istore_n (L1 := [some (.ref t0), some (.ref 6), some (.int a2), some (.int z0), none, none, none, none, none, none]) hG dX7_turn_14 rfl (by decide) rfl ?_
  refine gg_aload_n hG dX7_turn_15 rfl rfl ?_
  refine gg_get (v := .int (u.1 t0 6)) hG dX7_turn_16 (gg_kd_lt kt0 (by decide)) kt0 fl_RX7_36 (gg_fvI kt0 rfl) ?_
  refine gg_bipush (v := 16) hG dX7_turn_19 (by decide) ?_
  refine gg_iand hG dX7_turn_21 ?_
  refine gg_if_eq (tgt := 38) hG dX7_turn_22 (by decide) (fun c21 => ?_) (fun c21 => ?_)
  · replace h := h.1 c21
    exact m_X7_turn_c38 hG kt0 h
  · replace h := h.2 c21
    refine gg_aload_n hG dX7_turn_25 rfl rfl ?_
    refine gg_get (v := .int (u.1 t0 4)) hG dX7_turn_26 (gg_kd_lt kt0 (by decide)) kt0 fl_RX7_30 (gg_fvI kt0 rfl) ?_
    refine gg_bipush (v := 6) hG dX7_turn_29 (by decide) ?_
    refine gg_ic_ge (tgt := 38) hG dX7_turn_31 (by decide) (fun c22 => ?_) (fun c22 => ?_)
    · replace h := h.1 c22
      exact m_X7_turn_c38 hG kt0 h
    · replace h := h.2 c22
      refine gg_iconst (v := 1) hG dX7_turn_34 (by decide) ?_
      refine gg_goto (tgt := 39) hG dX7_turn_35 (by decide) ?_
      exact m_X7_turn_c39 hG kt0 h
def w_X7_turn (t0 : Nat) (a2 : Int32) (u : gg_M)  (Q : Int32 → gg_M → Prop) : Prop :=
  (((u.1 t0 6) &&& 4) = 0 →
   w_X7_turn_c14 t0 a2 0 u Q) ∧
  (¬ ((u.1 t0 6) &&& 4) = 0 →
   w_X7_turn_c14 t0 a2 1 u Q)
set_option maxRecDepth 10000 in
theorem m_X7_turn {t0 : Nat} {a2 : Int32} {u : gg_M}  {G : gg_T} {Q : Int32 → gg_M → Prop} (hG : gg_Cl none cX7_turn 10 RX7 (some .int) 2 (gg_eI Q) G) (kt0 : gg_kd t0 = 7) (h : w_X7_turn t0 a2 u  Q)   : G 0 [some (.ref t0), some (.ref 6), some (.int a2), none, none, none, none, none, none, none] [] u := by
  unfold w_X7_turn at h
  refine gg_aload_n hG dX7_turn_0 rfl rfl ?_
  refine gg_get (v := .int (u.1 t0 6)) hG dX7_turn_1 (gg_kd_lt kt0 (by decide)) kt0 fl_RX7_36 (gg_fvI kt0 rfl) ?_
  refine gg_iconst (v := 4) hG dX7_turn_4 (by decide) ?_
  refine gg_iand hG dX7_turn_5 ?_
  refine gg_if_eq (tgt := 13) hG dX7_turn_6 (by decide) (fun c23 => ?_) (fun c23 => ?_)
  · replace h := h.1 c23
    refine gg_iconst (v := 0) hG dX7_turn_13 (by decide) ?_
    exact m_X7_turn_c14 hG kt0 h
  · replace h := h.2 c23
    refine gg_iconst (v := 1) hG dX7_turn_9 (by decide) ?_
    refine gg_goto (tgt := 14) hG dX7_turn_10 (by decide) ?_
    exact m_X7_turn_c14 hG kt0 h
theorem mt_X7_turn {t0 : Nat} {a2 : Int32} (kt0 : gg_kd t0 = 7) {u : gg_M} {Q : Int32 → gg_M → Prop} (h : w_X7_turn t0 a2 u Q) : gg_Mt 2 yX7_turn cX7_turn 10 (some .int) [.ref t0, .ref 6, .int a2] u (gg_eI Q) :=
  gg_intro (own := RX7) (by decide +kernel) rfl rfl (Nat.le_of_ble_eq_true rfl) (fun G hG => m_X7_turn hG kt0 h)
/-! X7_does -/
def w_X7_does_c104 (z0 : Int32) (u : gg_M)  (Q : Int32 → gg_M → Prop) : Prop :=
  Q z0 u
set_option maxRecDepth 10000 in
theorem m_X7_does_c104 {z0 : Int32} {u : gg_M}  {G : gg_T} {Q : Int32 → gg_M → Prop} (hG : gg_Cl none cX7_does 4 RX7 (some .int) 3 (gg_eI Q) G)  (h : w_X7_does_c104 z0 u  Q)   : G 104 [none, none, none, none] [.int z0] u := by
  unfold w_X7_does_c104 at h
  exact gg_iret hG dX7_does_104 rfl rfl ⟨_, rfl, h⟩
def w_X7_does_c58  (u : gg_M)  (Q : Int32 → gg_M → Prop) : Prop :=
  Q 4 u
set_option maxRecDepth 10000 in
theorem m_X7_does_c58  {u : gg_M}  {G : gg_T} {Q : Int32 → gg_M → Prop} (hG : gg_Cl none cX7_does 4 RX7 (some .int) 3 (gg_eI Q) G)  (h : w_X7_does_c58  u  Q)   : G 58 [none, none, none, none] [] u := by
  unfold w_X7_does_c58 at h
  refine gg_iconst (v := 4) hG dX7_does_58 (by decide) ?_
  exact gg_iret hG dX7_does_59 rfl rfl ⟨_, rfl, h⟩
def w_X7_does_c37 (t0 : Nat) (a2 : Int32) (z0 : Int32) (u : gg_M)  (Q : Int32 → gg_M → Prop) : Prop :=
  ((u.1 t0 0) < z0 →
   w_X7_does_c58 u Q) ∧
  (¬ (u.1 t0 0) < z0 →
   vp_in a2 10 ∧
   ((gg_sv 4 a2.toNatClampNeg) ≤ (u.1 t0 1) →
    ∀ u4 : gg_M, u4 = gg_wI u t0 0 ((u.1 t0 0) - z0) →
    vp_in a2 10 ∧
    ∀ u6 : gg_M, u6 = gg_wI u4 t0 1 ((u4.1 t0 1) - (gg_sv 4 a2.toNatClampNeg)) →
    (4 ≤ a2 →
     w_X7_tend t0 a2 u6 (fun v9 u8 =>
     w_X7_does_c104 v9 u8 Q)) ∧
    (¬ 4 ≤ a2 →
     w_X7_turn t0 a2 u6 (fun v11 u10 =>
     w_X7_does_c104 v11 u10 Q))) ∧
   (¬ (gg_sv 4 a2.toNatClampNeg) ≤ (u.1 t0 1) →
    w_X7_does_c58 u Q))
set_option maxRecDepth 10000 in
theorem m_X7_does_c37 {t0 : Nat} {a2 : Int32} {z0 : Int32} {u : gg_M}  {G : gg_T} {Q : Int32 → gg_M → Prop} (hG : gg_Cl none cX7_does 4 RX7 (some .int) 3 (gg_eI Q) G) (kt0 : gg_kd t0 = 7) (h : w_X7_does_c37 t0 a2 z0 u  Q)   : G 37 [some (.ref t0), some (.ref 6), some (.int a2), none] [.int z0] u := by
  unfold w_X7_does_c37 at h
  refine gg_istore_n (L1 := [some (.ref t0), some (.ref 6), some (.int a2), some (.int z0)]) hG dX7_does_37 rfl (by decide) rfl ?_
  refine gg_aload_n hG dX7_does_38 rfl rfl ?_
  refine gg_get (v := .int (u.1 t0 0)) hG dX7_does_39 (gg_kd_lt kt0 (by decide)) kt0 fl_RX7_15 (gg_fvI kt0 rfl) ?_
  refine gg_iload_n hG dX7_does_42 rfl rfl ?_
  refine gg_ic_lt (tgt := 58) hG dX7_does_43 (by decide) (fun c1 => ?_) (fun c1 => ?_)
  · replace h := h.1 c1
    refine gg_mk hG [false, false, false, false] rfl ?_
    exact m_X7_does_c58 hG h
  · replace h := h.2 c1
    refine gg_aload_n hG dX7_does_46 rfl rfl ?_
    refine gg_get (v := .int (u.1 t0 1)) hG dX7_does_47 (gg_kd_lt kt0 (by decide)) kt0 fl_RX7_21 (gg_fvI kt0 rfl) ?_
    refine gg_gets (k0 := 4) hG dX7_does_50 (by decide) fs_RX7_51 ?_
    refine gg_iload_n hG dX7_does_53 rfl rfl ?_
    obtain ⟨h2, h⟩ := h
    refine gg_ti (j := a2.toNatClampNeg) (k0 := 4) hG dX7_does_54 (by decide) rfl h2 rfl ?_
    refine gg_ic_ge (tgt := 60) hG dX7_does_55 (by decide) (fun c3 => ?_) (fun c3 => ?_)
    · replace h := h.1 c3
      refine gg_aload_n hG dX7_does_60 rfl rfl ?_
      refine gg_dup hG dX7_does_61 rfl ?_
      refine gg_get (v := .int (u.1 t0 0)) hG dX7_does_62 (gg_kd_lt kt0 (by decide)) kt0 fl_RX7_15 (gg_fvI kt0 rfl) ?_
      refine gg_iload_n hG dX7_does_65 rfl rfl ?_
      refine gg_isub hG dX7_does_66 ?_
      refine gg_putI hG dX7_does_67 (gg_kd_lt kt0 (by decide)) kt0 fp_RX7_15 rfl rfl rfl ?_
      refine gg_nu (fun u4 eu4 => ?_)
      replace h := h u4 eu4
      refine gg_aload_n hG dX7_does_70 rfl rfl ?_
      refine gg_dup hG dX7_does_71 rfl ?_
      refine gg_get (v := .int (u4.1 t0 1)) hG dX7_does_72 (gg_kd_lt kt0 (by decide)) kt0 fl_RX7_21 (gg_fvI kt0 rfl) ?_
      refine gg_gets (k0 := 4) hG dX7_does_75 (by decide) fs_RX7_51 ?_
      refine gg_iload_n hG dX7_does_78 rfl rfl ?_
      obtain ⟨h5, h⟩ := h
      refine gg_ti (j := a2.toNatClampNeg) (k0 := 4) hG dX7_does_79 (by decide) rfl h5 rfl ?_
      refine gg_isub hG dX7_does_80 ?_
      refine gg_putI hG dX7_does_81 (gg_kd_lt kt0 (by decide)) kt0 fp_RX7_21 rfl rfl rfl ?_
      refine gg_nu (fun u6 eu6 => ?_)
      replace h := h u6 eu6
      refine gg_iload_n hG dX7_does_84 rfl rfl ?_
      refine gg_iconst (v := 4) hG dX7_does_85 (by decide) ?_
      refine gg_ic_ge (tgt := 98) hG dX7_does_86 (by decide) (fun c7 => ?_) (fun c7 => ?_)
      · replace h := h.1 c7
        refine gg_aload_n hG dX7_does_98 rfl rfl ?_
        refine gg_aload_n hG dX7_does_99 rfl rfl ?_
        refine gg_iload_n hG dX7_does_100 rfl rfl ?_
        refine gg_xv (As := [.ref 6, .int a2]) (st := []) hG dX7_does_101 ml_RX7_58 Y_X7_tend YV_X7_tend (gg_kd_lt kt0 (by decide)) (gg_rcv kt0 rfl) (mt_X7_tend kt0 h) rfl (by decide) (Nat.le_of_ble_eq_true rfl) rfl (gg_ki (fun v9 u8 h => ?_))
        refine gg_mk hG [false, false, false, false] rfl ?_
        exact m_X7_does_c104 hG h
      · replace h := h.2 c7
        refine gg_aload_n hG dX7_does_89 rfl rfl ?_
        refine gg_aload_n hG dX7_does_90 rfl rfl ?_
        refine gg_iload_n hG dX7_does_91 rfl rfl ?_
        refine gg_xv (As := [.ref 6, .int a2]) (st := []) hG dX7_does_92 ml_RX7_54 Y_X7_turn YV_X7_turn (gg_kd_lt kt0 (by decide)) (gg_rcv kt0 rfl) (mt_X7_turn kt0 h) rfl (by decide) (Nat.le_of_ble_eq_true rfl) rfl (gg_ki (fun v11 u10 h => ?_))
        refine gg_goto (tgt := 104) hG dX7_does_95 (by decide) ?_
        refine gg_mk hG [false, false, false, false] rfl ?_
        exact m_X7_does_c104 hG h
    · replace h := h.2 c3
      refine gg_mk hG [false, false, false, false] rfl ?_
      exact m_X7_does_c58 hG h
def w_X7_does_c16  (u : gg_M)  (Q : Int32 → gg_M → Prop) : Prop :=
  Q 4 u
set_option maxRecDepth 10000 in
theorem m_X7_does_c16  {u : gg_M}  {G : gg_T} {Q : Int32 → gg_M → Prop} (hG : gg_Cl none cX7_does 4 RX7 (some .int) 3 (gg_eI Q) G)  (h : w_X7_does_c16  u  Q)   : G 16 [none, none, none, none] [] u := by
  unfold w_X7_does_c16 at h
  refine gg_iconst (v := 4) hG dX7_does_16 (by decide) ?_
  exact gg_iret hG dX7_does_17 rfl rfl ⟨_, rfl, h⟩
def w_X7_does (t0 : Nat) (a2 : Int32) (u : gg_M)  (Q : Int32 → gg_M → Prop) : Prop :=
  (¬ (u.1 t0 7) = 0 →
   w_X7_does_c16 u Q) ∧
  ((u.1 t0 7) = 0 →
   w_X10_isBelow a2 10 u (fun v14 u13 =>
   (¬ v14 = 0 →
    (4 ≤ a2 →
     w_X7_does_c37 t0 a2 0 u13 Q) ∧
    (¬ 4 ≤ a2 →
     w_X7_does_c37 t0 a2 ((1 : Int32) + ((u13.1 7 4) / 5)) u13 Q)) ∧
   (v14 = 0 →
    w_X7_does_c16 u13 Q)))
set_option maxRecDepth 10000 in
theorem m_X7_does {t0 : Nat} {a2 : Int32} {u : gg_M}  {G : gg_T} {Q : Int32 → gg_M → Prop} (hG : gg_Cl none cX7_does 4 RX7 (some .int) 3 (gg_eI Q) G) (kt0 : gg_kd t0 = 7) (h : w_X7_does t0 a2 u  Q)   : G 0 [some (.ref t0), some (.ref 6), some (.int a2), none] [] u := by
  unfold w_X7_does at h
  refine gg_aload_n hG dX7_does_0 rfl rfl ?_
  refine gg_get (v := .int (u.1 t0 7)) hG dX7_does_1 (gg_kd_lt kt0 (by decide)) kt0 fl_RX7_39 (gg_fvI kt0 rfl) ?_
  refine gg_if_ne (tgt := 16) hG dX7_does_4 (by decide) (fun c12 => ?_) (fun c12 => ?_)
  · replace h := h.1 c12
    refine gg_mk hG [false, false, false, false] rfl ?_
    exact m_X7_does_c16 hG h
  · replace h := h.2 c12
    refine gg_iload_n hG dX7_does_7 rfl rfl ?_
    refine gg_bipush (v := 10) hG dX7_does_8 (by decide) ?_
    refine gg_xsN (As := [.int a2, .int 10]) (st := []) hG dX7_does_10 ml_RX7_47 Y_X10_isBelow YS_X10_isBelow (mt_X10_isBelow h) rfl (by decide) (Nat.le_of_ble_eq_true rfl) rfl (gg_ki (fun v14 u13 h => ?_))
    refine gg_if_ne (tgt := 18) hG dX7_does_13 (by decide) (fun c15 => ?_) (fun c15 => ?_)
    · replace h := h.1 c15
      refine gg_iload_n hG dX7_does_18 rfl rfl ?_
      refine gg_iconst (v := 4) hG dX7_does_19 (by decide) ?_
      refine gg_ic_ge (tgt := 36) hG dX7_does_20 (by decide) (fun c16 => ?_) (fun c16 => ?_)
      · replace h := h.1 c16
        refine gg_iconst (v := 0) hG dX7_does_36 (by decide) ?_
        exact m_X7_does_c37 hG kt0 h
      · replace h := h.2 c16
        refine gg_iconst (v := 1) hG dX7_does_23 (by decide) ?_
        refine gg_aload_n hG dX7_does_24 rfl rfl ?_
        refine gg_get (v := .ref 7) hG dX7_does_25 (by decide) rfl fl_RX7_9 rfl ?_
        refine gg_iconst (v := 4) hG dX7_does_28 (by decide) ?_
        refine gg_iald (j := 4) hG dX7_does_29 (by decide) rfl (gg_vin (by decide +kernel)) (by decide) ?_
        refine gg_iconst (v := 5) hG dX7_does_30 (by decide) ?_
        refine gg_idiv hG dX7_does_31 (by decide) ?_
        refine gg_iadd hG dX7_does_32 ?_
        refine gg_goto (tgt := 37) hG dX7_does_33 (by decide) ?_
        exact m_X7_does_c37 hG kt0 h
    · replace h := h.2 c15
      refine gg_mk hG [false, false, false, false] rfl ?_
      exact m_X7_does_c16 hG h
theorem mt_X7_does {t0 : Nat} {a2 : Int32} (kt0 : gg_kd t0 = 7) {u : gg_M} {Q : Int32 → gg_M → Prop} (h : w_X7_does t0 a2 u Q) : gg_Mt 3 yX7_does cX7_does 4 (some .int) [.ref t0, .ref 6, .int a2] u (gg_eI Q) :=
  gg_intro (own := RX7) (by decide +kernel) rfl rfl (Nat.le_of_ble_eq_true rfl) (fun G hG => m_X7_does hG kt0 h)
/-! X7_pack -/
def w_X7_pack_c12 (t0 : Nat) (z0 : Int64) (u : gg_M)  (Q : Int64 → gg_M → Prop) : Prop :=
  ∀ v1 : Int64, v1 = ((gu_lshl z0 8) ||| (u.1 t0 6).toInt64) →
  ∀ v2 : Int64, v2 = ((gu_lshl v1 8) ||| (u.1 t0 5).toInt64) →
  ∀ v3 : Int64, v3 = ((gu_lshl v2 8) ||| (u.1 t0 4).toInt64) →
  ∀ v4 : Int64, v4 = ((gu_lshl v3 8) ||| (u.1 t0 3).toInt64) →
  ∀ v5 : Int64, v5 = ((gu_lshl v4 8) ||| (u.1 t0 2).toInt64) →
  ∀ v6 : Int64, v6 = ((gu_lshl v5 8) ||| (u.1 t0 1).toInt64) →
  Q ((gu_lshl v6 8) ||| (u.1 t0 0).toInt64) u
set_option maxRecDepth 10000 in
theorem m_X7_pack_c12 {t0 : Nat} {z0 : Int64} {u : gg_M}  {G : gg_T} {Q : Int64 → gg_M → Prop} (hG : gg_Cl none cX7_pack 3 RX7 (some .long) 1 (gg_eJ Q) G) (kt0 : gg_kd t0 = 7) (h : w_X7_pack_c12 t0 z0 u  Q)   : G 12 [some (.ref t0), none, none] [.long z0] u := by
  unfold w_X7_pack_c12 at h
  refine gg_lstore_n (L1 := [some (.ref t0), some (.long z0), none]) hG dX7_pack_12 rfl (by decide) rfl ?_
  refine gg_lload_n hG dX7_pack_13 rfl rfl ?_
  refine gg_bipush (v := 8) hG dX7_pack_14 (by decide) ?_
  refine gg_lshl hG dX7_pack_16 ?_
  refine gg_aload_n hG dX7_pack_17 rfl rfl ?_
  refine gg_get (v := .int (u.1 t0 6)) hG dX7_pack_18 (gg_kd_lt kt0 (by decide)) kt0 fl_RX7_36 (gg_fvI kt0 rfl) ?_
  refine gg_i2l hG dX7_pack_21 ?_
  refine gg_lor hG dX7_pack_22 ?_
  refine gg_nl (fun v1 e1 => ?_)
  replace h := h v1 e1
  refine gg_lstore_n (L1 := [some (.ref t0), some (.long v1), none]) hG dX7_pack_23 rfl (by decide) rfl ?_
  refine gg_lload_n hG dX7_pack_24 rfl rfl ?_
  refine gg_bipush (v := 8) hG dX7_pack_25 (by decide) ?_
  refine gg_lshl hG dX7_pack_27 ?_
  refine gg_aload_n hG dX7_pack_28 rfl rfl ?_
  refine gg_get (v := .int (u.1 t0 5)) hG dX7_pack_29 (gg_kd_lt kt0 (by decide)) kt0 fl_RX7_33 (gg_fvI kt0 rfl) ?_
  refine gg_i2l hG dX7_pack_32 ?_
  refine gg_lor hG dX7_pack_33 ?_
  refine gg_nl (fun v2 e2 => ?_)
  replace h := h v2 e2
  refine gg_lstore_n (L1 := [some (.ref t0), some (.long v2), none]) hG dX7_pack_34 rfl (by decide) rfl ?_
  refine gg_lload_n hG dX7_pack_35 rfl rfl ?_
  refine gg_bipush (v := 8) hG dX7_pack_36 (by decide) ?_
  refine gg_lshl hG dX7_pack_38 ?_
  refine gg_aload_n hG dX7_pack_39 rfl rfl ?_
  refine gg_get (v := .int (u.1 t0 4)) hG dX7_pack_40 (gg_kd_lt kt0 (by decide)) kt0 fl_RX7_30 (gg_fvI kt0 rfl) ?_
  refine gg_i2l hG dX7_pack_43 ?_
  refine gg_lor hG dX7_pack_44 ?_
  refine gg_nl (fun v3 e3 => ?_)
  replace h := h v3 e3
  refine gg_lstore_n (L1 := [some (.ref t0), some (.long v3), none]) hG dX7_pack_45 rfl (by decide) rfl ?_
  refine gg_lload_n hG dX7_pack_46 rfl rfl ?_
  refine gg_bipush (v := 8) hG dX7_pack_47 (by decide) ?_
  refine gg_lshl hG dX7_pack_49 ?_
  refine gg_aload_n hG dX7_pack_50 rfl rfl ?_
  refine gg_get (v := .int (u.1 t0 3)) hG dX7_pack_51 (gg_kd_lt kt0 (by decide)) kt0 fl_RX7_27 (gg_fvI kt0 rfl) ?_
  refine gg_i2l hG dX7_pack_54 ?_
  refine gg_lor hG dX7_pack_55 ?_
  refine gg_nl (fun v4 e4 => ?_)
  replace h := h v4 e4
  refine gg_lstore_n (L1 := [some (.ref t0), some (.long v4), none]) hG dX7_pack_56 rfl (by decide) rfl ?_
  refine gg_lload_n hG dX7_pack_57 rfl rfl ?_
  refine gg_bipush (v := 8) hG dX7_pack_58 (by decide) ?_
  refine gg_lshl hG dX7_pack_60 ?_
  refine gg_aload_n hG dX7_pack_61 rfl rfl ?_
  refine gg_get (v := .int (u.1 t0 2)) hG dX7_pack_62 (gg_kd_lt kt0 (by decide)) kt0 fl_RX7_24 (gg_fvI kt0 rfl) ?_
  refine gg_i2l hG dX7_pack_65 ?_
  refine gg_lor hG dX7_pack_66 ?_
  refine gg_nl (fun v5 e5 => ?_)
  replace h := h v5 e5
  refine gg_lstore_n (L1 := [some (.ref t0), some (.long v5), none]) hG dX7_pack_67 rfl (by decide) rfl ?_
  refine gg_lload_n hG dX7_pack_68 rfl rfl ?_
  refine gg_bipush (v := 8) hG dX7_pack_69 (by decide) ?_
  refine gg_lshl hG dX7_pack_71 ?_
  refine gg_aload_n hG dX7_pack_72 rfl rfl ?_
  refine gg_get (v := .int (u.1 t0 1)) hG dX7_pack_73 (gg_kd_lt kt0 (by decide)) kt0 fl_RX7_21 (gg_fvI kt0 rfl) ?_
  refine gg_i2l hG dX7_pack_76 ?_
  refine gg_lor hG dX7_pack_77 ?_
  refine gg_nl (fun v6 e6 => ?_)
  replace h := h v6 e6
  refine gg_lstore_n (L1 := [some (.ref t0), some (.long v6), none]) hG dX7_pack_78 rfl (by decide) rfl ?_
  refine gg_lload_n hG dX7_pack_79 rfl rfl ?_
  refine gg_bipush (v := 8) hG dX7_pack_80 (by decide) ?_
  refine gg_lshl hG dX7_pack_82 ?_
  refine gg_aload_n hG dX7_pack_83 rfl rfl ?_
  refine gg_get (v := .int (u.1 t0 0)) hG dX7_pack_84 (gg_kd_lt kt0 (by decide)) kt0 fl_RX7_15 (gg_fvI kt0 rfl) ?_
  refine gg_i2l hG dX7_pack_87 ?_
  refine gg_lor hG dX7_pack_88 ?_
  exact gg_lret hG dX7_pack_89 rfl ⟨_, rfl, h⟩
def w_X7_pack (t0 : Nat) (u : gg_M)  (Q : Int64 → gg_M → Prop) : Prop :=
  ((u.1 t0 7) = 0 →
   w_X7_pack_c12 t0 0 u Q) ∧
  (¬ (u.1 t0 7) = 0 →
   w_X7_pack_c12 t0 1 u Q)
set_option maxRecDepth 10000 in
theorem m_X7_pack {t0 : Nat} {u : gg_M}  {G : gg_T} {Q : Int64 → gg_M → Prop} (hG : gg_Cl none cX7_pack 3 RX7 (some .long) 1 (gg_eJ Q) G) (kt0 : gg_kd t0 = 7) (h : w_X7_pack t0 u  Q)   : G 0 [some (.ref t0), none, none] [] u := by
  unfold w_X7_pack at h
  refine gg_aload_n hG dX7_pack_0 rfl rfl ?_
  refine gg_get (v := .int (u.1 t0 7)) hG dX7_pack_1 (gg_kd_lt kt0 (by decide)) kt0 fl_RX7_39 (gg_fvI kt0 rfl) ?_
  refine gg_if_eq (tgt := 11) hG dX7_pack_4 (by decide) (fun c7 => ?_) (fun c7 => ?_)
  · replace h := h.1 c7
    refine gg_lconst (v := 0) hG dX7_pack_11 (by decide) ?_
    exact m_X7_pack_c12 hG kt0 h
  · replace h := h.2 c7
    refine gg_lconst (v := 1) hG dX7_pack_7 (by decide) ?_
    refine gg_goto (tgt := 12) hG dX7_pack_8 (by decide) ?_
    exact m_X7_pack_c12 hG kt0 h
theorem mt_X7_pack {t0 : Nat} (kt0 : gg_kd t0 = 7) {u : gg_M} {Q : Int64 → gg_M → Prop} (h : w_X7_pack t0 u Q) : gg_Mt 1 yX7_pack cX7_pack 3 (some .long) [.ref t0] u (gg_eJ Q) :=
  gg_intro (own := RX7) (by decide +kernel) rfl rfl (Nat.le_of_ble_eq_true rfl) (fun G hG => m_X7_pack hG kt0 h)
/-! X1_learn -/
def w_X1_learn_c224 (z1 : Int32) (u : gg_M)  (Q : gg_M → Prop) : Prop :=
  w_J7_fill_53178 26 z1 u (fun u1 =>
  w_J7_fill_53178 27 (u1.1 15 10) u1 (fun u2 =>
  ∀ u3 : gg_M, u3 = gg_wI u2 15 8 1 →
  Q u3))
set_option maxRecDepth 10000 in
theorem m_X1_learn_c224 {z1 : Int32} {u : gg_M}  {G : gg_T} {Q : gg_M → Prop} (hG : gg_Cl none cX1_learn 8 RX1 none 4 (gg_eV Q) G)  (h : w_X1_learn_c224 z1 u  Q)   : G 224 [some (.ref 15), none, none, none, none, none, none, none] [.int z1, .ref 26] u := by
  unfold w_X1_learn_c224 at h
  refine gg_xs (As := [.ref 26, .int z1]) (st := []) hG dX1_learn_224 ml_RX1_84 Y_J7_fill_53178 YS_J7_fill_53178 (mt_J7_fill_53178 rfl h) rfl (by decide) (Nat.le_of_ble_eq_true rfl) rfl (gg_kv (fun u1 h => ?_))
  refine gg_aload_n hG dX1_learn_227 rfl rfl ?_
  refine gg_get (v := .ref 27) hG dX1_learn_228 (by decide) rfl fl_RX1_30 rfl ?_
  refine gg_aload_n hG dX1_learn_231 rfl rfl ?_
  refine gg_get (v := .int (u1.1 15 10)) hG dX1_learn_232 (by decide) rfl fl_RX1_47 rfl ?_
  refine gg_xs (As := [.ref 27, .int (u1.1 15 10)]) (st := []) hG dX1_learn_235 ml_RX1_84 Y_J7_fill_53178 YS_J7_fill_53178 (mt_J7_fill_53178 rfl h) rfl (by decide) (Nat.le_of_ble_eq_true rfl) rfl (gg_kv (fun u2 h => ?_))
  refine gg_aload_n hG dX1_learn_238 rfl rfl ?_
  refine gg_iconst (v := 1) hG dX1_learn_239 (by decide) ?_
  refine gg_putI hG dX1_learn_240 (by decide) rfl fp_RX1_90 rfl (gg_nb (Or.inr rfl)).1 (gg_nb (Or.inr rfl)).2 ?_
  refine gg_nu (fun u3 eu3 => ?_)
  replace h := h u3 eu3
  exact gg_vret hG dX1_learn_243 rfl ⟨rfl, h⟩
def w_X1_learn_c201 (a5 : Int32) (z0 : Int32) (z1 : Int32) (u : gg_M) (k16 : Int32 × Int32 × gg_M → Prop) (Q : gg_M → Prop) : Prop :=
  ∀ v4 : Int32, v4 = (z0 ||| z1) →
  k16 (v4, (a5 + 1), u)
set_option maxRecDepth 10000 in
theorem m_X1_learn_c201 {a5 : Int32} {z0 : Int32} {z1 : Int32} {u : gg_M} {k16 : Int32 × Int32 × gg_M → Prop} {G : gg_T} {Q : gg_M → Prop} (hG : gg_Cl none cX1_learn 8 RX1 none 4 (gg_eV Q) G)  (h : w_X1_learn_c201 a5 z0 z1 u k16 Q)  (hk16 : ∀ s : Int32 × Int32 × gg_M, k16 s → G 16 [some (.ref 15), some (.ref 6), some (.ref 12), some (.ref 10), some (.int s.1), some (.int s.2.1), none, none] [] s.2.2) : G 201 [some (.ref 15), some (.ref 6), some (.ref 12), some (.ref 10), none, some (.int a5), none, none] [.int z1, .int z0] u := by
  unfold w_X1_learn_c201 at h
  refine gg_ior hG dX1_learn_201 ?_
  refine gg_ni (fun v4 e4 => ?_)
  replace h := h v4 e4
  refine gg_istore (L1 := [some (.ref 15), some (.ref 6), some (.ref 12), some (.ref 10), some (.int v4), some (.int a5), none, none]) hG dX1_learn_202 (by decide) rfl ?_
  refine gg_iinc (v := (a5 + 1)) (L1 := [some (.ref 15), some (.ref 6), some (.ref 12), some (.ref 10), some (.int v4), some (.int (a5 + 1)), none, none]) hG dX1_learn_204 rfl rfl (by decide) rfl ?_
  refine gg_goto (tgt := 16) hG dX1_learn_207 (by decide) ?_
  exact hk16 _ h
def w_X1_learn_c200 (a5 : Int32) (z0 : Int32) (u : gg_M) (k16 : Int32 × Int32 × gg_M → Prop) (Q : gg_M → Prop) : Prop :=
  w_X1_learn_c201 a5 z0 0 u k16 Q
set_option maxRecDepth 10000 in
theorem m_X1_learn_c200 {a5 : Int32} {z0 : Int32} {u : gg_M} {k16 : Int32 × Int32 × gg_M → Prop} {G : gg_T} {Q : gg_M → Prop} (hG : gg_Cl none cX1_learn 8 RX1 none 4 (gg_eV Q) G)  (h : w_X1_learn_c200 a5 z0 u k16 Q)  (hk16 : ∀ s : Int32 × Int32 × gg_M, k16 s → G 16 [some (.ref 15), some (.ref 6), some (.ref 12), some (.ref 10), some (.int s.1), some (.int s.2.1), none, none] [] s.2.2) : G 200 [some (.ref 15), some (.ref 6), some (.ref 12), some (.ref 10), none, some (.int a5), none, none] [.int z0] u := by
  unfold w_X1_learn_c200 at h
  refine gg_iconst (v := 0) hG dX1_learn_200 (by decide) ?_
  exact m_X1_learn_c201 hG h hk16
def w_X1_learn_c170 (a4 : Int32) (a5 : Int32) (z1 : Int32) (z2 : Int32) (u : gg_M) (k16 : Int32 × Int32 × gg_M → Prop) (Q : gg_M → Prop) : Prop :=
  ∀ u5 : gg_M, u5 = gg_wI u 15 9 (z1 ||| z2) →
  vp_in a5 32 ∧
  ((u5.1 17 a5.toNatClampNeg) ≤ 0 →
   w_X1_learn_c200 a5 a4 u5 k16 Q) ∧
  (¬ (u5.1 17 a5.toNatClampNeg) ≤ 0 →
   ((u5.1 29 7) = 0 →
    w_X1_learn_c200 a5 a4 u5 k16 Q) ∧
   (¬ (u5.1 29 7) = 0 →
    w_X1_learn_c201 a5 a4 1 u5 k16 Q))
set_option maxRecDepth 10000 in
theorem m_X1_learn_c170 {a4 : Int32} {a5 : Int32} {z1 : Int32} {z2 : Int32} {u : gg_M} {k16 : Int32 × Int32 × gg_M → Prop} {G : gg_T} {Q : gg_M → Prop} (hG : gg_Cl none cX1_learn 8 RX1 none 4 (gg_eV Q) G)  (h : w_X1_learn_c170 a4 a5 z1 z2 u k16 Q)  (hk16 : ∀ s : Int32 × Int32 × gg_M, k16 s → G 16 [some (.ref 15), some (.ref 6), some (.ref 12), some (.ref 10), some (.int s.1), some (.int s.2.1), none, none] [] s.2.2) : G 170 [some (.ref 15), some (.ref 6), some (.ref 12), some (.ref 10), some (.int a4), some (.int a5), none, none] [.int z2, .int z1, .ref 15] u := by
  unfold w_X1_learn_c170 at h
  refine gg_ior hG dX1_learn_170 ?_
  refine gg_putI hG dX1_learn_171 (by decide) rfl fp_RX1_43 rfl rfl rfl ?_
  refine gg_nu (fun u5 eu5 => ?_)
  replace h := h u5 eu5
  refine gg_iload hG dX1_learn_174 rfl ?_
  refine gg_aload_n hG dX1_learn_176 rfl rfl ?_
  refine gg_get (v := .ref 17) hG dX1_learn_177 (by decide) rfl fl_RX1_15 rfl ?_
  refine gg_iload hG dX1_learn_180 rfl ?_
  obtain ⟨h6, h⟩ := h
  refine gg_iald (j := a5.toNatClampNeg) hG dX1_learn_182 (by decide) rfl h6 rfl ?_
  refine gg_if_le (tgt := 200) hG dX1_learn_183 (by decide) (fun c7 => ?_) (fun c7 => ?_)
  · replace h := h.1 c7
    refine gg_mk hG [true, true, true, true, false, true, false, false] rfl ?_
    exact m_X1_learn_c200 hG h hk16
  · replace h := h.2 c7
    refine gg_aload_n hG dX1_learn_186 rfl rfl ?_
    refine gg_get (v := .ref 29) hG dX1_learn_187 (by decide) rfl fl_RX1_39 rfl ?_
    refine gg_get (v := .int (u5.1 29 7)) hG dX1_learn_190 (by decide) rfl fl_RX1_80 rfl ?_
    refine gg_if_eq (tgt := 200) hG dX1_learn_193 (by decide) (fun c8 => ?_) (fun c8 => ?_)
    · replace h := h.1 c8
      refine gg_mk hG [true, true, true, true, false, true, false, false] rfl ?_
      exact m_X1_learn_c200 hG h hk16
    · replace h := h.2 c8
      refine gg_iconst (v := 1) hG dX1_learn_196 (by decide) ?_
      refine gg_goto (tgt := 201) hG dX1_learn_197 (by decide) ?_
      refine gg_mk hG [true, true, true, true, false, true, false, false] rfl ?_
      exact m_X1_learn_c201 hG h hk16
def w_X1_learn_c130 (a4 : Int32) (a5 : Int32) (z1 : Int32) (z2 : Int32) (u : gg_M) (k16 : Int32 × Int32 × gg_M → Prop) (Q : gg_M → Prop) : Prop :=
  vp_in z1 32 ∧
  ∀ u10 : gg_M, u10 = gg_wI u 17 z1.toNatClampNeg z2 →
  vp_in a5 32 ∧
  ∀ u12 : gg_M, u12 = gg_wI u10 15 10 ((u10.1 15 10) + (u10.1 17 a5.toNatClampNeg)) →
  vp_in a5 32 ∧
  ((u12.1 17 a5.toNatClampNeg) ≤ 0 →
   w_X1_learn_c170 a4 a5 (u12.1 15 9) 0 u12 k16 Q) ∧
  (¬ (u12.1 17 a5.toNatClampNeg) ≤ 0 →
   w_X1_learn_c170 a4 a5 (u12.1 15 9) ((1 : Int32) <<< (a5 &&& 31)) u12 k16 Q)
set_option maxRecDepth 10000 in
theorem m_X1_learn_c130 {a4 : Int32} {a5 : Int32} {z1 : Int32} {z2 : Int32} {u : gg_M} {k16 : Int32 × Int32 × gg_M → Prop} {G : gg_T} {Q : gg_M → Prop} (hG : gg_Cl none cX1_learn 8 RX1 none 4 (gg_eV Q) G)  (h : w_X1_learn_c130 a4 a5 z1 z2 u k16 Q)  (hk16 : ∀ s : Int32 × Int32 × gg_M, k16 s → G 16 [some (.ref 15), some (.ref 6), some (.ref 12), some (.ref 10), some (.int s.1), some (.int s.2.1), none, none] [] s.2.2) : G 130 [some (.ref 15), some (.ref 6), some (.ref 12), some (.ref 10), some (.int a4), some (.int a5), none, none] [.int z2, .int z1, .ref 17] u := by
  unfold w_X1_learn_c130 at h
  obtain ⟨h9, h⟩ := h
  refine gg_iast (j := z1.toNatClampNeg) hG dX1_learn_130 (by decide) rfl h9 rfl ?_
  refine gg_nu (fun u10 eu10 => ?_)
  replace h := h u10 eu10
  refine gg_aload_n hG dX1_learn_131 rfl rfl ?_
  refine gg_dup hG dX1_learn_132 rfl ?_
  refine gg_get (v := .int (u10.1 15 10)) hG dX1_learn_133 (by decide) rfl fl_RX1_47 rfl ?_
  refine gg_aload_n hG dX1_learn_136 rfl rfl ?_
  refine gg_get (v := .ref 17) hG dX1_learn_137 (by decide) rfl fl_RX1_15 rfl ?_
  refine gg_iload hG dX1_learn_140 rfl ?_
  obtain ⟨h11, h⟩ := h
  refine gg_iald (j := a5.toNatClampNeg) hG dX1_learn_142 (by decide) rfl h11 rfl ?_
  refine gg_iadd hG dX1_learn_143 ?_
  refine gg_putI hG dX1_learn_144 (by decide) rfl fp_RX1_47 rfl rfl rfl ?_
  refine gg_nu (fun u12 eu12 => ?_)
  replace h := h u12 eu12
  refine gg_aload_n hG dX1_learn_147 rfl rfl ?_
  refine gg_dup hG dX1_learn_148 rfl ?_
  refine gg_get (v := .int (u12.1 15 9)) hG dX1_learn_149 (by decide) rfl fl_RX1_43 rfl ?_
  refine gg_aload_n hG dX1_learn_152 rfl rfl ?_
  refine gg_get (v := .ref 17) hG dX1_learn_153 (by decide) rfl fl_RX1_15 rfl ?_
  refine gg_iload hG dX1_learn_156 rfl ?_
  obtain ⟨h13, h⟩ := h
  refine gg_iald (j := a5.toNatClampNeg) hG dX1_learn_158 (by decide) rfl h13 rfl ?_
  refine gg_if_le (tgt := 169) hG dX1_learn_159 (by decide) (fun c14 => ?_) (fun c14 => ?_)
  · replace h := h.1 c14
    refine gg_iconst (v := 0) hG dX1_learn_169 (by decide) ?_
    exact m_X1_learn_c170 hG h hk16
  · replace h := h.2 c14
    refine gg_iconst (v := 1) hG dX1_learn_162 (by decide) ?_
    refine gg_iload hG dX1_learn_163 rfl ?_
    refine gg_ishl hG dX1_learn_165 ?_
    refine gg_goto (tgt := 170) hG dX1_learn_166 (by decide) ?_
    exact m_X1_learn_c170 hG h hk16
def w_X1_learn_c94 (a4 : Int32) (a5 : Int32) (a6 : Int32) (u : gg_M) (k16 : Int32 × Int32 × gg_M → Prop) (Q : gg_M → Prop) : Prop :=
  w_X7_pack 29 u (fun v16 u15 =>
  vp_in a5 128 ∧
  ∀ u18 : gg_M, u18 = gg_wL u15 16 a5.toNatClampNeg v16 →
  (a6 = 0 →
   w_X1_learn_c130 a4 a5 a5 0 u18 k16 Q) ∧
  (¬ a6 = 0 →
   w_X0_weightOf a5 (-1) u18 (fun v21 u20 =>
   w_X1_learn_c130 a4 a5 a5 v21 u20 k16 Q)))
set_option maxRecDepth 10000 in
theorem m_X1_learn_c94 {a4 : Int32} {a5 : Int32} {a6 : Int32} {u : gg_M} {k16 : Int32 × Int32 × gg_M → Prop} {G : gg_T} {Q : gg_M → Prop} (hG : gg_Cl none cX1_learn 8 RX1 none 4 (gg_eV Q) G)  (h : w_X1_learn_c94 a4 a5 a6 u k16 Q)  (hk16 : ∀ s : Int32 × Int32 × gg_M, k16 s → G 16 [some (.ref 15), some (.ref 6), some (.ref 12), some (.ref 10), some (.int s.1), some (.int s.2.1), none, none] [] s.2.2) : G 94 [some (.ref 15), some (.ref 6), some (.ref 12), some (.ref 10), some (.int a4), some (.int a5), some (.int a6), none] [] u := by
  unfold w_X1_learn_c94 at h
  refine gg_aload_n hG dX1_learn_94 rfl rfl ?_
  refine gg_get (v := .ref 16) hG dX1_learn_95 (by decide) rfl fl_RX1_9 rfl ?_
  refine gg_iload hG dX1_learn_98 rfl ?_
  refine gg_aload_n hG dX1_learn_100 rfl rfl ?_
  refine gg_get (v := .ref 29) hG dX1_learn_101 (by decide) rfl fl_RX1_39 rfl ?_
  refine gg_xv (As := []) (st := [.int a5, .ref 16]) hG dX1_learn_104 ml_RX1_70 Y_X7_pack YV_X7_pack (by decide) ⟨_, rfl, rfl⟩ (mt_X7_pack rfl h) rfl (by decide) (Nat.le_of_ble_eq_true rfl) rfl (gg_kj (fun v16 u15 h => ?_))
  obtain ⟨h17, h⟩ := h
  refine gg_last (j := a5.toNatClampNeg) hG dX1_learn_107 (by decide) rfl h17 rfl ?_
  refine gg_nu (fun u18 eu18 => ?_)
  replace h := h u18 eu18
  refine gg_aload_n hG dX1_learn_108 rfl rfl ?_
  refine gg_get (v := .ref 17) hG dX1_learn_109 (by decide) rfl fl_RX1_15 rfl ?_
  refine gg_iload hG dX1_learn_112 rfl ?_
  refine gg_iload hG dX1_learn_114 rfl ?_
  refine gg_if_eq (tgt := 129) hG dX1_learn_116 (by decide) (fun c19 => ?_) (fun c19 => ?_)
  · replace h := h.1 c19
    refine gg_iconst (v := 0) hG dX1_learn_129 (by decide) ?_
    refine gg_mk hG [true, true, true, true, true, true, false, false] rfl ?_
    exact m_X1_learn_c130 hG h hk16
  · replace h := h.2 c19
    refine gg_aload_n hG dX1_learn_119 rfl rfl ?_
    refine gg_iload hG dX1_learn_120 rfl ?_
    refine gg_iconst (v := (-1)) hG dX1_learn_122 (by decide) ?_
    refine gg_xv (As := [.int a5, .int (-1)]) (st := [.int a5, .ref 17]) hG dX1_learn_123 ml_RX1_74 Y_X0_weightOf YV_X0_weightOf (by decide) ⟨_, rfl, rfl⟩ (mt_X0_weightOf h) rfl (by decide) (Nat.le_of_ble_eq_true rfl) rfl (gg_ki (fun v21 u20 h => ?_))
    refine gg_goto (tgt := 130) hG dX1_learn_126 (by decide) ?_
    refine gg_mk hG [true, true, true, true, true, true, false, false] rfl ?_
    exact m_X1_learn_c130 hG h hk16
def w_X1_learn_c85 (a4 : Int32) (a5 : Int32) (a7 : Int32) (z0 : Int32) (z1 : Int32) (u : gg_M) (k16 : Int32 × Int32 × gg_M → Prop) (k39 : Int32 × Int32 × gg_M → Prop) (Q : gg_M → Prop) : Prop :=
  ∀ v22 : Int32, v22 = (z0 &&& z1) →
  k39 (v22, (a7 + 1), u)
set_option maxRecDepth 10000 in
theorem m_X1_learn_c85 {a4 : Int32} {a5 : Int32} {a7 : Int32} {z0 : Int32} {z1 : Int32} {u : gg_M} {k16 : Int32 × Int32 × gg_M → Prop} {k39 : Int32 × Int32 × gg_M → Prop} {G : gg_T} {Q : gg_M → Prop} (hG : gg_Cl none cX1_learn 8 RX1 none 4 (gg_eV Q) G)  (h : w_X1_learn_c85 a4 a5 a7 z0 z1 u k16 k39 Q)  (hk16 : ∀ s : Int32 × Int32 × gg_M, k16 s → G 16 [some (.ref 15), some (.ref 6), some (.ref 12), some (.ref 10), some (.int s.1), some (.int s.2.1), none, none] [] s.2.2) (hk39 : ∀ s : Int32 × Int32 × gg_M, k39 s → G 39 [some (.ref 15), some (.ref 6), some (.ref 12), some (.ref 10), some (.int a4), some (.int a5), some (.int s.1), some (.int s.2.1)] [] s.2.2) : G 85 [some (.ref 15), some (.ref 6), some (.ref 12), some (.ref 10), some (.int a4), some (.int a5), none, some (.int a7)] [.int z1, .int z0] u := by
  unfold w_X1_learn_c85 at h
  refine gg_iand hG dX1_learn_85 ?_
  refine gg_ni (fun v22 e22 => ?_)
  replace h := h v22 e22
  refine gg_istore (L1 := [some (.ref 15), some (.ref 6), some (.ref 12), some (.ref 10), some (.int a4), some (.int a5), some (.int v22), some (.int a7)]) hG dX1_learn_86 (by decide) rfl ?_
  refine gg_iinc (v := (a7 + 1)) (L1 := [some (.ref 15), some (.ref 6), some (.ref 12), some (.ref 10), some (.int a4), some (.int a5), some (.int v22), some (.int (a7 + 1))]) hG dX1_learn_88 rfl rfl (by decide) rfl ?_
  refine gg_goto (tgt := 39) hG dX1_learn_91 (by decide) ?_
  exact hk39 _ h
def b_X1_learn_c39 (a4 : Int32) (a5 : Int32) (a6 : Int32) (a7 : Int32) (u : gg_M) (k16 : Int32 × Int32 × gg_M → Prop) (k39 : Int32 × Int32 × gg_M → Prop) (Q : gg_M → Prop) : Prop :=
  ((u.1 12 2) ≤ a7 →
   w_X1_learn_c94 a4 a5 a6 u k16 Q) ∧
  (¬ (u.1 12 2) ≤ a7 →
   (24 ≤ a7 →
    w_X1_learn_c94 a4 a5 a6 u k16 Q) ∧
   (¬ 24 ≤ a7 →
    w_X2_actAt a7 u (fun v26 u25 =>
    w_X7_does 29 v26 u25 (fun v28 u27 =>
    w_X2_signAt a7 u27 (fun v30 u29 =>
    (¬ v28 = v30 →
     w_X1_learn_c85 a4 a5 a7 a6 0 u29 k16 k39 Q) ∧
    (v28 = v30 →
     w_X1_learn_c85 a4 a5 a7 a6 1 u29 k16 k39 Q))))))
set_option maxRecDepth 10000 in
theorem mb_X1_learn_c39 {a4 : Int32} {a5 : Int32} {a6 : Int32} {a7 : Int32} {u : gg_M} {k16 : Int32 × Int32 × gg_M → Prop} {k39 : Int32 × Int32 × gg_M → Prop} {G : gg_T} {Q : gg_M → Prop} (hG : gg_Cl none cX1_learn 8 RX1 none 4 (gg_eV Q) G)  (h : b_X1_learn_c39 a4 a5 a6 a7 u k16 k39 Q)  (hk16 : ∀ s : Int32 × Int32 × gg_M, k16 s → G 16 [some (.ref 15), some (.ref 6), some (.ref 12), some (.ref 10), some (.int s.1), some (.int s.2.1), none, none] [] s.2.2) (hk39 : ∀ s : Int32 × Int32 × gg_M, k39 s → G 39 [some (.ref 15), some (.ref 6), some (.ref 12), some (.ref 10), some (.int a4), some (.int a5), some (.int s.1), some (.int s.2.1)] [] s.2.2) : G 39 [some (.ref 15), some (.ref 6), some (.ref 12), some (.ref 10), some (.int a4), some (.int a5), some (.int a6), some (.int a7)] [] u := by
  unfold b_X1_learn_c39 at h
  refine gg_iload hG dX1_learn_39 rfl ?_
  refine gg_aload_n hG dX1_learn_41 rfl rfl ?_
  refine gg_get (v := .int (u.1 12 2)) hG dX1_learn_42 (by decide) rfl fl_RX1_54 rfl ?_
  refine gg_ic_ge (tgt := 94) hG dX1_learn_45 (by decide) (fun c23 => ?_) (fun c23 => ?_)
  · replace h := h.1 c23
    refine gg_mk hG [true, true, true, true, true, true, true, false] rfl ?_
    exact m_X1_learn_c94 hG h hk16
  · replace h := h.2 c23
    refine gg_iload hG dX1_learn_48 rfl ?_
    refine gg_bipush (v := 24) hG dX1_learn_50 (by decide) ?_
    refine gg_ic_ge (tgt := 94) hG dX1_learn_52 (by decide) (fun c24 => ?_) (fun c24 => ?_)
    · replace h := h.1 c24
      refine gg_mk hG [true, true, true, true, true, true, true, false] rfl ?_
      exact m_X1_learn_c94 hG h hk16
    · replace h := h.2 c24
      refine gg_iload hG dX1_learn_55 rfl ?_
      refine gg_aload_n hG dX1_learn_57 rfl rfl ?_
      refine gg_get (v := .ref 29) hG dX1_learn_58 (by decide) rfl fl_RX1_39 rfl ?_
      refine gg_aload_n hG dX1_learn_61 rfl rfl ?_
      refine gg_aload_n hG dX1_learn_62 rfl rfl ?_
      refine gg_iload hG dX1_learn_63 rfl ?_
      refine gg_xv (As := [.int a7]) (st := [.ref 6, .ref 29, .int a6]) hG dX1_learn_65 ml_RX1_59 Y_X2_actAt YV_X2_actAt (by decide) ⟨_, rfl, rfl⟩ (mt_X2_actAt h) rfl (by decide) (Nat.le_of_ble_eq_true rfl) rfl (gg_ki (fun v26 u25 h => ?_))
      refine gg_xv (As := [.ref 6, .int v26]) (st := [.int a6]) hG dX1_learn_68 ml_RX1_63 Y_X7_does YV_X7_does (by decide) ⟨_, rfl, rfl⟩ (mt_X7_does rfl h) rfl (by decide) (Nat.le_of_ble_eq_true rfl) rfl (gg_ki (fun v28 u27 h => ?_))
      refine gg_aload_n hG dX1_learn_71 rfl rfl ?_
      refine gg_iload hG dX1_learn_72 rfl ?_
      refine gg_xv (As := [.int a7]) (st := [.int v28, .int a6]) hG dX1_learn_74 ml_RX1_67 Y_X2_signAt YV_X2_signAt (by decide) ⟨_, rfl, rfl⟩ (mt_X2_signAt h) rfl (by decide) (Nat.le_of_ble_eq_true rfl) rfl (gg_ki (fun v30 u29 h => ?_))
      refine gg_ic_ne (tgt := 84) hG dX1_learn_77 (by decide) (fun c31 => ?_) (fun c31 => ?_)
      · replace h := h.1 c31
        refine gg_iconst (v := 0) hG dX1_learn_84 (by decide) ?_
        refine gg_mk hG [true, true, true, true, true, true, false, true] rfl ?_
        exact m_X1_learn_c85 hG h hk16 hk39
      · replace h := h.2 c31
        refine gg_iconst (v := 1) hG dX1_learn_80 (by decide) ?_
        refine gg_goto (tgt := 85) hG dX1_learn_81 (by decide) ?_
        refine gg_mk hG [true, true, true, true, true, true, false, true] rfl ?_
        exact m_X1_learn_c85 hG h hk16 hk39
def w_X1_learn_c39 (a4 : Int32) (a5 : Int32) (a6 : Int32) (a7 : Int32) (u : gg_M) (k16 : Int32 × Int32 × gg_M → Prop) (Q : gg_M → Prop) : Prop :=
  gg_loop (fun (s : Int32 × Int32 × gg_M) k39 => b_X1_learn_c39 a4 a5 s.1 s.2.1 s.2.2 k16 k39 Q) (a6, a7, u)
set_option maxRecDepth 10000 in
theorem m_X1_learn_c39 {a4 : Int32} {a5 : Int32} {a6 : Int32} {a7 : Int32} {u : gg_M} {k16 : Int32 × Int32 × gg_M → Prop} {G : gg_T} {Q : gg_M → Prop} (hG : gg_Cl none cX1_learn 8 RX1 none 4 (gg_eV Q) G)  (h : w_X1_learn_c39 a4 a5 a6 a7 u k16 Q)  (hk16 : ∀ s : Int32 × Int32 × gg_M, k16 s → G 16 [some (.ref 15), some (.ref 6), some (.ref 12), some (.ref 10), some (.int s.1), some (.int s.2.1), none, none] [] s.2.2) : G 39 [some (.ref 15), some (.ref 6), some (.ref 12), some (.ref 10), some (.int a4), some (.int a5), some (.int a6), some (.int a7)] [] u :=
  gg_loop_use (P := fun s : Int32 × Int32 × gg_M => G 39 [some (.ref 15), some (.ref 6), some (.ref 12), some (.ref 10), some (.int a4), some (.int a5), some (.int s.1), some (.int s.2.1)] [] s.2.2) h (fun s rc hb hr => mb_X1_learn_c39 hG  hb  hk16 hr)
def b_X1_learn_c16  (a4 : Int32) (a5 : Int32) (u : gg_M)  (k16 : Int32 × Int32 × gg_M → Prop) (Q : gg_M → Prop) : Prop :=
  (32 ≤ a5 →
   (a4 = 0 →
    w_X1_learn_c224 (-1) u Q) ∧
   (¬ a4 = 0 →
    w_X1_learn_c224 0 u Q)) ∧
  (¬ 32 ≤ a5 →
   w_X7_begin 29 a5 u (fun u34 =>
   w_X1_learn_c39 a4 a5 1 0 u34 k16 Q))
set_option maxRecDepth 10000 in
theorem mb_X1_learn_c16  {a4 : Int32} {a5 : Int32} {u : gg_M}  {k16 : Int32 × Int32 × gg_M → Prop} {G : gg_T} {Q : gg_M → Prop} (hG : gg_Cl none cX1_learn 8 RX1 none 4 (gg_eV Q) G)  (h : b_X1_learn_c16 a4 a5 u k16 Q)   (hk16 : ∀ s : Int32 × Int32 × gg_M, k16 s → G 16 [some (.ref 15), some (.ref 6), some (.ref 12), some (.ref 10), some (.int s.1), some (.int s.2.1), none, none] [] s.2.2) : G 16 [some (.ref 15), some (.ref 6), some (.ref 12), some (.ref 10), some (.int a4), some (.int a5), none, none] [] u := by
  unfold b_X1_learn_c16 at h
  refine gg_iload hG dX1_learn_16 rfl ?_
  refine gg_bipush (v := 32) hG dX1_learn_18 (by decide) ?_
  refine gg_ic_ge (tgt := 210) hG dX1_learn_20 (by decide) (fun c32 => ?_) (fun c32 => ?_)
  · replace h := h.1 c32
    refine gg_aload_n hG dX1_learn_210 rfl rfl ?_
    refine gg_get (v := .ref 26) hG dX1_learn_211 (by decide) rfl fl_RX1_27 rfl ?_
    refine gg_iload hG dX1_learn_214 rfl ?_
    refine gg_if_eq (tgt := 223) hG dX1_learn_216 (by decide) (fun c33 => ?_) (fun c33 => ?_)
    · replace h := h.1 c33
      refine gg_iconst (v := (-1)) hG dX1_learn_223 (by decide) ?_
      refine gg_mk hG [true, false, false, false, false, false, false, false] rfl ?_
      exact m_X1_learn_c224 hG h
    · replace h := h.2 c33
      refine gg_iconst (v := 0) hG dX1_learn_219 (by decide) ?_
      refine gg_goto (tgt := 224) hG dX1_learn_220 (by decide) ?_
      refine gg_mk hG [true, false, false, false, false, false, false, false] rfl ?_
      exact m_X1_learn_c224 hG h
  · replace h := h.2 c32
    refine gg_iconst (v := 1) hG dX1_learn_23 (by decide) ?_
    refine gg_istore (L1 := [some (.ref 15), some (.ref 6), some (.ref 12), some (.ref 10), some (.int a4), some (.int a5), some (.int 1), none]) hG dX1_learn_24 (by decide) rfl ?_
    refine gg_aload_n hG dX1_learn_26 rfl rfl ?_
    refine gg_get (v := .ref 29) hG dX1_learn_27 (by decide) rfl fl_RX1_39 rfl ?_
    refine gg_aload_n hG dX1_learn_30 rfl rfl ?_
    refine gg_iload hG dX1_learn_31 rfl ?_
    refine gg_xv (As := [.ref 6, .int a5]) (st := []) hG dX1_learn_33 ml_RX1_50 Y_X7_begin YV_X7_begin (by decide) ⟨_, rfl, rfl⟩ (mt_X7_begin rfl h) rfl (by decide) (Nat.le_of_ble_eq_true rfl) rfl (gg_kv (fun u34 h => ?_))
    refine gg_iconst (v := 0) hG dX1_learn_36 (by decide) ?_
    refine gg_istore (L1 := [some (.ref 15), some (.ref 6), some (.ref 12), some (.ref 10), some (.int a4), some (.int a5), some (.int 1), some (.int 0)]) hG dX1_learn_37 (by decide) rfl ?_
    exact m_X1_learn_c39 hG h hk16
def w_X1_learn_c16 (a4 : Int32) (a5 : Int32) (u : gg_M)  (Q : gg_M → Prop) : Prop :=
  gg_loop (fun (s : Int32 × Int32 × gg_M) k16 => b_X1_learn_c16  s.1 s.2.1 s.2.2  k16 Q) (a4, a5, u)
set_option maxRecDepth 10000 in
theorem m_X1_learn_c16 {a4 : Int32} {a5 : Int32} {u : gg_M}  {G : gg_T} {Q : gg_M → Prop} (hG : gg_Cl none cX1_learn 8 RX1 none 4 (gg_eV Q) G)  (h : w_X1_learn_c16 a4 a5 u  Q)   : G 16 [some (.ref 15), some (.ref 6), some (.ref 12), some (.ref 10), some (.int a4), some (.int a5), none, none] [] u :=
  gg_loop_use (P := fun s : Int32 × Int32 × gg_M => G 16 [some (.ref 15), some (.ref 6), some (.ref 12), some (.ref 10), some (.int s.1), some (.int s.2.1), none, none] [] s.2.2) h (fun s rc hb hr => mb_X1_learn_c16 hG  hb   hr)
def w_X1_learn  (u : gg_M)  (Q : gg_M → Prop) : Prop :=
  ∀ u35 : gg_M, u35 = gg_wI u 15 9 0 →
  ∀ u36 : gg_M, u36 = gg_wI u35 15 10 0 →
  w_X1_learn_c16 0 0 u36 Q
set_option maxRecDepth 10000 in
theorem m_X1_learn  {u : gg_M}  {G : gg_T} {Q : gg_M → Prop} (hG : gg_Cl none cX1_learn 8 RX1 none 4 (gg_eV Q) G)  (h : w_X1_learn  u  Q)   : G 0 [some (.ref 15), some (.ref 6), some (.ref 12), some (.ref 10), none, none, none, none] [] u := by
  unfold w_X1_learn at h
  refine gg_aload_n hG dX1_learn_0 rfl rfl ?_
  refine gg_iconst (v := 0) hG dX1_learn_1 (by decide) ?_
  refine gg_putI hG dX1_learn_2 (by decide) rfl fp_RX1_43 rfl rfl rfl ?_
  refine gg_nu (fun u35 eu35 => ?_)
  replace h := h u35 eu35
  refine gg_aload_n hG dX1_learn_5 rfl rfl ?_
  refine gg_iconst (v := 0) hG dX1_learn_6 (by decide) ?_
  refine gg_putI hG dX1_learn_7 (by decide) rfl fp_RX1_47 rfl rfl rfl ?_
  refine gg_nu (fun u36 eu36 => ?_)
  replace h := h u36 eu36
  refine gg_iconst (v := 0) hG dX1_learn_10 (by decide) ?_
  refine gg_istore (L1 := [some (.ref 15), some (.ref 6), some (.ref 12), some (.ref 10), some (.int 0), none, none, none]) hG dX1_learn_11 (by decide) rfl ?_
  refine gg_iconst (v := 0) hG dX1_learn_13 (by decide) ?_
  refine gg_istore (L1 := [some (.ref 15), some (.ref 6), some (.ref 12), some (.ref 10), some (.int 0), some (.int 0), none, none]) hG dX1_learn_14 (by decide) rfl ?_
  exact m_X1_learn_c16 hG h
theorem mt_X1_learn   {u : gg_M} {Q : gg_M → Prop} (h : w_X1_learn  u Q) : gg_Mt 4 yX1_learn cX1_learn 8 none [.ref 15, .ref 6, .ref 12, .ref 10] u (gg_eV Q) :=
  gg_intro (own := RX1) (by decide +kernel) rfl rfl (Nat.le_of_ble_eq_true rfl) (fun G hG => m_X1_learn hG  h)
/-! X1_weightWith -/
def b_X1_weightWith_c4 (a1 : Int32) (a2 : Int32) (a3 : Int32) (u : gg_M)  (k4 : Int32 × Int32 × gg_M → Prop) (Q : Int32 → gg_M → Prop) : Prop :=
  (32 ≤ a3 →
   Q a2 u) ∧
  (¬ 32 ≤ a3 →
   vp_in a3 32 ∧
   ∀ v3 : Int32, v3 = (a2 + (((gu_ushr a3 a1) &&& 1) * (u.1 17 a3.toNatClampNeg))) →
   k4 (v3, (a3 + 1), u))
set_option maxRecDepth 10000 in
theorem mb_X1_weightWith_c4 {a1 : Int32} {a2 : Int32} {a3 : Int32} {u : gg_M}  {k4 : Int32 × Int32 × gg_M → Prop} {G : gg_T} {Q : Int32 → gg_M → Prop} (hG : gg_Cl none cX1_weightWith 4 RX1 (some .int) 1 (gg_eI Q) G)  (h : b_X1_weightWith_c4 a1 a2 a3 u k4 Q)   (hk4 : ∀ s : Int32 × Int32 × gg_M, k4 s → G 4 [some (.ref 15), some (.int a1), some (.int s.1), some (.int s.2.1)] [] s.2.2) : G 4 [some (.ref 15), some (.int a1), some (.int a2), some (.int a3)] [] u := by
  unfold b_X1_weightWith_c4 at h
  refine gg_iload_n hG dX1_weightWith_4 rfl rfl ?_
  refine gg_bipush (v := 32) hG dX1_weightWith_5 (by decide) ?_
  refine gg_ic_ge (tgt := 31) hG dX1_weightWith_7 (by decide) (fun c1 => ?_) (fun c1 => ?_)
  · replace h := h.1 c1
    refine gg_iload_n hG dX1_weightWith_31 rfl rfl ?_
    exact gg_iret hG dX1_weightWith_32 rfl rfl ⟨_, rfl, h⟩
  · replace h := h.2 c1
    refine gg_iload_n hG dX1_weightWith_10 rfl rfl ?_
    refine gg_iload_n hG dX1_weightWith_11 rfl rfl ?_
    refine gg_iload_n hG dX1_weightWith_12 rfl rfl ?_
    refine gg_iushr hG dX1_weightWith_13 ?_
    refine gg_iconst (v := 1) hG dX1_weightWith_14 (by decide) ?_
    refine gg_iand hG dX1_weightWith_15 ?_
    refine gg_aload_n hG dX1_weightWith_16 rfl rfl ?_
    refine gg_get (v := .ref 17) hG dX1_weightWith_17 (by decide) rfl fl_RX1_15 rfl ?_
    refine gg_iload_n hG dX1_weightWith_20 rfl rfl ?_
    obtain ⟨h2, h⟩ := h
    refine gg_iald (j := a3.toNatClampNeg) hG dX1_weightWith_21 (by decide) rfl h2 rfl ?_
    refine gg_imul hG dX1_weightWith_22 ?_
    refine gg_iadd hG dX1_weightWith_23 ?_
    refine gg_ni (fun v3 e3 => ?_)
    replace h := h v3 e3
    refine gg_istore_n (L1 := [some (.ref 15), some (.int a1), some (.int v3), some (.int a3)]) hG dX1_weightWith_24 rfl (by decide) rfl ?_
    refine gg_iinc (v := (a3 + 1)) (L1 := [some (.ref 15), some (.int a1), some (.int v3), some (.int (a3 + 1))]) hG dX1_weightWith_25 rfl rfl (by decide) rfl ?_
    refine gg_goto (tgt := 4) hG dX1_weightWith_28 (by decide) ?_
    exact hk4 _ h
def w_X1_weightWith_c4 (a1 : Int32) (a2 : Int32) (a3 : Int32) (u : gg_M)  (Q : Int32 → gg_M → Prop) : Prop :=
  gg_loop (fun (s : Int32 × Int32 × gg_M) k4 => b_X1_weightWith_c4 a1 s.1 s.2.1 s.2.2  k4 Q) (a2, a3, u)
set_option maxRecDepth 10000 in
theorem m_X1_weightWith_c4 {a1 : Int32} {a2 : Int32} {a3 : Int32} {u : gg_M}  {G : gg_T} {Q : Int32 → gg_M → Prop} (hG : gg_Cl none cX1_weightWith 4 RX1 (some .int) 1 (gg_eI Q) G)  (h : w_X1_weightWith_c4 a1 a2 a3 u  Q)   : G 4 [some (.ref 15), some (.int a1), some (.int a2), some (.int a3)] [] u :=
  gg_loop_use (P := fun s : Int32 × Int32 × gg_M => G 4 [some (.ref 15), some (.int a1), some (.int s.1), some (.int s.2.1)] [] s.2.2) h (fun s rc hb hr => mb_X1_weightWith_c4 hG  hb   hr)
def w_X1_weightWith (a1 : Int32) (u : gg_M)  (Q : Int32 → gg_M → Prop) : Prop :=
  w_X1_weightWith_c4 a1 0 0 u Q
set_option maxRecDepth 10000 in
theorem m_X1_weightWith {a1 : Int32} {u : gg_M}  {G : gg_T} {Q : Int32 → gg_M → Prop} (hG : gg_Cl none cX1_weightWith 4 RX1 (some .int) 1 (gg_eI Q) G)  (h : w_X1_weightWith a1 u  Q)   : G 0 [some (.ref 15), some (.int a1), none, none] [] u := by
  unfold w_X1_weightWith at h
  refine gg_iconst (v := 0) hG dX1_weightWith_0 (by decide) ?_
  refine gg_istore_n (L1 := [some (.ref 15), some (.int a1), some (.int 0), none]) hG dX1_weightWith_1 rfl (by decide) rfl ?_
  refine gg_iconst (v := 0) hG dX1_weightWith_2 (by decide) ?_
  refine gg_istore_n (L1 := [some (.ref 15), some (.int a1), some (.int 0), some (.int 0)]) hG dX1_weightWith_3 rfl (by decide) rfl ?_
  exact m_X1_weightWith_c4 hG h
theorem mt_X1_weightWith {a1 : Int32}  {u : gg_M} {Q : Int32 → gg_M → Prop} (h : w_X1_weightWith a1 u Q) : gg_Mt 1 yX1_weightWith cX1_weightWith 4 (some .int) [.ref 15, .int a1] u (gg_eI Q) :=
  gg_intro (own := RX1) (by decide +kernel) rfl rfl (Nat.le_of_ble_eq_true rfl) (fun G hG => m_X1_weightWith hG  h)
/-! X1_heaviestOf -/
def b_X1_heaviestOf_c4 (a1 : Int32) (a2 : Int32) (a3 : Int32) (u : gg_M)  (k4 : Int32 × Int32 × gg_M → Prop) (Q : Int32 → gg_M → Prop) : Prop :=
  (32 ≤ a3 →
   Q a2 u) ∧
  (¬ 32 ≤ a3 →
   vp_in a3 32 ∧
   w_J9_max_7cf53 a2 (((gu_ushr a1 a3) &&& 1) * (u.1 17 a3.toNatClampNeg)) u (fun v4 u3 =>
   k4 (v4, (a3 + 1), u3)))
set_option maxRecDepth 10000 in
theorem mb_X1_heaviestOf_c4 {a1 : Int32} {a2 : Int32} {a3 : Int32} {u : gg_M}  {k4 : Int32 × Int32 × gg_M → Prop} {G : gg_T} {Q : Int32 → gg_M → Prop} (hG : gg_Cl none cX1_heaviestOf 4 RX1 (some .int) 2 (gg_eI Q) G)  (h : b_X1_heaviestOf_c4 a1 a2 a3 u k4 Q)   (hk4 : ∀ s : Int32 × Int32 × gg_M, k4 s → G 4 [some (.ref 15), some (.int a1), some (.int s.1), some (.int s.2.1)] [] s.2.2) : G 4 [some (.ref 15), some (.int a1), some (.int a2), some (.int a3)] [] u := by
  unfold b_X1_heaviestOf_c4 at h
  refine gg_iload_n hG dX1_heaviestOf_4 rfl rfl ?_
  refine gg_bipush (v := 32) hG dX1_heaviestOf_5 (by decide) ?_
  refine gg_ic_ge (tgt := 33) hG dX1_heaviestOf_7 (by decide) (fun c1 => ?_) (fun c1 => ?_)
  · replace h := h.1 c1
    refine gg_iload_n hG dX1_heaviestOf_33 rfl rfl ?_
    exact gg_iret hG dX1_heaviestOf_34 rfl rfl ⟨_, rfl, h⟩
  · replace h := h.2 c1
    refine gg_iload_n hG dX1_heaviestOf_10 rfl rfl ?_
    refine gg_iload_n hG dX1_heaviestOf_11 rfl rfl ?_
    refine gg_iload_n hG dX1_heaviestOf_12 rfl rfl ?_
    refine gg_iushr hG dX1_heaviestOf_13 ?_
    refine gg_iconst (v := 1) hG dX1_heaviestOf_14 (by decide) ?_
    refine gg_iand hG dX1_heaviestOf_15 ?_
    refine gg_aload_n hG dX1_heaviestOf_16 rfl rfl ?_
    refine gg_get (v := .ref 17) hG dX1_heaviestOf_17 (by decide) rfl fl_RX1_15 rfl ?_
    refine gg_iload_n hG dX1_heaviestOf_20 rfl rfl ?_
    obtain ⟨h2, h⟩ := h
    refine gg_iald (j := a3.toNatClampNeg) hG dX1_heaviestOf_21 (by decide) rfl h2 rfl ?_
    refine gg_imul hG dX1_heaviestOf_22 ?_
    refine gg_xs (As := [.int a2, .int (((gu_ushr a1 a3) &&& 1) * (u.1 17 a3.toNatClampNeg))]) (st := []) hG dX1_heaviestOf_23 ml_RX1_93 Y_J9_max_7cf53 YS_J9_max_7cf53 (mt_J9_max_7cf53 h) rfl (by decide) (Nat.le_of_ble_eq_true rfl) rfl (gg_ki (fun v4 u3 h => ?_))
    refine gg_istore_n (L1 := [some (.ref 15), some (.int a1), some (.int v4), some (.int a3)]) hG dX1_heaviestOf_26 rfl (by decide) rfl ?_
    refine gg_iinc (v := (a3 + 1)) (L1 := [some (.ref 15), some (.int a1), some (.int v4), some (.int (a3 + 1))]) hG dX1_heaviestOf_27 rfl rfl (by decide) rfl ?_
    refine gg_goto (tgt := 4) hG dX1_heaviestOf_30 (by decide) ?_
    exact hk4 _ h
def w_X1_heaviestOf_c4 (a1 : Int32) (a2 : Int32) (a3 : Int32) (u : gg_M)  (Q : Int32 → gg_M → Prop) : Prop :=
  gg_loop (fun (s : Int32 × Int32 × gg_M) k4 => b_X1_heaviestOf_c4 a1 s.1 s.2.1 s.2.2  k4 Q) (a2, a3, u)
set_option maxRecDepth 10000 in
theorem m_X1_heaviestOf_c4 {a1 : Int32} {a2 : Int32} {a3 : Int32} {u : gg_M}  {G : gg_T} {Q : Int32 → gg_M → Prop} (hG : gg_Cl none cX1_heaviestOf 4 RX1 (some .int) 2 (gg_eI Q) G)  (h : w_X1_heaviestOf_c4 a1 a2 a3 u  Q)   : G 4 [some (.ref 15), some (.int a1), some (.int a2), some (.int a3)] [] u :=
  gg_loop_use (P := fun s : Int32 × Int32 × gg_M => G 4 [some (.ref 15), some (.int a1), some (.int s.1), some (.int s.2.1)] [] s.2.2) h (fun s rc hb hr => mb_X1_heaviestOf_c4 hG  hb   hr)
def w_X1_heaviestOf (a1 : Int32) (u : gg_M)  (Q : Int32 → gg_M → Prop) : Prop :=
  w_X1_heaviestOf_c4 a1 0 0 u Q
set_option maxRecDepth 10000 in
theorem m_X1_heaviestOf {a1 : Int32} {u : gg_M}  {G : gg_T} {Q : Int32 → gg_M → Prop} (hG : gg_Cl none cX1_heaviestOf 4 RX1 (some .int) 2 (gg_eI Q) G)  (h : w_X1_heaviestOf a1 u  Q)   : G 0 [some (.ref 15), some (.int a1), none, none] [] u := by
  unfold w_X1_heaviestOf at h
  refine gg_iconst (v := 0) hG dX1_heaviestOf_0 (by decide) ?_
  refine gg_istore_n (L1 := [some (.ref 15), some (.int a1), some (.int 0), none]) hG dX1_heaviestOf_1 rfl (by decide) rfl ?_
  refine gg_iconst (v := 0) hG dX1_heaviestOf_2 (by decide) ?_
  refine gg_istore_n (L1 := [some (.ref 15), some (.int a1), some (.int 0), some (.int 0)]) hG dX1_heaviestOf_3 rfl (by decide) rfl ?_
  exact m_X1_heaviestOf_c4 hG h
theorem mt_X1_heaviestOf {a1 : Int32}  {u : gg_M} {Q : Int32 → gg_M → Prop} (h : w_X1_heaviestOf a1 u Q) : gg_Mt 2 yX1_heaviestOf cX1_heaviestOf 4 (some .int) [.ref 15, .int a1] u (gg_eI Q) :=
  gg_intro (own := RX1) (by decide +kernel) rfl rfl (Nat.le_of_ble_eq_true rfl) (fun G hG => m_X1_heaviestOf hG  h)
/-! X7_partOf -/
def w_X7_partOf (a0 : Int64) (a2 : Int32) (u : gg_M)  (Q : Int32 → gg_M → Prop) : Prop :=
  Q ((gu_lushr a0 ((8 : Int32) * a2)).toInt32 &&& 255) u
set_option maxRecDepth 10000 in
theorem m_X7_partOf {a0 : Int64} {a2 : Int32} {u : gg_M}  {G : gg_T} {Q : Int32 → gg_M → Prop} (hG : gg_Cl none cX7_partOf 3 RX7 (some .int) 1 (gg_eI Q) G)  (h : w_X7_partOf a0 a2 u  Q)   : G 0 [some (.long a0), none, some (.int a2)] [] u := by
  unfold w_X7_partOf at h
  refine gg_lload_n hG dX7_partOf_0 rfl rfl ?_
  refine gg_bipush (v := 8) hG dX7_partOf_1 (by decide) ?_
  refine gg_iload_n hG dX7_partOf_3 rfl rfl ?_
  refine gg_imul hG dX7_partOf_4 ?_
  refine gg_lushr hG dX7_partOf_5 ?_
  refine gg_l2i hG dX7_partOf_6 ?_
  refine gg_sipush (v := 255) hG dX7_partOf_7 (by decide) ?_
  refine gg_iand hG dX7_partOf_10 ?_
  exact gg_iret hG dX7_partOf_11 rfl rfl ⟨_, rfl, h⟩
theorem mt_X7_partOf {a0 : Int64} {a2 : Int32}  {u : gg_M} {Q : Int32 → gg_M → Prop} (h : w_X7_partOf a0 a2 u Q) : gg_Mt 1 yX7_partOf cX7_partOf 3 (some .int) [.long a0, .int a2] u (gg_eI Q) :=
  gg_intro (own := RX7) (by decide +kernel) rfl rfl (Nat.le_of_ble_eq_true rfl) (fun G hG => m_X7_partOf hG  h)
/-! X7_unpack -/
def w_X7_unpack_c80 (r0 : Nat) (z1 : Int32) (u : gg_M)  (Q : gg_M → Prop) : Prop :=
  (z1 = 0 ∨ z1 = 1) ∧
  ∀ u2 : gg_M, u2 = gg_wI u r0 7 z1 →
  Q u2
set_option maxRecDepth 10000 in
theorem m_X7_unpack_c80 {r0 : Nat} {z1 : Int32} {u : gg_M}  {G : gg_T} {Q : gg_M → Prop} (hG : gg_Cl none cX7_unpack 3 RX7 none 2 (gg_eV Q) G) (kr0 : gg_kd r0 = 7) (h : w_X7_unpack_c80 r0 z1 u  Q)   : G 80 [none, none, none] [.int z1, .ref r0] u := by
  unfold w_X7_unpack_c80 at h
  obtain ⟨h1, h⟩ := h
  refine gg_putI hG dX7_unpack_80 (gg_kd_lt kr0 (by decide)) kr0 fp_RX7_39 rfl (gg_nb h1).1 (gg_nb h1).2 ?_
  refine gg_nu (fun u2 eu2 => ?_)
  replace h := h u2 eu2
  exact gg_vret hG dX7_unpack_83 rfl ⟨rfl, h⟩
def w_X7_unpack (t0 : Nat) (a1 : Int64) (u : gg_M)  (Q : gg_M → Prop) : Prop :=
  w_X7_partOf a1 0 u (fun v4 u3 =>
  ∀ u5 : gg_M, u5 = gg_wI u3 t0 0 v4 →
  w_X7_partOf a1 1 u5 (fun v7 u6 =>
  ∀ u8 : gg_M, u8 = gg_wI u6 t0 1 v7 →
  w_X7_partOf a1 2 u8 (fun v10 u9 =>
  ∀ u11 : gg_M, u11 = gg_wI u9 t0 2 v10 →
  w_X7_partOf a1 3 u11 (fun v13 u12 =>
  ∀ u14 : gg_M, u14 = gg_wI u12 t0 3 v13 →
  w_X7_partOf a1 4 u14 (fun v16 u15 =>
  ∀ u17 : gg_M, u17 = gg_wI u15 t0 4 v16 →
  w_X7_partOf a1 5 u17 (fun v19 u18 =>
  ∀ u20 : gg_M, u20 = gg_wI u18 t0 5 v19 →
  w_X7_partOf a1 6 u20 (fun v22 u21 =>
  ∀ u23 : gg_M, u23 = gg_wI u21 t0 6 v22 →
  w_X7_partOf a1 7 u23 (fun v25 u24 =>
  (¬ v25 = 1 →
   w_X7_unpack_c80 t0 0 u24 Q) ∧
  (v25 = 1 →
   w_X7_unpack_c80 t0 1 u24 Q)))))))))
set_option maxRecDepth 10000 in
theorem m_X7_unpack {t0 : Nat} {a1 : Int64} {u : gg_M}  {G : gg_T} {Q : gg_M → Prop} (hG : gg_Cl none cX7_unpack 3 RX7 none 2 (gg_eV Q) G) (kt0 : gg_kd t0 = 7) (h : w_X7_unpack t0 a1 u  Q)   : G 0 [some (.ref t0), some (.long a1), none] [] u := by
  unfold w_X7_unpack at h
  refine gg_aload_n hG dX7_unpack_0 rfl rfl ?_
  refine gg_lload_n hG dX7_unpack_1 rfl rfl ?_
  refine gg_iconst (v := 0) hG dX7_unpack_2 (by decide) ?_
  refine gg_xs (As := [.long a1, .int 0]) (st := [.ref t0]) hG dX7_unpack_3 ml_RX7_43 Y_X7_partOf YS_X7_partOf (mt_X7_partOf h) rfl (by decide) (Nat.le_of_ble_eq_true rfl) rfl (gg_ki (fun v4 u3 h => ?_))
  refine gg_putI hG dX7_unpack_6 (gg_kd_lt kt0 (by decide)) kt0 fp_RX7_15 rfl rfl rfl ?_
  refine gg_nu (fun u5 eu5 => ?_)
  replace h := h u5 eu5
  refine gg_aload_n hG dX7_unpack_9 rfl rfl ?_
  refine gg_lload_n hG dX7_unpack_10 rfl rfl ?_
  refine gg_iconst (v := 1) hG dX7_unpack_11 (by decide) ?_
  refine gg_xs (As := [.long a1, .int 1]) (st := [.ref t0]) hG dX7_unpack_12 ml_RX7_43 Y_X7_partOf YS_X7_partOf (mt_X7_partOf h) rfl (by decide) (Nat.le_of_ble_eq_true rfl) rfl (gg_ki (fun v7 u6 h => ?_))
  refine gg_putI hG dX7_unpack_15 (gg_kd_lt kt0 (by decide)) kt0 fp_RX7_21 rfl rfl rfl ?_
  refine gg_nu (fun u8 eu8 => ?_)
  replace h := h u8 eu8
  refine gg_aload_n hG dX7_unpack_18 rfl rfl ?_
  refine gg_lload_n hG dX7_unpack_19 rfl rfl ?_
  refine gg_iconst (v := 2) hG dX7_unpack_20 (by decide) ?_
  refine gg_xs (As := [.long a1, .int 2]) (st := [.ref t0]) hG dX7_unpack_21 ml_RX7_43 Y_X7_partOf YS_X7_partOf (mt_X7_partOf h) rfl (by decide) (Nat.le_of_ble_eq_true rfl) rfl (gg_ki (fun v10 u9 h => ?_))
  refine gg_putI hG dX7_unpack_24 (gg_kd_lt kt0 (by decide)) kt0 fp_RX7_24 rfl rfl rfl ?_
  refine gg_nu (fun u11 eu11 => ?_)
  replace h := h u11 eu11
  refine gg_aload_n hG dX7_unpack_27 rfl rfl ?_
  refine gg_lload_n hG dX7_unpack_28 rfl rfl ?_
  refine gg_iconst (v := 3) hG dX7_unpack_29 (by decide) ?_
  refine gg_xs (As := [.long a1, .int 3]) (st := [.ref t0]) hG dX7_unpack_30 ml_RX7_43 Y_X7_partOf YS_X7_partOf (mt_X7_partOf h) rfl (by decide) (Nat.le_of_ble_eq_true rfl) rfl (gg_ki (fun v13 u12 h => ?_))
  refine gg_putI hG dX7_unpack_33 (gg_kd_lt kt0 (by decide)) kt0 fp_RX7_27 rfl rfl rfl ?_
  refine gg_nu (fun u14 eu14 => ?_)
  replace h := h u14 eu14
  refine gg_aload_n hG dX7_unpack_36 rfl rfl ?_
  refine gg_lload_n hG dX7_unpack_37 rfl rfl ?_
  refine gg_iconst (v := 4) hG dX7_unpack_38 (by decide) ?_
  refine gg_xs (As := [.long a1, .int 4]) (st := [.ref t0]) hG dX7_unpack_39 ml_RX7_43 Y_X7_partOf YS_X7_partOf (mt_X7_partOf h) rfl (by decide) (Nat.le_of_ble_eq_true rfl) rfl (gg_ki (fun v16 u15 h => ?_))
  refine gg_putI hG dX7_unpack_42 (gg_kd_lt kt0 (by decide)) kt0 fp_RX7_30 rfl rfl rfl ?_
  refine gg_nu (fun u17 eu17 => ?_)
  replace h := h u17 eu17
  refine gg_aload_n hG dX7_unpack_45 rfl rfl ?_
  refine gg_lload_n hG dX7_unpack_46 rfl rfl ?_
  refine gg_iconst (v := 5) hG dX7_unpack_47 (by decide) ?_
  refine gg_xs (As := [.long a1, .int 5]) (st := [.ref t0]) hG dX7_unpack_48 ml_RX7_43 Y_X7_partOf YS_X7_partOf (mt_X7_partOf h) rfl (by decide) (Nat.le_of_ble_eq_true rfl) rfl (gg_ki (fun v19 u18 h => ?_))
  refine gg_putI hG dX7_unpack_51 (gg_kd_lt kt0 (by decide)) kt0 fp_RX7_33 rfl rfl rfl ?_
  refine gg_nu (fun u20 eu20 => ?_)
  replace h := h u20 eu20
  refine gg_aload_n hG dX7_unpack_54 rfl rfl ?_
  refine gg_lload_n hG dX7_unpack_55 rfl rfl ?_
  refine gg_bipush (v := 6) hG dX7_unpack_56 (by decide) ?_
  refine gg_xs (As := [.long a1, .int 6]) (st := [.ref t0]) hG dX7_unpack_58 ml_RX7_43 Y_X7_partOf YS_X7_partOf (mt_X7_partOf h) rfl (by decide) (Nat.le_of_ble_eq_true rfl) rfl (gg_ki (fun v22 u21 h => ?_))
  refine gg_putI hG dX7_unpack_61 (gg_kd_lt kt0 (by decide)) kt0 fp_RX7_36 rfl rfl rfl ?_
  refine gg_nu (fun u23 eu23 => ?_)
  replace h := h u23 eu23
  refine gg_aload_n hG dX7_unpack_64 rfl rfl ?_
  refine gg_lload_n hG dX7_unpack_65 rfl rfl ?_
  refine gg_bipush (v := 7) hG dX7_unpack_66 (by decide) ?_
  refine gg_xs (As := [.long a1, .int 7]) (st := [.ref t0]) hG dX7_unpack_68 ml_RX7_43 Y_X7_partOf YS_X7_partOf (mt_X7_partOf h) rfl (by decide) (Nat.le_of_ble_eq_true rfl) rfl (gg_ki (fun v25 u24 h => ?_))
  refine gg_iconst (v := 1) hG dX7_unpack_71 (by decide) ?_
  refine gg_ic_ne (tgt := 79) hG dX7_unpack_72 (by decide) (fun c26 => ?_) (fun c26 => ?_)
  · replace h := h.1 c26
    refine gg_iconst (v := 0) hG dX7_unpack_79 (by decide) ?_
    refine gg_mk hG [false, false, false] rfl ?_
    exact m_X7_unpack_c80 hG kt0 h
  · replace h := h.2 c26
    refine gg_iconst (v := 1) hG dX7_unpack_75 (by decide) ?_
    refine gg_goto (tgt := 80) hG dX7_unpack_76 (by decide) ?_
    refine gg_mk hG [false, false, false] rfl ?_
    exact m_X7_unpack_c80 hG kt0 h
theorem mt_X7_unpack {t0 : Nat} {a1 : Int64} (kt0 : gg_kd t0 = 7) {u : gg_M} {Q : gg_M → Prop} (h : w_X7_unpack t0 a1 u Q) : gg_Mt 2 yX7_unpack cX7_unpack 3 none [.ref t0, .long a1] u (gg_eV Q) :=
  gg_intro (own := RX7) (by decide +kernel) rfl rfl (Nat.le_of_ble_eq_true rfl) (fun G hG => m_X7_unpack hG kt0 h)
/-! X1_part -/
def w_X1_part_c167  (u : gg_M)  (Q : gg_M → Prop) : Prop :=
  Q u
set_option maxRecDepth 10000 in
theorem m_X1_part_c167  {u : gg_M}  {G : gg_T} {Q : gg_M → Prop} (hG : gg_Cl none cX1_part 7 RX1 none 4 (gg_eV Q) G)  (h : w_X1_part_c167  u  Q)   : G 167 [none, none, none, none, none, none, none] [] u := by
  unfold w_X1_part_c167 at h
  exact gg_vret hG dX1_part_167 rfl ⟨rfl, h⟩
def w_X1_part_c161 (a2 : Int32) (a3 : Int32) (a4 : Int32) (a5 : Int32) (u : gg_M) (k35 : Int32 × gg_M → Prop) (Q : gg_M → Prop) : Prop :=
  k35 ((a5 + 1), u)
set_option maxRecDepth 10000 in
theorem m_X1_part_c161 {a2 : Int32} {a3 : Int32} {a4 : Int32} {a5 : Int32} {u : gg_M} {k35 : Int32 × gg_M → Prop} {G : gg_T} {Q : gg_M → Prop} (hG : gg_Cl none cX1_part 7 RX1 none 4 (gg_eV Q) G)  (h : w_X1_part_c161 a2 a3 a4 a5 u k35 Q)  (hk35 : ∀ s : Int32 × gg_M, k35 s → G 35 [some (.ref 15), some (.ref 6), some (.int a2), some (.int a3), some (.int a4), some (.int s.1), none] [] s.2) : G 161 [some (.ref 15), some (.ref 6), some (.int a2), some (.int a3), some (.int a4), some (.int a5), none] [] u := by
  unfold w_X1_part_c161 at h
  refine gg_iinc (v := (a5 + 1)) (L1 := [some (.ref 15), some (.ref 6), some (.int a2), some (.int a3), some (.int a4), some (.int (a5 + 1)), none]) hG dX1_part_161 rfl rfl (by decide) rfl ?_
  refine gg_goto (tgt := 35) hG dX1_part_164 (by decide) ?_
  exact hk35 _ h
def b_X1_part_c35 (a2 : Int32) (a3 : Int32) (a4 : Int32) (a5 : Int32) (u : gg_M)  (k35 : Int32 × gg_M → Prop) (Q : gg_M → Prop) : Prop :=
  (32 ≤ a5 →
   w_X1_part_c167 u Q) ∧
  (¬ 32 ≤ a5 →
   ((gu_ushr a2 a5) = 0 →
    w_X1_part_c167 u Q) ∧
   (¬ (gu_ushr a2 a5) = 0 →
    (¬ ((gu_ushr a2 a5) &&& 1) = 0 →
     vp_in ((a4 * 32) + a5) 128 ∧
     w_X7_unpack 29 (u.2 16 (((a4 * 32) + a5).toNatClampNeg)) u (fun u5 =>
     w_X7_does 29 a3 u5 (fun v7 u6 =>
     w_X7_pack 29 u6 (fun v9 u8 =>
     vp_in (((a4 + 1) * 32) + a5) 128 ∧
     ∀ u11 : gg_M, u11 = gg_wL u8 16 ((((a4 + 1) * 32) + a5).toNatClampNeg) v9 →
     w_X10_isBelow v7 7 u11 (fun v13 u12 =>
     (v13 = 0 →
      w_X1_part_c161 a2 a3 a4 a5 u12 k35 Q) ∧
     (¬ v13 = 0 →
      vp_in a4 3 ∧
      vp_in v7 (gg_al (gg_rf 18 a4.toNatClampNeg)) ∧
      vp_in v7 (gg_al (gg_rf 18 a4.toNatClampNeg)) ∧
      ∀ u18 : gg_M, u18 = gg_wI u12 (gg_rf 18 a4.toNatClampNeg) v7.toNatClampNeg ((u12.1 (gg_rf 18 a4.toNatClampNeg) v7.toNatClampNeg) ||| ((1 : Int32) <<< (a5 &&& 31))) →
      vp_in a4 3 ∧
      vp_in v7 (gg_al (gg_rf 22 a4.toNatClampNeg)) ∧
      vp_in a5 32 ∧
      vp_in v7 (gg_al (gg_rf 22 a4.toNatClampNeg)) ∧
      ∀ u23 : gg_M, u23 = gg_wI u18 (gg_rf 22 a4.toNatClampNeg) v7.toNatClampNeg ((u18.1 (gg_rf 22 a4.toNatClampNeg) v7.toNatClampNeg) + (u18.1 17 a5.toNatClampNeg)) →
      w_X1_part_c161 a2 a3 a4 a5 u23 k35 Q)))))) ∧
    (((gu_ushr a2 a5) &&& 1) = 0 →
     w_X1_part_c161 a2 a3 a4 a5 u k35 Q)))
set_option maxRecDepth 10000 in
theorem mb_X1_part_c35 {a2 : Int32} {a3 : Int32} {a4 : Int32} {a5 : Int32} {u : gg_M}  {k35 : Int32 × gg_M → Prop} {G : gg_T} {Q : gg_M → Prop} (hG : gg_Cl none cX1_part 7 RX1 none 4 (gg_eV Q) G)  (h : b_X1_part_c35 a2 a3 a4 a5 u k35 Q)   (hk35 : ∀ s : Int32 × gg_M, k35 s → G 35 [some (.ref 15), some (.ref 6), some (.int a2), some (.int a3), some (.int a4), some (.int s.1), none] [] s.2) : G 35 [some (.ref 15), some (.ref 6), some (.int a2), some (.int a3), some (.int a4), some (.int a5), none] [] u := by
  unfold b_X1_part_c35 at h
  refine gg_iload hG dX1_part_35 rfl ?_
  refine gg_bipush (v := 32) hG dX1_part_37 (by decide) ?_
  refine gg_ic_ge (tgt := 167) hG dX1_part_39 (by decide) (fun c1 => ?_) (fun c1 => ?_)
  · replace h := h.1 c1
    refine gg_mk hG [false, false, false, false, false, false, false] rfl ?_
    exact m_X1_part_c167 hG h
  · replace h := h.2 c1
    refine gg_iload_n hG dX1_part_42 rfl rfl ?_
    refine gg_iload hG dX1_part_43 rfl ?_
    refine gg_iushr hG dX1_part_45 ?_
    refine gg_if_eq (tgt := 167) hG dX1_part_46 (by decide) (fun c2 => ?_) (fun c2 => ?_)
    · replace h := h.1 c2
      refine gg_mk hG [false, false, false, false, false, false, false] rfl ?_
      exact m_X1_part_c167 hG h
    · replace h := h.2 c2
      refine gg_iload_n hG dX1_part_49 rfl rfl ?_
      refine gg_iload hG dX1_part_50 rfl ?_
      refine gg_iushr hG dX1_part_52 ?_
      refine gg_iconst (v := 1) hG dX1_part_53 (by decide) ?_
      refine gg_iand hG dX1_part_54 ?_
      refine gg_if_ne (tgt := 61) hG dX1_part_55 (by decide) (fun c3 => ?_) (fun c3 => ?_)
      · replace h := h.1 c3
        refine gg_aload_n hG dX1_part_61 rfl rfl ?_
        refine gg_get (v := .ref 29) hG dX1_part_62 (by decide) rfl fl_RX1_39 rfl ?_
        refine gg_aload_n hG dX1_part_65 rfl rfl ?_
        refine gg_get (v := .ref 16) hG dX1_part_66 (by decide) rfl fl_RX1_9 rfl ?_
        refine gg_iload hG dX1_part_69 rfl ?_
        refine gg_bipush (v := 32) hG dX1_part_71 (by decide) ?_
        refine gg_imul hG dX1_part_73 ?_
        refine gg_iload hG dX1_part_74 rfl ?_
        refine gg_iadd hG dX1_part_76 ?_
        obtain ⟨h4, h⟩ := h
        refine gg_lald (j := ((a4 * 32) + a5).toNatClampNeg) hG dX1_part_77 (by decide) rfl h4 rfl ?_
        refine gg_xv (As := [.long (u.2 16 (((a4 * 32) + a5).toNatClampNeg))]) (st := []) hG dX1_part_78 ml_RX1_102 Y_X7_unpack YV_X7_unpack (by decide) ⟨_, rfl, rfl⟩ (mt_X7_unpack rfl h) rfl (by decide) (Nat.le_of_ble_eq_true rfl) rfl (gg_kv (fun u5 h => ?_))
        refine gg_aload_n hG dX1_part_81 rfl rfl ?_
        refine gg_get (v := .ref 29) hG dX1_part_82 (by decide) rfl fl_RX1_39 rfl ?_
        refine gg_aload_n hG dX1_part_85 rfl rfl ?_
        refine gg_iload_n hG dX1_part_86 rfl rfl ?_
        refine gg_xv (As := [.ref 6, .int a3]) (st := []) hG dX1_part_87 ml_RX1_63 Y_X7_does YV_X7_does (by decide) ⟨_, rfl, rfl⟩ (mt_X7_does rfl h) rfl (by decide) (Nat.le_of_ble_eq_true rfl) rfl (gg_ki (fun v7 u6 h => ?_))
        refine gg_istore (L1 := [some (.ref 15), some (.ref 6), some (.int a2), some (.int a3), some (.int a4), some (.int a5), some (.int v7)]) hG dX1_part_90 (by decide) rfl ?_
        refine gg_aload_n hG dX1_part_92 rfl rfl ?_
        refine gg_get (v := .ref 16) hG dX1_part_93 (by decide) rfl fl_RX1_9 rfl ?_
        refine gg_iload hG dX1_part_96 rfl ?_
        refine gg_iconst (v := 1) hG dX1_part_98 (by decide) ?_
        refine gg_iadd hG dX1_part_99 ?_
        refine gg_bipush (v := 32) hG dX1_part_100 (by decide) ?_
        refine gg_imul hG dX1_part_102 ?_
        refine gg_iload hG dX1_part_103 rfl ?_
        refine gg_iadd hG dX1_part_105 ?_
        refine gg_aload_n hG dX1_part_106 rfl rfl ?_
        refine gg_get (v := .ref 29) hG dX1_part_107 (by decide) rfl fl_RX1_39 rfl ?_
        refine gg_xv (As := []) (st := [.int (((a4 + 1) * 32) + a5), .ref 16]) hG dX1_part_110 ml_RX1_70 Y_X7_pack YV_X7_pack (by decide) ⟨_, rfl, rfl⟩ (mt_X7_pack rfl h) rfl (by decide) (Nat.le_of_ble_eq_true rfl) rfl (gg_kj (fun v9 u8 h => ?_))
        obtain ⟨h10, h⟩ := h
        refine gg_last (j := (((a4 + 1) * 32) + a5).toNatClampNeg) hG dX1_part_113 (by decide) rfl h10 rfl ?_
        refine gg_nu (fun u11 eu11 => ?_)
        replace h := h u11 eu11
        refine gg_iload hG dX1_part_114 rfl ?_
        refine gg_bipush (v := 7) hG dX1_part_116 (by decide) ?_
        refine gg_xsN (As := [.int v7, .int 7]) (st := []) hG dX1_part_118 ml_RX1_98 Y_X10_isBelow YS_X10_isBelow (mt_X10_isBelow h) rfl (by decide) (Nat.le_of_ble_eq_true rfl) rfl (gg_ki (fun v13 u12 h => ?_))
        refine gg_if_eq (tgt := 161) hG dX1_part_121 (by decide) (fun c14 => ?_) (fun c14 => ?_)
        · replace h := h.1 c14
          refine gg_mk hG [true, true, true, true, true, true, false] rfl ?_
          exact m_X1_part_c161 hG h hk35
        · replace h := h.2 c14
          refine gg_aload_n hG dX1_part_124 rfl rfl ?_
          refine gg_get (v := .ref 18) hG dX1_part_125 (by decide) rfl fl_RX1_21 rfl ?_
          refine gg_iload hG dX1_part_128 rfl ?_
          obtain ⟨h15, h⟩ := h
          refine gg_aald (j := a4.toNatClampNeg) (r := (gg_rf 18 a4.toNatClampNeg)) hG dX1_part_130 (by decide) (Or.inr rfl) h15 rfl rfl ?_
          refine gg_iload hG dX1_part_131 rfl ?_
          refine gg_dup2 hG dX1_part_133 rfl rfl ?_
          obtain ⟨h16, h⟩ := h
          refine gg_iald (j := v7.toNatClampNeg) hG dX1_part_134 (gg_kd_lt (gg_rf18 h15) (by decide)) (gg_rf18 h15) h16 rfl ?_
          refine gg_iconst (v := 1) hG dX1_part_135 (by decide) ?_
          refine gg_iload hG dX1_part_136 rfl ?_
          refine gg_ishl hG dX1_part_138 ?_
          refine gg_ior hG dX1_part_139 ?_
          obtain ⟨h17, h⟩ := h
          refine gg_iast (j := v7.toNatClampNeg) hG dX1_part_140 (gg_kd_lt (gg_rf18 h15) (by decide)) (gg_rf18 h15) h17 rfl ?_
          refine gg_nu (fun u18 eu18 => ?_)
          replace h := h u18 eu18
          refine gg_aload_n hG dX1_part_141 rfl rfl ?_
          refine gg_get (v := .ref 22) hG dX1_part_142 (by decide) rfl fl_RX1_24 rfl ?_
          refine gg_iload hG dX1_part_145 rfl ?_
          obtain ⟨h19, h⟩ := h
          refine gg_aald (j := a4.toNatClampNeg) (r := (gg_rf 22 a4.toNatClampNeg)) hG dX1_part_147 (by decide) (Or.inr rfl) h19 rfl rfl ?_
          refine gg_iload hG dX1_part_148 rfl ?_
          refine gg_dup2 hG dX1_part_150 rfl rfl ?_
          obtain ⟨h20, h⟩ := h
          refine gg_iald (j := v7.toNatClampNeg) hG dX1_part_151 (gg_kd_lt (gg_rf22 h19) (by decide)) (gg_rf22 h19) h20 rfl ?_
          refine gg_aload_n hG dX1_part_152 rfl rfl ?_
          refine gg_get (v := .ref 17) hG dX1_part_153 (by decide) rfl fl_RX1_15 rfl ?_
          refine gg_iload hG dX1_part_156 rfl ?_
          obtain ⟨h21, h⟩ := h
          refine gg_iald (j := a5.toNatClampNeg) hG dX1_part_158 (by decide) rfl h21 rfl ?_
          refine gg_iadd hG dX1_part_159 ?_
          obtain ⟨h22, h⟩ := h
          refine gg_iast (j := v7.toNatClampNeg) hG dX1_part_160 (gg_kd_lt (gg_rf22 h19) (by decide)) (gg_rf22 h19) h22 rfl ?_
          refine gg_nu (fun u23 eu23 => ?_)
          replace h := h u23 eu23
          refine gg_mk hG [true, true, true, true, true, true, false] rfl ?_
          exact m_X1_part_c161 hG h hk35
      · replace h := h.2 c3
        refine gg_goto (tgt := 161) hG dX1_part_58 (by decide) ?_
        exact m_X1_part_c161 hG h hk35
def w_X1_part_c35 (a2 : Int32) (a3 : Int32) (a4 : Int32) (a5 : Int32) (u : gg_M)  (Q : gg_M → Prop) : Prop :=
  gg_loop (fun (s : Int32 × gg_M) k35 => b_X1_part_c35 a2 a3 a4 s.1 s.2  k35 Q) (a5, u)
set_option maxRecDepth 10000 in
theorem m_X1_part_c35 {a2 : Int32} {a3 : Int32} {a4 : Int32} {a5 : Int32} {u : gg_M}  {G : gg_T} {Q : gg_M → Prop} (hG : gg_Cl none cX1_part 7 RX1 none 4 (gg_eV Q) G)  (h : w_X1_part_c35 a2 a3 a4 a5 u  Q)   : G 35 [some (.ref 15), some (.ref 6), some (.int a2), some (.int a3), some (.int a4), some (.int a5), none] [] u :=
  gg_loop_use (P := fun s : Int32 × gg_M => G 35 [some (.ref 15), some (.ref 6), some (.int a2), some (.int a3), some (.int a4), some (.int s.1), none] [] s.2) h (fun s rc hb hr => mb_X1_part_c35 hG  hb   hr)
def w_X1_part (a2 : Int32) (a3 : Int32) (a4 : Int32) (u : gg_M)  (Q : gg_M → Prop) : Prop :=
  w_X10_isBelow a4 3 u (fun v25 u24 =>
  (¬ v25 = 0 →
   vp_in a4 3 ∧
   w_J7_fill_53178 (gg_rf 18 a4.toNatClampNeg) 0 u24 (fun u28 =>
   vp_in a4 3 ∧
   w_J7_fill_53178 (gg_rf 22 a4.toNatClampNeg) 0 u28 (fun u30 =>
   w_X1_part_c35 a2 a3 a4 0 u30 Q))) ∧
  (v25 = 0 →
   Q u24))
set_option maxRecDepth 10000 in
theorem m_X1_part {a2 : Int32} {a3 : Int32} {a4 : Int32} {u : gg_M}  {G : gg_T} {Q : gg_M → Prop} (hG : gg_Cl none cX1_part 7 RX1 none 4 (gg_eV Q) G)  (h : w_X1_part a2 a3 a4 u  Q)   : G 0 [some (.ref 15), some (.ref 6), some (.int a2), some (.int a3), some (.int a4), none, none] [] u := by
  unfold w_X1_part at h
  refine gg_iload hG dX1_part_0 rfl ?_
  refine gg_iconst (v := 3) hG dX1_part_2 (by decide) ?_
  refine gg_xsN (As := [.int a4, .int 3]) (st := []) hG dX1_part_3 ml_RX1_98 Y_X10_isBelow YS_X10_isBelow (mt_X10_isBelow h) rfl (by decide) (Nat.le_of_ble_eq_true rfl) rfl (gg_ki (fun v25 u24 h => ?_))
  refine gg_if_ne (tgt := 10) hG dX1_part_6 (by decide) (fun c26 => ?_) (fun c26 => ?_)
  · replace h := h.1 c26
    refine gg_aload_n hG dX1_part_10 rfl rfl ?_
    refine gg_get (v := .ref 18) hG dX1_part_11 (by decide) rfl fl_RX1_21 rfl ?_
    refine gg_iload hG dX1_part_14 rfl ?_
    obtain ⟨h27, h⟩ := h
    refine gg_aald (j := a4.toNatClampNeg) (r := (gg_rf 18 a4.toNatClampNeg)) hG dX1_part_16 (by decide) (Or.inr rfl) h27 rfl rfl ?_
    refine gg_iconst (v := 0) hG dX1_part_17 (by decide) ?_
    refine gg_xs (As := [.ref (gg_rf 18 a4.toNatClampNeg), .int 0]) (st := []) hG dX1_part_18 ml_RX1_84 Y_J7_fill_53178 YS_J7_fill_53178 (mt_J7_fill_53178 (gg_rf18 h27) h) rfl (by decide) (Nat.le_of_ble_eq_true rfl) rfl (gg_kv (fun u28 h => ?_))
    refine gg_aload_n hG dX1_part_21 rfl rfl ?_
    refine gg_get (v := .ref 22) hG dX1_part_22 (by decide) rfl fl_RX1_24 rfl ?_
    refine gg_iload hG dX1_part_25 rfl ?_
    obtain ⟨h29, h⟩ := h
    refine gg_aald (j := a4.toNatClampNeg) (r := (gg_rf 22 a4.toNatClampNeg)) hG dX1_part_27 (by decide) (Or.inr rfl) h29 rfl rfl ?_
    refine gg_iconst (v := 0) hG dX1_part_28 (by decide) ?_
    refine gg_xs (As := [.ref (gg_rf 22 a4.toNatClampNeg), .int 0]) (st := []) hG dX1_part_29 ml_RX1_84 Y_J7_fill_53178 YS_J7_fill_53178 (mt_J7_fill_53178 (gg_rf22 h29) h) rfl (by decide) (Nat.le_of_ble_eq_true rfl) rfl (gg_kv (fun u30 h => ?_))
    refine gg_iconst (v := 0) hG dX1_part_32 (by decide) ?_
    refine gg_istore (L1 := [some (.ref 15), some (.ref 6), some (.int a2), some (.int a3), some (.int a4), some (.int 0), none]) hG dX1_part_33 (by decide) rfl ?_
    exact m_X1_part_c35 hG h
  · replace h := h.2 c26
    exact gg_vret hG dX1_part_9 rfl ⟨rfl, h⟩
theorem mt_X1_part {a2 : Int32} {a3 : Int32} {a4 : Int32}  {u : gg_M} {Q : gg_M → Prop} (h : w_X1_part a2 a3 a4 u Q) : gg_Mt 4 yX1_part cX1_part 7 none [.ref 15, .ref 6, .int a2, .int a3, .int a4] u (gg_eV Q) :=
  gg_intro (own := RX1) (by decide +kernel) rfl rfl (Nat.le_of_ble_eq_true rfl) (fun G hG => m_X1_part hG  h)
end
