section
-- ===== PART A: goes FIRST, ahead of the names: the tables' words, and 'selects' of the private methods out of them =====
/-- a private method of a class that the tables say can be made, by its rows of tables_1 -/
def lw_okq (q : MethodName × Nat) : Prop := (q.1.cls ≠ "java/lang/invoke/MethodHandle" ∧ q.1.cls ≠ "java/lang/invoke/VarHandle") ∧ Cond.instantiable q.1.cls q.2 ∈ tables_1 ∧ Cond.privateMethod q.1 ∈ tables_1 ∧ Cond.instanceMethod q.1 ∈ tables_1
theorem lw_p0 : lw_okq (⟨"ColdMotor$Motor", "reset", "()V"⟩, 2) := ⟨⟨by decide +kernel, by decide +kernel⟩, List.mem_of_getElem? (i := 46) (by decide +kernel), List.mem_of_getElem? (i := 52) (by decide +kernel), List.mem_of_getElem? (i := 53) (by decide +kernel)⟩
theorem lw_p1 : lw_okq (⟨"ColdMotor", "textOf", "(I)LColdMotor$Text;"⟩, 12) := ⟨⟨by decide +kernel, by decide +kernel⟩, List.mem_of_getElem? (i := 18) (by decide +kernel), List.mem_of_getElem? (i := 313) (by decide +kernel), List.mem_of_getElem? (i := 314) (by decide +kernel)⟩
theorem lw_p2 : lw_okq (⟨"ColdMotor", "understand", "(I)V"⟩, 12) := ⟨⟨by decide +kernel, by decide +kernel⟩, List.mem_of_getElem? (i := 18) (by decide +kernel), List.mem_of_getElem? (i := 321) (by decide +kernel), List.mem_of_getElem? (i := 322) (by decide +kernel)⟩
theorem lw_p3 : lw_okq (⟨"ColdMotor$Motor", "faultOf", "(LColdMotor$Text;)I"⟩, 2) := ⟨⟨by decide +kernel, by decide +kernel⟩, List.mem_of_getElem? (i := 46) (by decide +kernel), List.mem_of_getElem? (i := 329) (by decide +kernel), List.mem_of_getElem? (i := 330) (by decide +kernel)⟩
theorem lw_p4 : lw_okq (⟨"ColdMotor$Plan", "faultOf", "(LColdMotor$Text;)I"⟩, 3) := ⟨⟨by decide +kernel, by decide +kernel⟩, List.mem_of_getElem? (i := 68) (by decide +kernel), List.mem_of_getElem? (i := 353) (by decide +kernel), List.mem_of_getElem? (i := 354) (by decide +kernel)⟩
theorem lw_p5 : lw_okq (⟨"ColdMotor$Plan", "add", "(II)V"⟩, 3) := ⟨⟨by decide +kernel, by decide +kernel⟩, List.mem_of_getElem? (i := 68) (by decide +kernel), List.mem_of_getElem? (i := 359) (by decide +kernel), List.mem_of_getElem? (i := 360) (by decide +kernel)⟩
theorem lw_p6 : lw_okq (⟨"ColdMotor", "found", "(I)I"⟩, 12) := ⟨⟨by decide +kernel, by decide +kernel⟩, List.mem_of_getElem? (i := 18) (by decide +kernel), List.mem_of_getElem? (i := 395) (by decide +kernel), List.mem_of_getElem? (i := 396) (by decide +kernel)⟩
theorem lw_p7 : lw_okq (⟨"ColdMotor", "known", "()LColdMotor$Belief;"⟩, 12) := ⟨⟨by decide +kernel, by decide +kernel⟩, List.mem_of_getElem? (i := 18) (by decide +kernel), List.mem_of_getElem? (i := 413) (by decide +kernel), List.mem_of_getElem? (i := 414) (by decide +kernel)⟩
theorem lw_p8 : lw_okq (⟨"ColdMotor$State", "turn", "(LColdMotor$Motor;I)I"⟩, 8) := ⟨⟨by decide +kernel, by decide +kernel⟩, List.mem_of_getElem? (i := 124) (by decide +kernel), List.mem_of_getElem? (i := 437) (by decide +kernel), List.mem_of_getElem? (i := 438) (by decide +kernel)⟩
theorem lw_p9 : lw_okq (⟨"ColdMotor$State", "signOf", "(LColdMotor$Motor;I)I"⟩, 8) := ⟨⟨by decide +kernel, by decide +kernel⟩, List.mem_of_getElem? (i := 124) (by decide +kernel), List.mem_of_getElem? (i := 441) (by decide +kernel), List.mem_of_getElem? (i := 442) (by decide +kernel)⟩
theorem lw_p10 : lw_okq (⟨"ColdMotor$State", "tend", "(LColdMotor$Motor;I)I"⟩, 8) := ⟨⟨by decide +kernel, by decide +kernel⟩, List.mem_of_getElem? (i := 124) (by decide +kernel), List.mem_of_getElem? (i := 449) (by decide +kernel), List.mem_of_getElem? (i := 450) (by decide +kernel)⟩
theorem lw_p11 : lw_okq (⟨"ColdMotor$State", "dry", "()I"⟩, 8) := ⟨⟨by decide +kernel, by decide +kernel⟩, List.mem_of_getElem? (i := 124) (by decide +kernel), List.mem_of_getElem? (i := 453) (by decide +kernel), List.mem_of_getElem? (i := 454) (by decide +kernel)⟩
theorem lw_p12 : lw_okq (⟨"ColdMotor$Belief", "weightRunning", "(LColdMotor$Motor;IIII)I"⟩, 11) := ⟨⟨by decide +kernel, by decide +kernel⟩, List.mem_of_getElem? (i := 116) (by decide +kernel), List.mem_of_getElem? (i := 544) (by decide +kernel), List.mem_of_getElem? (i := 545) (by decide +kernel)⟩
theorem lw_p13 : lw_okq (⟨"ColdMotor", "tried", "()LColdMotor$Trial;"⟩, 12) := ⟨⟨by decide +kernel, by decide +kernel⟩, List.mem_of_getElem? (i := 18) (by decide +kernel), List.mem_of_getElem? (i := 554) (by decide +kernel), List.mem_of_getElem? (i := 555) (by decide +kernel)⟩
theorem lw_p14 : lw_okq (⟨"ColdMotor$Mornings", "takeIfBetter", "(III)V"⟩, 6) := ⟨⟨by decide +kernel, by decide +kernel⟩, List.mem_of_getElem? (i := 222) (by decide +kernel), List.mem_of_getElem? (i := 640) (by decide +kernel), List.mem_of_getElem? (i := 641) (by decide +kernel)⟩
theorem lw_p15 : lw_okq (⟨"ColdMotorModel", "motorNow", "()I"⟩, 25) := ⟨⟨by decide +kernel, by decide +kernel⟩, List.mem_of_getElem? (i := 727) (by decide +kernel), List.mem_of_getElem? (i := 828) (by decide +kernel), List.mem_of_getElem? (i := 829) (by decide +kernel)⟩
def lw_privs_1 : List (MethodName × Nat) := [(⟨"ColdMotor$Motor", "reset", "()V"⟩, 2), (⟨"ColdMotor", "textOf", "(I)LColdMotor$Text;"⟩, 12), (⟨"ColdMotor", "understand", "(I)V"⟩, 12), (⟨"ColdMotor$Motor", "faultOf", "(LColdMotor$Text;)I"⟩, 2), (⟨"ColdMotor$Plan", "faultOf", "(LColdMotor$Text;)I"⟩, 3), (⟨"ColdMotor$Plan", "add", "(II)V"⟩, 3), (⟨"ColdMotor", "found", "(I)I"⟩, 12), (⟨"ColdMotor", "known", "()LColdMotor$Belief;"⟩, 12), (⟨"ColdMotor$State", "turn", "(LColdMotor$Motor;I)I"⟩, 8), (⟨"ColdMotor$State", "signOf", "(LColdMotor$Motor;I)I"⟩, 8), (⟨"ColdMotor$State", "tend", "(LColdMotor$Motor;I)I"⟩, 8), (⟨"ColdMotor$State", "dry", "()I"⟩, 8), (⟨"ColdMotor$Belief", "weightRunning", "(LColdMotor$Motor;IIII)I"⟩, 11), (⟨"ColdMotor", "tried", "()LColdMotor$Trial;"⟩, 12), (⟨"ColdMotor$Mornings", "takeIfBetter", "(III)V"⟩, 6), (⟨"ColdMotorModel", "motorNow", "()I"⟩, 25)]
theorem lw_r1 : ∀ q ∈ lw_privs_1, lw_okq q := List.forall_mem_cons.mpr ⟨lw_p0, List.forall_mem_cons.mpr ⟨lw_p1, List.forall_mem_cons.mpr ⟨lw_p2, List.forall_mem_cons.mpr ⟨lw_p3, List.forall_mem_cons.mpr ⟨lw_p4, List.forall_mem_cons.mpr ⟨lw_p5, List.forall_mem_cons.mpr ⟨lw_p6, List.forall_mem_cons.mpr ⟨lw_p7, List.forall_mem_cons.mpr ⟨lw_p8, List.forall_mem_cons.mpr ⟨lw_p9, List.forall_mem_cons.mpr ⟨lw_p10, List.forall_mem_cons.mpr ⟨lw_p11, List.forall_mem_cons.mpr ⟨lw_p12, List.forall_mem_cons.mpr ⟨lw_p13, List.forall_mem_cons.mpr ⟨lw_p14, List.forall_mem_cons.mpr ⟨lw_p15, fun _ h => absurd h List.not_mem_nil⟩⟩⟩⟩⟩⟩⟩⟩⟩⟩⟩⟩⟩⟩⟩⟩
theorem lw_p16 : lw_okq (⟨"ColdMotorModel", "motorFault", "()I"⟩, 25) := ⟨⟨by decide +kernel, by decide +kernel⟩, List.mem_of_getElem? (i := 727) (by decide +kernel), List.mem_of_getElem? (i := 832) (by decide +kernel), List.mem_of_getElem? (i := 833) (by decide +kernel)⟩
theorem lw_p17 : lw_okq (⟨"ColdMotorModel", "plain", "()V"⟩, 25) := ⟨⟨by decide +kernel, by decide +kernel⟩, List.mem_of_getElem? (i := 727) (by decide +kernel), List.mem_of_getElem? (i := 836) (by decide +kernel), List.mem_of_getElem? (i := 837) (by decide +kernel)⟩
theorem lw_p18 : lw_okq (⟨"ColdMotorModel", "byteAt", "(II)I"⟩, 25) := ⟨⟨by decide +kernel, by decide +kernel⟩, List.mem_of_getElem? (i := 727) (by decide +kernel), List.mem_of_getElem? (i := 840) (by decide +kernel), List.mem_of_getElem? (i := 841) (by decide +kernel)⟩
theorem lw_p19 : lw_okq (⟨"ColdMotorModel", "habitNow", "()I"⟩, 25) := ⟨⟨by decide +kernel, by decide +kernel⟩, List.mem_of_getElem? (i := 727) (by decide +kernel), List.mem_of_getElem? (i := 853) (by decide +kernel), List.mem_of_getElem? (i := 854) (by decide +kernel)⟩
theorem lw_p20 : lw_okq (⟨"ColdMotorModel", "motorOf", "(I)I"⟩, 25) := ⟨⟨by decide +kernel, by decide +kernel⟩, List.mem_of_getElem? (i := 727) (by decide +kernel), List.mem_of_getElem? (i := 861) (by decide +kernel), List.mem_of_getElem? (i := 862) (by decide +kernel)⟩
theorem lw_p21 : lw_okq (⟨"ColdMotorModel", "more", "(II)I"⟩, 25) := ⟨⟨by decide +kernel, by decide +kernel⟩, List.mem_of_getElem? (i := 727) (by decide +kernel), List.mem_of_getElem? (i := 873) (by decide +kernel), List.mem_of_getElem? (i := 874) (by decide +kernel)⟩
theorem lw_p22 : lw_okq (⟨"ColdMotorModel", "meets", "(I)I"⟩, 25) := ⟨⟨by decide +kernel, by decide +kernel⟩, List.mem_of_getElem? (i := 727) (by decide +kernel), List.mem_of_getElem? (i := 884) (by decide +kernel), List.mem_of_getElem? (i := 885) (by decide +kernel)⟩
theorem lw_p23 : lw_okq (⟨"ColdMotorModel", "leftNow", "()I"⟩, 25) := ⟨⟨by decide +kernel, by decide +kernel⟩, List.mem_of_getElem? (i := 727) (by decide +kernel), List.mem_of_getElem? (i := 896) (by decide +kernel), List.mem_of_getElem? (i := 897) (by decide +kernel)⟩
theorem lw_p24 : lw_okq (⟨"ColdMotorModel", "lays", "()V"⟩, 25) := ⟨⟨by decide +kernel, by decide +kernel⟩, List.mem_of_getElem? (i := 727) (by decide +kernel), List.mem_of_getElem? (i := 900) (by decide +kernel), List.mem_of_getElem? (i := 901) (by decide +kernel)⟩
theorem lw_p25 : lw_okq (⟨"ColdMotorModel", "begins", "(II)V"⟩, 25) := ⟨⟨by decide +kernel, by decide +kernel⟩, List.mem_of_getElem? (i := 727) (by decide +kernel), List.mem_of_getElem? (i := 904) (by decide +kernel), List.mem_of_getElem? (i := 905) (by decide +kernel)⟩
theorem lw_p26 : lw_okq (⟨"ColdMotorModel", "does", "(III)I"⟩, 25) := ⟨⟨by decide +kernel, by decide +kernel⟩, List.mem_of_getElem? (i := 727) (by decide +kernel), List.mem_of_getElem? (i := 908) (by decide +kernel), List.mem_of_getElem? (i := 909) (by decide +kernel)⟩
theorem lw_p27 : lw_okq (⟨"ColdMotorModel", "turns", "(II)I"⟩, 25) := ⟨⟨by decide +kernel, by decide +kernel⟩, List.mem_of_getElem? (i := 727) (by decide +kernel), List.mem_of_getElem? (i := 915) (by decide +kernel), List.mem_of_getElem? (i := 916) (by decide +kernel)⟩
theorem lw_p28 : lw_okq (⟨"ColdMotorModel", "partsOf", "(I)J"⟩, 25) := ⟨⟨by decide +kernel, by decide +kernel⟩, List.mem_of_getElem? (i := 727) (by decide +kernel), List.mem_of_getElem? (i := 922) (by decide +kernel), List.mem_of_getElem? (i := 923) (by decide +kernel)⟩
theorem lw_p29 : lw_okq (⟨"ColdMotorModel", "troubleNow", "(II)J"⟩, 25) := ⟨⟨by decide +kernel, by decide +kernel⟩, List.mem_of_getElem? (i := 727) (by decide +kernel), List.mem_of_getElem? (i := 944) (by decide +kernel), List.mem_of_getElem? (i := 945) (by decide +kernel)⟩
theorem lw_p30 : lw_okq (⟨"ColdMotorModel", "stateNow", "(II)I"⟩, 25) := ⟨⟨by decide +kernel, by decide +kernel⟩, List.mem_of_getElem? (i := 727) (by decide +kernel), List.mem_of_getElem? (i := 952) (by decide +kernel), List.mem_of_getElem? (i := 953) (by decide +kernel)⟩
theorem lw_p31 : lw_okq (⟨"ColdMotorModel", "chanceNow", "(III)J"⟩, 25) := ⟨⟨by decide +kernel, by decide +kernel⟩, List.mem_of_getElem? (i := 727) (by decide +kernel), List.mem_of_getElem? (i := 964) (by decide +kernel), List.mem_of_getElem? (i := 965) (by decide +kernel)⟩
def lw_privs_2 : List (MethodName × Nat) := [(⟨"ColdMotorModel", "motorFault", "()I"⟩, 25), (⟨"ColdMotorModel", "plain", "()V"⟩, 25), (⟨"ColdMotorModel", "byteAt", "(II)I"⟩, 25), (⟨"ColdMotorModel", "habitNow", "()I"⟩, 25), (⟨"ColdMotorModel", "motorOf", "(I)I"⟩, 25), (⟨"ColdMotorModel", "more", "(II)I"⟩, 25), (⟨"ColdMotorModel", "meets", "(I)I"⟩, 25), (⟨"ColdMotorModel", "leftNow", "()I"⟩, 25), (⟨"ColdMotorModel", "lays", "()V"⟩, 25), (⟨"ColdMotorModel", "begins", "(II)V"⟩, 25), (⟨"ColdMotorModel", "does", "(III)I"⟩, 25), (⟨"ColdMotorModel", "turns", "(II)I"⟩, 25), (⟨"ColdMotorModel", "partsOf", "(I)J"⟩, 25), (⟨"ColdMotorModel", "troubleNow", "(II)J"⟩, 25), (⟨"ColdMotorModel", "stateNow", "(II)I"⟩, 25), (⟨"ColdMotorModel", "chanceNow", "(III)J"⟩, 25)]
theorem lw_r2 : ∀ q ∈ lw_privs_2, lw_okq q := List.forall_mem_cons.mpr ⟨lw_p16, List.forall_mem_cons.mpr ⟨lw_p17, List.forall_mem_cons.mpr ⟨lw_p18, List.forall_mem_cons.mpr ⟨lw_p19, List.forall_mem_cons.mpr ⟨lw_p20, List.forall_mem_cons.mpr ⟨lw_p21, List.forall_mem_cons.mpr ⟨lw_p22, List.forall_mem_cons.mpr ⟨lw_p23, List.forall_mem_cons.mpr ⟨lw_p24, List.forall_mem_cons.mpr ⟨lw_p25, List.forall_mem_cons.mpr ⟨lw_p26, List.forall_mem_cons.mpr ⟨lw_p27, List.forall_mem_cons.mpr ⟨lw_p28, List.forall_mem_cons.mpr ⟨lw_p29, List.forall_mem_cons.mpr ⟨lw_p30, List.forall_mem_cons.mpr ⟨lw_p31, fun _ h => absurd h List.not_mem_nil⟩⟩⟩⟩⟩⟩⟩⟩⟩⟩⟩⟩⟩⟩⟩⟩
theorem lw_p32 : lw_okq (⟨"ColdMotorModel", "those", "()I"⟩, 25) := ⟨⟨by decide +kernel, by decide +kernel⟩, List.mem_of_getElem? (i := 727) (by decide +kernel), List.mem_of_getElem? (i := 968) (by decide +kernel), List.mem_of_getElem? (i := 969) (by decide +kernel)⟩
theorem lw_p33 : lw_okq (⟨"ColdMotorModel", "goesOn", "(III)V"⟩, 25) := ⟨⟨by decide +kernel, by decide +kernel⟩, List.mem_of_getElem? (i := 727) (by decide +kernel), List.mem_of_getElem? (i := 972) (by decide +kernel), List.mem_of_getElem? (i := 973) (by decide +kernel)⟩
theorem lw_p34 : lw_okq (⟨"ColdMotorModel", "moves", "(III)V"⟩, 25) := ⟨⟨by decide +kernel, by decide +kernel⟩, List.mem_of_getElem? (i := 727) (by decide +kernel), List.mem_of_getElem? (i := 976) (by decide +kernel), List.mem_of_getElem? (i := 977) (by decide +kernel)⟩
theorem lw_p35 : lw_okq (⟨"ColdMotorModel", "groupBy", "(III)I"⟩, 25) := ⟨⟨by decide +kernel, by decide +kernel⟩, List.mem_of_getElem? (i := 727) (by decide +kernel), List.mem_of_getElem? (i := 980) (by decide +kernel), List.mem_of_getElem? (i := 981) (by decide +kernel)⟩
theorem lw_p36 : lw_okq (⟨"ColdMotorModel", "weightOf", "(I)J"⟩, 25) := ⟨⟨by decide +kernel, by decide +kernel⟩, List.mem_of_getElem? (i := 727) (by decide +kernel), List.mem_of_getElem? (i := 984) (by decide +kernel), List.mem_of_getElem? (i := 985) (by decide +kernel)⟩
theorem lw_p37 : lw_okq (⟨"ColdMotorModel", "partsNow", "(I)I"⟩, 25) := ⟨⟨by decide +kernel, by decide +kernel⟩, List.mem_of_getElem? (i := 727) (by decide +kernel), List.mem_of_getElem? (i := 992) (by decide +kernel), List.mem_of_getElem? (i := 993) (by decide +kernel)⟩
theorem lw_p38 : lw_okq (⟨"ColdMotorModel", "bestNow", "(II)J"⟩, 25) := ⟨⟨by decide +kernel, by decide +kernel⟩, List.mem_of_getElem? (i := 727) (by decide +kernel), List.mem_of_getElem? (i := 1004) (by decide +kernel), List.mem_of_getElem? (i := 1005) (by decide +kernel)⟩
theorem lw_p39 : lw_okq (⟨"ColdMotorModel", "inOne", "(II)J"⟩, 25) := ⟨⟨by decide +kernel, by decide +kernel⟩, List.mem_of_getElem? (i := 727) (by decide +kernel), List.mem_of_getElem? (i := 1008) (by decide +kernel), List.mem_of_getElem? (i := 1009) (by decide +kernel)⟩
theorem lw_p40 : lw_okq (⟨"ColdMotorModel", "inTwo", "(II)J"⟩, 25) := ⟨⟨by decide +kernel, by decide +kernel⟩, List.mem_of_getElem? (i := 727) (by decide +kernel), List.mem_of_getElem? (i := 1012) (by decide +kernel), List.mem_of_getElem? (i := 1013) (by decide +kernel)⟩
theorem lw_p41 : lw_okq (⟨"ColdMotorModel", "habitOf", "(II)J"⟩, 25) := ⟨⟨by decide +kernel, by decide +kernel⟩, List.mem_of_getElem? (i := 727) (by decide +kernel), List.mem_of_getElem? (i := 1020) (by decide +kernel), List.mem_of_getElem? (i := 1021) (by decide +kernel)⟩
theorem lw_p42 : lw_okq (⟨"ColdMotorModel", "runsBy", "(I)Z"⟩, 25) := ⟨⟨by decide +kernel, by decide +kernel⟩, List.mem_of_getElem? (i := 727) (by decide +kernel), List.mem_of_getElem? (i := 1024) (by decide +kernel), List.mem_of_getElem? (i := 1025) (by decide +kernel)⟩
theorem lw_p43 : lw_okq (⟨"ColdMotorModel", "hasNow", "(I)I"⟩, 25) := ⟨⟨by decide +kernel, by decide +kernel⟩, List.mem_of_getElem? (i := 727) (by decide +kernel), List.mem_of_getElem? (i := 1033) (by decide +kernel), List.mem_of_getElem? (i := 1034) (by decide +kernel)⟩
theorem lw_p44 : lw_okq (⟨"ColdMotorModel", "workNow", "(I)J"⟩, 25) := ⟨⟨by decide +kernel, by decide +kernel⟩, List.mem_of_getElem? (i := 727) (by decide +kernel), List.mem_of_getElem? (i := 1041) (by decide +kernel), List.mem_of_getElem? (i := 1042) (by decide +kernel)⟩
theorem lw_p45 : lw_okq (⟨"ColdMotorModel", "drownedNow", "(II)I"⟩, 25) := ⟨⟨by decide +kernel, by decide +kernel⟩, List.mem_of_getElem? (i := 727) (by decide +kernel), List.mem_of_getElem? (i := 1049) (by decide +kernel), List.mem_of_getElem? (i := 1050) (by decide +kernel)⟩
theorem lw_p46 : lw_okq (⟨"ColdMotorModel", "missesOf", "(III)I"⟩, 25) := ⟨⟨by decide +kernel, by decide +kernel⟩, List.mem_of_getElem? (i := 727) (by decide +kernel), List.mem_of_getElem? (i := 1071) (by decide +kernel), List.mem_of_getElem? (i := 1072) (by decide +kernel)⟩
theorem lw_p47 : lw_okq (⟨"ColdMotorModel", "fitsNow", "(I)I"⟩, 25) := ⟨⟨by decide +kernel, by decide +kernel⟩, List.mem_of_getElem? (i := 727) (by decide +kernel), List.mem_of_getElem? (i := 1082) (by decide +kernel), List.mem_of_getElem? (i := 1083) (by decide +kernel)⟩
def lw_privs_3 : List (MethodName × Nat) := [(⟨"ColdMotorModel", "those", "()I"⟩, 25), (⟨"ColdMotorModel", "goesOn", "(III)V"⟩, 25), (⟨"ColdMotorModel", "moves", "(III)V"⟩, 25), (⟨"ColdMotorModel", "groupBy", "(III)I"⟩, 25), (⟨"ColdMotorModel", "weightOf", "(I)J"⟩, 25), (⟨"ColdMotorModel", "partsNow", "(I)I"⟩, 25), (⟨"ColdMotorModel", "bestNow", "(II)J"⟩, 25), (⟨"ColdMotorModel", "inOne", "(II)J"⟩, 25), (⟨"ColdMotorModel", "inTwo", "(II)J"⟩, 25), (⟨"ColdMotorModel", "habitOf", "(II)J"⟩, 25), (⟨"ColdMotorModel", "runsBy", "(I)Z"⟩, 25), (⟨"ColdMotorModel", "hasNow", "(I)I"⟩, 25), (⟨"ColdMotorModel", "workNow", "(I)J"⟩, 25), (⟨"ColdMotorModel", "drownedNow", "(II)I"⟩, 25), (⟨"ColdMotorModel", "missesOf", "(III)I"⟩, 25), (⟨"ColdMotorModel", "fitsNow", "(I)I"⟩, 25)]
theorem lw_r3 : ∀ q ∈ lw_privs_3, lw_okq q := List.forall_mem_cons.mpr ⟨lw_p32, List.forall_mem_cons.mpr ⟨lw_p33, List.forall_mem_cons.mpr ⟨lw_p34, List.forall_mem_cons.mpr ⟨lw_p35, List.forall_mem_cons.mpr ⟨lw_p36, List.forall_mem_cons.mpr ⟨lw_p37, List.forall_mem_cons.mpr ⟨lw_p38, List.forall_mem_cons.mpr ⟨lw_p39, List.forall_mem_cons.mpr ⟨lw_p40, List.forall_mem_cons.mpr ⟨lw_p41, List.forall_mem_cons.mpr ⟨lw_p42, List.forall_mem_cons.mpr ⟨lw_p43, List.forall_mem_cons.mpr ⟨lw_p44, List.forall_mem_cons.mpr ⟨lw_p45, List.forall_mem_cons.mpr ⟨lw_p46, List.forall_mem_cons.mpr ⟨lw_p47, fun _ h => absurd h List.not_mem_nil⟩⟩⟩⟩⟩⟩⟩⟩⟩⟩⟩⟩⟩⟩⟩⟩
theorem lw_p48 : lw_okq (⟨"ColdMotorModel", "lacks", "(III)I"⟩, 25) := ⟨⟨by decide +kernel, by decide +kernel⟩, List.mem_of_getElem? (i := 727) (by decide +kernel), List.mem_of_getElem? (i := 1098) (by decide +kernel), List.mem_of_getElem? (i := 1099) (by decide +kernel)⟩
theorem lw_p49 : lw_okq (⟨"ColdMotorModel", "keep", "(III)V"⟩, 25) := ⟨⟨by decide +kernel, by decide +kernel⟩, List.mem_of_getElem? (i := 727) (by decide +kernel), List.mem_of_getElem? (i := 1102) (by decide +kernel), List.mem_of_getElem? (i := 1103) (by decide +kernel)⟩
theorem lw_p50 : lw_okq (⟨"ColdMotorModel", "sumOf", "(I)I"⟩, 25) := ⟨⟨by decide +kernel, by decide +kernel⟩, List.mem_of_getElem? (i := 727) (by decide +kernel), List.mem_of_getElem? (i := 1123) (by decide +kernel), List.mem_of_getElem? (i := 1124) (by decide +kernel)⟩
theorem lw_p51 : lw_okq (⟨"ColdMotorModel", "actsOfHabit", "()I"⟩, 25) := ⟨⟨by decide +kernel, by decide +kernel⟩, List.mem_of_getElem? (i := 727) (by decide +kernel), List.mem_of_getElem? (i := 1127) (by decide +kernel), List.mem_of_getElem? (i := 1128) (by decide +kernel)⟩
def lw_privs_4 : List (MethodName × Nat) := [(⟨"ColdMotorModel", "lacks", "(III)I"⟩, 25), (⟨"ColdMotorModel", "keep", "(III)V"⟩, 25), (⟨"ColdMotorModel", "sumOf", "(I)I"⟩, 25), (⟨"ColdMotorModel", "actsOfHabit", "()I"⟩, 25)]
theorem lw_r4 : ∀ q ∈ lw_privs_4, lw_okq q := List.forall_mem_cons.mpr ⟨lw_p48, List.forall_mem_cons.mpr ⟨lw_p49, List.forall_mem_cons.mpr ⟨lw_p50, List.forall_mem_cons.mpr ⟨lw_p51, fun _ h => absurd h List.not_mem_nil⟩⟩⟩⟩
def lw_privs : List (MethodName × Nat) := lw_privs_1 ++ (lw_privs_2 ++ (lw_privs_3 ++ (lw_privs_4)))
def lw_tbl : List Cond := k2_sels lw_privs ++ tables_1
theorem lw_privs_ok : ∀ q ∈ lw_privs, lw_okq q := by
  show ∀ q ∈ lw_privs_1 ++ (lw_privs_2 ++ (lw_privs_3 ++ (lw_privs_4))), lw_okq q
  exact List.forall_mem_append.mpr ⟨lw_r1, List.forall_mem_append.mpr ⟨lw_r2, List.forall_mem_append.mpr ⟨lw_r3, lw_r4⟩⟩⟩
end
section
/-- what the tables say of arrays of arrays (the printed names below want these two rows; mine) -/
def va_AOA (ty : FieldType) (U : State) : Prop := (Cond.arrayOver (.array ty)).before #[] U = true
theorem va_AOA.use {ty : FieldType} {A : Array Value} {U : State} (h : va_AOA ty U) : (Cond.arrayOver (.array ty)).before A U = true := h
/-! ===== BEGIN words of one list among another's, by their places ===== -/
theorem goodIn_r {big : List Cond} (ws : List Cond) (ps : List Nat) (hp : ws = ps.filterMap (fun i => big[i]?)) (h : ws.all goodWord = true) : GoodIn big ws := by
  intro w hw
  have h1 := List.all_eq_true.mp h w hw
  rw [hp] at hw
  obtain ⟨i, -, hi⟩ := List.mem_filterMap.mp hw
  have hm : w ∈ big := by first | exact List.mem_of_getElem? hi | exact List.getElem?_mem hi
  exact ⟨hm, good_of_word h1⟩
theorem goodIn_app {big a b : List Cond} (ha : GoodIn big a) (hb : GoodIn big b) : GoodIn big (a ++ b) := fun w h => (List.mem_append.mp h).elim (ha w) (hb w)
theorem goodIn_ca {big a b : List Cond} {c : Cond} (ha : GoodIn big (c :: a)) (hb : GoodIn big b) : GoodIn big (c :: (a ++ b)) := fun w h => (List.mem_cons.mp h).elim (fun e => ha w (List.mem_cons.mpr (Or.inl e))) (fun h => (List.mem_append.mp h).elim (fun h => ha w (List.mem_cons.mpr (Or.inr h))) (hb w))
theorem goodIn_sub {big ws : List Cond} (hm : ∀ w ∈ ws, w ∈ big) (h : ws.all goodWord = true) : GoodIn big ws := fun w hw => ⟨hm w hw, good_of_word (List.all_eq_true.mp h w hw)⟩
/-! ===== END ===== -/

/-! ===== BEGIN new T[n][m]: the outer array a place, the inner ones among the pooled ===== -/
/-- f, but v at every address of l -/
def vr_up {α : Type} (f : Nat → α) (l : List Nat) (v : α) : Nat → α := fun a => if a ∈ l then v else f a
theorem vr_up_in {α : Type} {f : Nat → α} {l : List Nat} {v : α} {a : Nat} (h : a ∈ l) : vr_up f l v a = v := if_pos h
theorem vr_up_ne {α : Type} {f : Nat → α} {l : List Nat} {v : α} {a : Nat} (h : a ∉ l) : vr_up f l v a = f a := if_neg h
theorem vr_rows {L l : List Nat} {f : Nat → va_E} {e : va_E} (h : ∀ a, a ∈ l → a ∉ L) : va_pl L f ++ l.map (fun a => (a, e)) = va_pl (L ++ l) (vr_up f l e) := by
  unfold va_pl
  rw [List.map_append]
  congr 1
  · apply List.map_congr_left
    intro a ha
    rw [vr_up_ne (fun q => h a q ha)]
  · apply List.map_congr_left
    intro a ha
    rw [vr_up_in ha]
theorem vr_lay {X rows : va_W} {x : Nat × va_E} {pl : va_W} {D : va_G} {cl : List vw_C} {H : Heap} (hP : va_P D cl (((X ++ pl) ++ [x]) ++ rows) H) : va_P D cl ((X ++ [x]) ++ (pl ++ rows)) H := by
  rw [List.append_assoc (X ++ pl)] at hP
  have h := va_P.swap hP
  rw [← List.append_assoc X] at h
  have h2 := va_P.swap h
  rw [List.append_assoc (X ++ [x])] at h2
  exact h2
theorem vr_layD {X rows : va_W} {x : Nat × va_E} {pl : va_W} {A : Nat → Prop} (hD : va_D A (((X ++ pl) ++ [x]) ++ rows)) : va_D A ((X ++ [x]) ++ (pl ++ rows)) := by
  rw [List.append_assoc (X ++ pl)] at hD
  have h := va_D.swap hD
  rw [← List.append_assoc X] at h
  have h2 := va_D.swap h
  rw [List.append_assoc (X ++ [x])] at h2
  exact h2
theorem vr_outer (c : ClassId) (N h0 : Nat) : ∀ i : Nat, Jvm.Free.Multi.outerC c N h0 i = arrV c N (fun j => va_rf (if j < i then some (h0 + 1 + j) else none))
  | 0 => by
    show ({ cls := c, slots := Array.replicate N .null, vm := .none } : Cell) = _
    rw [arrV_new]
    refine congrArg (arrV c N) (funext fun j => ?_)
    simp [va_rf]
  | i + 1 => by
    show (Jvm.Free.Multi.outerC c N h0 i).setSlot i (.ref (h0 + 1 + i)) = _
    rw [vr_outer c N h0 i, arrV_store]
    refine congrArg (arrV c N) (funext fun j => ?_)
    by_cases e : j = i
    · subst e
      simp [updV, va_rf]
    · by_cases h : j < i
      · simp [updV, e, h, Nat.lt_succ_of_lt h]
      · simp [updV, e, h, show ¬ j < i + 1 by omega]
section VGM
variable {p : Program} {l : Launch} {e : Env} {R : Room} {s : State} {m : MethodId} {args : Array Value} {below : List Frame} {meth : Method} {c : Code} {H : Heap} {locs : List Loc} {cells slots : Nat} {Q : State → Prop}
variable {cc : ByteArray} {pc : Nat} {ls : Array Slot} {rest : List Value} {D : va_G} {cl : List vw_C} {A : Nat → Prop} {a : Nat} {tys : List (ClassId × FieldType)} {ws : va_W} {H0 : Heap}
theorem va_mna {X : va_W} {L : List Nat} {f : Nat → va_E} {cc : ByteArray} (hexec : p.tables.exec = Jvm.exec) (hb : c.code = cc) {own : String} {index : Nat} {ty : FieldType} {cy : ClassId} (hown : s.vm.findClass own = some m.cls) (hclink : (Cond.classLink own index ("[" ++ (FieldType.array ty).toString)).before args s = true) (hover : va_AOA ty s) (harr : (Cond.arrayClass ty).before args s = true) (hcy : s.vm.findClass (FieldType.array ty).toString = some cy)
    (hK : va_K D cl tys s) (hP : va_P D cl (X ++ va_pl L f) H) (hD : va_D A (X ++ va_pl L f)) (hS : va_S A H0 H locs) (hA : ∀ q, H0.size ≤ q → A q) {n k : Int32} {N' K' : Nat} {z : vp_A} (hn : ¬ n < 0) (hk : ¬ k < 0) (hN : n.toNatClampNeg = N') (hM : k.toNatClampNeg = K')
    (hb1 : N' * 4 ≤ 536870912) (hb2 : K' * componentBytes ty ≤ 536870912) (hb3 : K' ≤ 536870912) (hdf : fits ty (defaultValue ty) = true) (hdd : (defaultValue ty).isDefault = true) (hcells : cells + (1 + N') ≤ R.cells) (hslots : slots + (N' + N' * K') ≤ R.slots) (hz : ∀ c : ClassId, Jvm.Free.Multi.innerC c K' (defaultValue ty) = vp_cell c z) (hdg : decode cc pc = .ok (.multianewarray index 2, 4))
    (kk : ∀ (q : Nat) (r : Nat → Nat) (cA : ClassId) (H1 : Heap), (∀ i j : Nat, i < N' → j < N' → r i = r j → i = j) → (∀ i : Nat, i < N' → r i ∉ L) → va_K D cl (tys ++ [(cA, .array ty)]) s →
      va_P D cl ((X ++ [(q, .inl (cA, N', .inr (.inr (.inr (.inr (fun i => if i < N' then some (r i) else none))))))]) ++ va_pl (L ++ (List.range N').map r) (vr_up f ((List.range N').map r) (.inl (cy, z)))) H1 → va_D A ((X ++ [(q, .inl (cA, N', .inr (.inr (.inr (.inr (fun i => if i < N' then some (r i) else none))))))]) ++ va_pl (L ++ (List.range N').map r) (vr_up f ((List.range N').map r) (.inl (cy, z)))) → va_S A H0 H1 locs →
      W p l e R s m args below meth c H1 locs (cells + 1 + N') (slots + N' + N' * K') Q (F0 m (pc + 4) ls (.ref q :: rest))) : W p l e R s m args below meth c H locs cells slots Q (F0 m pc ls (.int k :: .int n :: rest)) := by
  subst hN
  subst hM
  intro T hT Xs
  obtain ⟨vm₁, cA, comp, -, fA, fC, hO, -, X', step⟩ := Xs.multianewarray2F hexec hown hclink (va_AOA.use hover) harr (g := F0 m pc ls (.int k :: .int n :: rest)) rfl (by rw [hb]; exact hdg) rfl hn hk hb1 hb2 hb3 hdf hdd hcells hslots
  have ec : some cy = some comp := hcy.symm.trans fC
  cases ec
  generalize hF : Jvm.Free.Multi.fill (T.setVm vm₁) cA cy n.toNatClampNeg k.toNatClampNeg (defaultValue ty) n.toNatClampNeg = F at X' step
  have hTh : (T.setVm vm₁).heap = H := hT
  obtain ⟨f1, f2, -, -⟩ := Jvm.Free.Multi.fill_facts (T.setVm vm₁) cA cy n.toNatClampNeg k.toNatClampNeg (defaultValue ty) n.toNatClampNeg
  rw [hF, hTh] at f1 f2
  have hold : ∀ x : Nat, x < H.size → F.heap[x]? = H[x]? := fun x hx => by
    have := Jvm.Free.Multi.fill_old (T.setVm vm₁) cA cy n.toNatClampNeg k.toNatClampNeg (defaultValue ty) (a := x) (by rw [hTh]; exact hx) n.toNatClampNeg
    rw [hF, hTh] at this
    exact this
  have hrow : ∀ j : Nat, j < n.toNatClampNeg → F.heap[H.size + 1 + j]? = some (vp_cell cy z) := fun j hj => by
    have := Jvm.Free.Multi.fill_inner (T.setVm vm₁) cA cy n.toNatClampNeg k.toNatClampNeg (defaultValue ty) n.toNatClampNeg j hj
    rw [hF, hTh, hz] at this
    exact this
  have hout : Jvm.Free.Multi.outerC cA n.toNatClampNeg H.size n.toNatClampNeg = vp_cell cA (n.toNatClampNeg, .inr (.inr (.inr (.inr (fun i => if i < n.toNatClampNeg then some (H.size + 1 + i) else none))))) := by
    rw [vp_cell_q]
    exact vr_outer cA n.toNatClampNeg H.size n.toNatClampNeg
  rw [hout] at f2
  have hlt : ∀ a, a ∈ L → a < H.size := fun a ha => by
    obtain ⟨k9, hk9⟩ := va_pl_get (X := X) (f := f) ha
    exact (hP k9 _ hk9).lt
  have hnl : ∀ i : Nat, i < n.toNatClampNeg → H.size + 1 + i ∉ L := fun i _ h => by
    have := hlt _ h
    omega
  have hnm : ∀ a, a ∈ (List.range n.toNatClampNeg).map (fun i => H.size + 1 + i) → a ∉ L := fun a ha h => by
    obtain ⟨i, -, rfl⟩ := List.mem_map.mp ha
    have := hlt _ h
    omega
  have hP0 : va_P D cl (X ++ va_pl L f) F.heap := hP.kept (fun k9 x hx => hold x.1 ((hP k9 x hx).lt))
  have hP1 : va_P D cl ((X ++ va_pl L f) ++ [(H.size, .inl (cA, n.toNatClampNeg, .inr (.inr (.inr (.inr (fun i => if i < n.toNatClampNeg then some (H.size + 1 + i) else none))))))]) F.heap := hP0.app (fun k9 x hx => by
    have h0 : k9 < 1 := (List.getElem?_eq_some_iff.mp hx).1
    rw [show k9 = 0 by omega] at hx
    cases hx
    exact f2)
  have hP2 : va_P D cl (((X ++ va_pl L f) ++ [(H.size, .inl (cA, n.toNatClampNeg, .inr (.inr (.inr (.inr (fun i => if i < n.toNatClampNeg then some (H.size + 1 + i) else none))))))]) ++ ((List.range n.toNatClampNeg).map (fun i => H.size + 1 + i)).map (fun a => (a, .inl (cy, z)))) F.heap := hP1.app (fun k9 x hx => by
    obtain ⟨a, ha, rfl⟩ := List.mem_map.mp (List.mem_of_getElem? hx)
    obtain ⟨i, hi, rfl⟩ := List.mem_map.mp ha
    exact hrow i (List.mem_range.mp hi))
  have hD2 : va_D A (((X ++ va_pl L f) ++ [(H.size, .inl (cA, n.toNatClampNeg, .inr (.inr (.inr (.inr (fun i => if i < n.toNatClampNeg then some (H.size + 1 + i) else none))))))]) ++ ((List.range n.toNatClampNeg).map (fun i => H.size + 1 + i)).map (fun a => (a, .inl (cy, z)))) := by
    have hD1 := hD.push (e := .inl (cA, n.toNatClampNeg, .inr (.inr (.inr (.inr (fun i => if i < n.toNatClampNeg then some (H.size + 1 + i) else none)))))) hP rfl (hA _ hS.1)
    generalize hW1 : (X ++ va_pl L f) ++ [(H.size, .inl (cA, n.toNatClampNeg, .inr (.inr (.inr (.inr (fun i => if i < n.toNatClampNeg then some (H.size + 1 + i) else none))))))] = W1 at hD1 hP1 ⊢
    have hle : ∀ (k9 : Nat) (x : Nat × va_E), W1[k9]? = some x → x.1 ≤ H.size := fun k9 x hx => by
      rw [← hW1] at hx
      by_cases hl : k9 < (X ++ va_pl L f).length
      · rw [List.getElem?_append_left hl] at hx
        exact Nat.le_of_lt ((hP k9 x hx).lt)
      · rw [List.getElem?_append_right (by omega)] at hx
        have h0 : k9 - (X ++ va_pl L f).length < 1 := (List.getElem?_eq_some_iff.mp hx).1
        rw [show k9 - (X ++ va_pl L f).length = 0 by omega] at hx
        cases hx
        exact Nat.le_refl _
    have hr : ∀ (k9 : Nat) (x : Nat × va_E), (((List.range n.toNatClampNeg).map (fun i => H.size + 1 + i)).map (fun a => ((a, .inl (cy, z)) : Nat × va_E)))[k9]? = some x → x.1 = H.size + 1 + k9 := fun k9 x hx => by
      rw [List.getElem?_map, List.getElem?_map] at hx
      by_cases h9 : k9 < n.toNatClampNeg
      · rw [List.getElem?_range h9] at hx
        cases hx
        rfl
      · have hn0 : (List.range n.toNatClampNeg)[k9]? = none := List.getElem?_eq_none (by rw [List.length_range]; omega)
        rw [hn0] at hx
        cases hx
    refine ⟨fun i j x y hi hj hxy => ?_, fun k9 x hx => ?_⟩
    · by_cases h1 : i < W1.length <;> by_cases h2 : j < W1.length
      · rw [List.getElem?_append_left h1] at hi
        rw [List.getElem?_append_left h2] at hj
        exact hD1.1 i j x y hi hj hxy
      · rw [List.getElem?_append_left h1] at hi
        rw [List.getElem?_append_right (by omega)] at hj
        have := hle _ _ hi
        have := hr _ _ hj
        omega
      · rw [List.getElem?_append_right (by omega)] at hi
        rw [List.getElem?_append_left h2] at hj
        have := hle _ _ hj
        have := hr _ _ hi
        omega
      · rw [List.getElem?_append_right (by omega)] at hi hj
        have := hr _ _ hi
        have := hr _ _ hj
        omega
    · by_cases h1 : k9 < W1.length
      · rw [List.getElem?_append_left h1] at hx
        exact hD1.2 k9 x hx
      · rw [List.getElem?_append_right (by omega)] at hx
        have := hr _ _ hx
        exact hA _ (by have := hS.1; omega)
  have hAr : ArrOfT s cA (.array ty) := fun N9 z9 => by
    obtain ⟨-, k9, hk9, cm9, hkk9⟩ := (hO 0 0 0).1
    exact ⟨(fun q hq => by cases hq), k9, hk9, cm9, hkk9⟩
  have hK2 : va_K D cl (tys ++ [(cA, .array ty)]) s := ⟨hK.1, fun k9 x hx => by
    by_cases hl : k9 < tys.length
    · rw [List.getElem?_append_left hl] at hx
      exact hK.2 k9 x hx
    · rw [List.getElem?_append_right (by omega)] at hx
      have h0 : k9 - tys.length < 1 := (List.getElem?_eq_some_iff.mp hx).1
      rw [show k9 - tys.length = 0 by omega] at hx
      cases hx
      exact ⟨hAr, fA⟩⟩
  obtain ⟨t, a1, b1⟩ := kk H.size (fun i => H.size + 1 + i) cA F.heap (fun i j _ _ h => by have h9 : H.size + 1 + i = H.size + 1 + j := h; omega) hnl hK2 (by rw [← vr_rows hnm]; exact vr_lay hP2) (by rw [← vr_rows hnm]; exact vr_layD hD2) ⟨by rw [f1]; have := hS.1; omega, fun x h1 h2 => (hold x (Nat.lt_of_lt_of_le h1 hS.1)).trans (hS.2.1 x h1 h2), hS.2.2⟩ F rfl X'
  refine ⟨t, step t ?_, b1⟩
  have e : T.heap.size = H.size := by rw [hT]
  rw [e]
  exact a1
end VGM
/-! ===== END ===== -/

/-! ===== BEGIN printed: names, fields, word lists, decode rows ===== -/
def RX0 : String := "ColdMotor$Ahead"
def TX0 : u_T := fun k => match k with
  | _ => ("ColdMotor$Ahead", "sixteenths", "[I", true)
def tyX0 : Nat → FieldType := fun k => match k with
  | _ => .array .int
abbrev wsX00 : List Cond := u_ws RX0 TX0 1
theorem nmX0 : ∀ a, a < 1 → ∀ b, b < 1 → a ≠ b → (TX0 a).2.1 ≠ (TX0 b).2.1 := by decide +kernel
theorem tyX0_ok : ∀ k, k < 1 → parseFieldDescriptor (TX0 k).2.2.1 = some (tyX0 k) := by decide +kernel
abbrev cX0_init : ByteArray := prog_2_method_1_code
def yX0_init : MethodName := ⟨RX0, "<init>", "()V"⟩
abbrev cX0_weightOf : ByteArray := prog_2_method_2_code
def yX0_weightOf : MethodName := ⟨RX0, "weightOf", "(II)I"⟩
abbrev cX0_together : ByteArray := prog_2_method_3_code
def yX0_together : MethodName := ⟨RX0, "together", "()I"⟩
def RX1 : String := "ColdMotor$Belief"
def TX1 : u_T := fun k => match k with
  | 0 => ("ColdMotor$Belief", "states", "[J", true)
  | 1 => ("ColdMotor$Belief", "weights", "[I", true)
  | 2 => ("ColdMotor$Belief", "bySign", "[[I", true)
  | 3 => ("ColdMotor$Belief", "weightBySign", "[[I", true)
  | 4 => ("ColdMotor$Belief", "bestAct", "[I", true)
  | 5 => ("ColdMotor$Belief", "bestWeight", "[I", true)
  | 6 => ("ColdMotor$Belief", "choice", "[I", true)
  | 7 => ("ColdMotor$Belief", "state", "LColdMotor$State;", true)
  | 8 => ("ColdMotor$Belief", "known", "Z", false)
  | 9 => ("ColdMotor$Belief", "left", "I", false)
  | _ => ("ColdMotor$Belief", "total", "I", false)
def tyX1 : Nat → FieldType := fun k => match k with
  | 0 => .array .long
  | 1 => .array .int
  | 2 => .array (.array .int)
  | 3 => .array (.array .int)
  | 4 => .array .int
  | 5 => .array .int
  | 6 => .array .int
  | 7 => .object "ColdMotor$State"
  | 8 => .boolean
  | 9 => .int
  | _ => .int
abbrev wsX10 : List Cond := u_ws RX1 TX1 11
theorem nmX1 : ∀ a, a < 11 → ∀ b, b < 11 → a ≠ b → (TX1 a).2.1 ≠ (TX1 b).2.1 := by decide +kernel
theorem tyX1_ok : ∀ k, k < 11 → parseFieldDescriptor (TX1 k).2.2.1 = some (tyX1 k) := by decide +kernel
abbrev cX1_init : ByteArray := prog_3_method_1_code
def yX1_init : MethodName := ⟨RX1, "<init>", "()V"⟩
abbrev cX1_learn : ByteArray := prog_3_method_2_code
def yX1_learn : MethodName := ⟨RX1, "learn", "(LColdMotor$Motor;LColdMotor$Log;LColdMotor$Ahead;)V"⟩
abbrev cX1_weightWith : ByteArray := prog_3_method_3_code
def yX1_weightWith : MethodName := ⟨RX1, "weightWith", "(I)I"⟩
abbrev cX1_heaviestOf : ByteArray := prog_3_method_4_code
def yX1_heaviestOf : MethodName := ⟨RX1, "heaviestOf", "(I)I"⟩
abbrev cX1_part : ByteArray := prog_3_method_5_code
def yX1_part : MethodName := ⟨RX1, "part", "(LColdMotor$Motor;III)V"⟩
abbrev cX1_weightRunning : ByteArray := prog_3_method_6_code
def yX1_weightRunning : MethodName := ⟨RX1, "weightRunning", "(LColdMotor$Motor;IIII)I"⟩
def RX2 : String := "ColdMotor$Log"
def TX2 : u_T := fun k => match k with
  | 0 => ("ColdMotor$Log", "acts", "[I", true)
  | 1 => ("ColdMotor$Log", "signs", "[I", true)
  | _ => ("ColdMotor$Log", "size", "I", false)
def tyX2 : Nat → FieldType := fun k => match k with
  | 0 => .array .int
  | 1 => .array .int
  | _ => .int
abbrev wsX20 : List Cond := u_ws RX2 TX2 3
theorem nmX2 : ∀ a, a < 3 → ∀ b, b < 3 → a ≠ b → (TX2 a).2.1 ≠ (TX2 b).2.1 := by decide +kernel
theorem tyX2_ok : ∀ k, k < 3 → parseFieldDescriptor (TX2 k).2.2.1 = some (tyX2 k) := by decide +kernel
abbrev cX2_init : ByteArray := prog_4_method_1_code
def yX2_init : MethodName := ⟨RX2, "<init>", "()V"⟩
abbrev cX2_takes : ByteArray := prog_4_method_2_code
def yX2_takes : MethodName := ⟨RX2, "takes", "(II)Z"⟩
abbrev cX2_actAt : ByteArray := prog_4_method_3_code
def yX2_actAt : MethodName := ⟨RX2, "actAt", "(I)I"⟩
abbrev cX2_signAt : ByteArray := prog_4_method_4_code
def yX2_signAt : MethodName := ⟨RX2, "signAt", "(I)I"⟩
def RX3 : String := "ColdMotor$Mornings"
def TX3 : u_T := fun k => match k with
  | 0 => ("ColdMotor$Mornings", "ages", "[I", true)
  | 1 => ("ColdMotor$Mornings", "colds", "[I", true)
  | 2 => ("ColdMotor$Mornings", "turns", "[I", true)
  | 3 => ("ColdMotor$Mornings", "law", "[I", true)
  | 4 => ("ColdMotor$Mornings", "lawKnown", "Z", false)
  | _ => ("ColdMotor$Mornings", "size", "I", false)
def tyX3 : Nat → FieldType := fun k => match k with
  | 0 => .array .int
  | 1 => .array .int
  | 2 => .array .int
  | 3 => .array .int
  | 4 => .boolean
  | _ => .int
abbrev wsX30 : List Cond := u_ws RX3 TX3 6
theorem nmX3 : ∀ a, a < 6 → ∀ b, b < 6 → a ≠ b → (TX3 a).2.1 ≠ (TX3 b).2.1 := by decide +kernel
theorem tyX3_ok : ∀ k, k < 6 → parseFieldDescriptor (TX3 k).2.2.1 = some (tyX3 k) := by decide +kernel
abbrev cX3_init : ByteArray := prog_5_method_1_code
def yX3_init : MethodName := ⟨RX3, "<init>", "()V"⟩
abbrev cX3_takes : ByteArray := prog_5_method_2_code
def yX3_takes : MethodName := ⟨RX3, "takes", "(III)Z"⟩
abbrev cX3_lawSays : ByteArray := prog_5_method_3_code
def yX3_lawSays : MethodName := ⟨RX3, "lawSays", "(IIIII)I"⟩
abbrev cX3_offBy : ByteArray := prog_5_method_4_code
def yX3_offBy : MethodName := ⟨RX3, "offBy", "(III)I"⟩
abbrev cX3_turnsTogether : ByteArray := prog_5_method_5_code
def yX3_turnsTogether : MethodName := ⟨RX3, "turnsTogether", "()I"⟩
abbrev cX3_findLaw : ByteArray := prog_5_method_6_code
def yX3_findLaw : MethodName := ⟨RX3, "findLaw", "()V"⟩
abbrev cX3_takeIfBetter : ByteArray := prog_5_method_7_code
def yX3_takeIfBetter : MethodName := ⟨RX3, "takeIfBetter", "(III)V"⟩
def RX4 : String := "ColdMotor$Motor"
def TX4 : u_T := fun k => match k with
  | 0 => ("ColdMotor$Motor", "values", "[I", true)
  | _ => ("ColdMotor$Motor", "fault", "I", false)
def tyX4 : Nat → FieldType := fun k => match k with
  | 0 => .array .int
  | _ => .int
abbrev wsX40 : List Cond := u_ws RX4 TX4 2
theorem nmX4 : ∀ a, a < 2 → ∀ b, b < 2 → a ≠ b → (TX4 a).2.1 ≠ (TX4 b).2.1 := by decide +kernel
theorem tyX4_ok : ∀ k, k < 2 → parseFieldDescriptor (TX4 k).2.2.1 = some (tyX4 k) := by decide +kernel
abbrev cX4_init : ByteArray := prog_6_method_1_code
def yX4_init : MethodName := ⟨RX4, "<init>", "()V"⟩
abbrev cX4_learn : ByteArray := prog_6_method_2_code
def yX4_learn : MethodName := ⟨RX4, "learn", "(LColdMotor$Text;)V"⟩
abbrev cX4_reset : ByteArray := prog_6_method_3_code
def yX4_reset : MethodName := ⟨RX4, "reset", "()V"⟩
abbrev cX4_faultOf : ByteArray := prog_6_method_4_code
def yX4_faultOf : MethodName := ⟨RX4, "faultOf", "(LColdMotor$Text;)I"⟩
abbrev cX4_qualityOf : ByteArray := prog_6_method_5_code
def yX4_qualityOf : MethodName := ⟨RX4, "qualityOf", "(I)I"⟩
def RX5 : String := "ColdMotor$Plan"
def TX5 : u_T := fun k => match k with
  | 0 => ("ColdMotor$Plan", "acts", "[I", true)
  | 1 => ("ColdMotor$Plan", "size", "I", false)
  | _ => ("ColdMotor$Plan", "fault", "I", false)
def tyX5 : Nat → FieldType := fun k => match k with
  | 0 => .array .int
  | 1 => .int
  | _ => .int
abbrev wsX50 : List Cond := u_ws RX5 TX5 3
theorem nmX5 : ∀ a, a < 3 → ∀ b, b < 3 → a ≠ b → (TX5 a).2.1 ≠ (TX5 b).2.1 := by decide +kernel
theorem tyX5_ok : ∀ k, k < 3 → parseFieldDescriptor (TX5 k).2.2.1 = some (tyX5 k) := by decide +kernel
abbrev cX5_init : ByteArray := prog_7_method_1_code
def yX5_init : MethodName := ⟨RX5, "<init>", "()V"⟩
abbrev cX5_learn : ByteArray := prog_7_method_2_code
def yX5_learn : MethodName := ⟨RX5, "learn", "(LColdMotor$Text;)V"⟩
abbrev cX5_actAt : ByteArray := prog_7_method_3_code
def yX5_actAt : MethodName := ⟨RX5, "actAt", "(I)I"⟩
abbrev cX5_faultOf : ByteArray := prog_7_method_4_code
def yX5_faultOf : MethodName := ⟨RX5, "faultOf", "(LColdMotor$Text;)I"⟩
abbrev cX5_add : ByteArray := prog_7_method_5_code
def yX5_add : MethodName := ⟨RX5, "add", "(II)V"⟩
def RX6 : String := "ColdMotor$Sheet"
def TX6 : u_T := fun k => match k with
  | 0 => ("ColdMotor$Sheet", "items", "[I", true)
  | 1 => ("ColdMotor$Sheet", "form", "I", false)
  | _ => ("ColdMotor$Sheet", "size", "I", false)
def tyX6 : Nat → FieldType := fun k => match k with
  | 0 => .array .int
  | 1 => .int
  | _ => .int
abbrev wsX60 : List Cond := u_ws RX6 TX6 3
theorem nmX6 : ∀ a, a < 3 → ∀ b, b < 3 → a ≠ b → (TX6 a).2.1 ≠ (TX6 b).2.1 := by decide +kernel
theorem tyX6_ok : ∀ k, k < 3 → parseFieldDescriptor (TX6 k).2.2.1 = some (tyX6 k) := by decide +kernel
abbrev cX6_init : ByteArray := prog_8_method_1_code
def yX6_init : MethodName := ⟨RX6, "<init>", "()V"⟩
abbrev cX6_isLost : ByteArray := prog_8_method_2_code
def yX6_isLost : MethodName := ⟨RX6, "isLost", "()Z"⟩
abbrev cX6_lay : ByteArray := prog_8_method_3_code
def yX6_lay : MethodName := ⟨RX6, "lay", "(II)V"⟩
abbrev cX6_wrongWith : ByteArray := prog_8_method_4_code
def yX6_wrongWith : MethodName := ⟨RX6, "wrongWith", "(II)I"⟩
abbrev cX6_holds : ByteArray := prog_8_method_5_code
def yX6_holds : MethodName := ⟨RX6, "holds", "(II)Z"⟩
abbrev cX6_itemAt : ByteArray := prog_8_method_6_code
def yX6_itemAt : MethodName := ⟨RX6, "itemAt", "(I)I"⟩
abbrev cX6_keep : ByteArray := prog_8_method_7_code
def yX6_keep : MethodName := ⟨RX6, "keep", "(II)V"⟩
def RX7 : String := "ColdMotor$State"
def TX7 : u_T := fun k => match k with
  | 0 => ("ColdMotor$State", "battery", "I", false)
  | 1 => ("ColdMotor$State", "light", "I", false)
  | 2 => ("ColdMotor$State", "wall", "I", false)
  | 3 => ("ColdMotor$State", "wet", "I", false)
  | 4 => ("ColdMotor$State", "warmth", "I", false)
  | 5 => ("ColdMotor$State", "spoon", "I", false)
  | 6 => ("ColdMotor$State", "troubles", "I", false)
  | _ => ("ColdMotor$State", "running", "Z", false)
def tyX7 : Nat → FieldType := fun k => match k with
  | 0 => .int
  | 1 => .int
  | 2 => .int
  | 3 => .int
  | 4 => .int
  | 5 => .int
  | 6 => .int
  | _ => .boolean
abbrev wsX70 : List Cond := u_ws RX7 TX7 8
theorem nmX7 : ∀ a, a < 8 → ∀ b, b < 8 → a ≠ b → (TX7 a).2.1 ≠ (TX7 b).2.1 := by decide +kernel
theorem tyX7_ok : ∀ k, k < 8 → parseFieldDescriptor (TX7 k).2.2.1 = some (tyX7 k) := by decide +kernel
abbrev cX7_init : ByteArray := prog_9_method_1_code
def yX7_init : MethodName := ⟨RX7, "<init>", "()V"⟩
abbrev cX7_begin : ByteArray := prog_9_method_2_code
def yX7_begin : MethodName := ⟨RX7, "begin", "(LColdMotor$Motor;I)V"⟩
abbrev cX7_pack : ByteArray := prog_9_method_3_code
def yX7_pack : MethodName := ⟨RX7, "pack", "()J"⟩
abbrev cX7_unpack : ByteArray := prog_9_method_4_code
def yX7_unpack : MethodName := ⟨RX7, "unpack", "(J)V"⟩
abbrev cX7_partOf : ByteArray := prog_9_method_5_code
def yX7_partOf : MethodName := ⟨RX7, "partOf", "(JI)I"⟩
abbrev cX7_does : ByteArray := prog_9_method_6_code
def yX7_does : MethodName := ⟨RX7, "does", "(LColdMotor$Motor;I)I"⟩
abbrev cX7_turn : ByteArray := prog_9_method_7_code
def yX7_turn : MethodName := ⟨RX7, "turn", "(LColdMotor$Motor;I)I"⟩
abbrev cX7_signOf : ByteArray := prog_9_method_8_code
def yX7_signOf : MethodName := ⟨RX7, "signOf", "(LColdMotor$Motor;I)I"⟩
abbrev cX7_tend : ByteArray := prog_9_method_9_code
def yX7_tend : MethodName := ⟨RX7, "tend", "(LColdMotor$Motor;I)I"⟩
abbrev cX7_dry : ByteArray := prog_9_method_10_code
def yX7_dry : MethodName := ⟨RX7, "dry", "()I"⟩
abbrev cX7_turnsToDrown : ByteArray := prog_9_method_11_code
def yX7_turnsToDrown : MethodName := ⟨RX7, "turnsToDrown", "(LColdMotor$Motor;II)I"⟩
def RX8 : String := "ColdMotor$Text"
def TX8 : u_T := fun k => match k with
  | 0 => ("ColdMotor$Text", "bytes", "[I", true)
  | _ => ("ColdMotor$Text", "size", "I", false)
def tyX8 : Nat → FieldType := fun k => match k with
  | 0 => .array .int
  | _ => .int
abbrev wsX80 : List Cond := u_ws RX8 TX8 2
theorem nmX8 : ∀ a, a < 2 → ∀ b, b < 2 → a ≠ b → (TX8 a).2.1 ≠ (TX8 b).2.1 := by decide +kernel
theorem tyX8_ok : ∀ k, k < 2 → parseFieldDescriptor (TX8 k).2.2.1 = some (tyX8 k) := by decide +kernel
abbrev cX8_init : ByteArray := prog_10_method_1_code
def yX8_init : MethodName := ⟨RX8, "<init>", "(I)V"⟩
abbrev cX8_takes : ByteArray := prog_10_method_2_code
def yX8_takes : MethodName := ⟨RX8, "takes", "(I)Z"⟩
abbrev cX8_byteAt : ByteArray := prog_10_method_3_code
def yX8_byteAt : MethodName := ⟨RX8, "byteAt", "(I)I"⟩
abbrev cX8_figureAt : ByteArray := prog_10_method_4_code
def yX8_figureAt : MethodName := ⟨RX8, "figureAt", "(I)I"⟩
def RX9 : String := "ColdMotor$Trial"
def TX9 : u_T := fun k => match k with
  | 0 => ("ColdMotor$Trial", "done", "[I", true)
  | 1 => ("ColdMotor$Trial", "known", "Z", false)
  | _ => ("ColdMotor$Trial", "having", "I", false)
def tyX9 : Nat → FieldType := fun k => match k with
  | 0 => .array .int
  | 1 => .boolean
  | _ => .int
abbrev wsX90 : List Cond := u_ws RX9 TX9 3
theorem nmX9 : ∀ a, a < 3 → ∀ b, b < 3 → a ≠ b → (TX9 a).2.1 ≠ (TX9 b).2.1 := by decide +kernel
theorem tyX9_ok : ∀ k, k < 3 → parseFieldDescriptor (TX9 k).2.2.1 = some (tyX9 k) := by decide +kernel
abbrev cX9_init : ByteArray := prog_11_method_1_code
def yX9_init : MethodName := ⟨RX9, "<init>", "()V"⟩
abbrev cX9_learn : ByteArray := prog_11_method_2_code
def yX9_learn : MethodName := ⟨RX9, "learn", "(LColdMotor$Motor;LColdMotor$Plan;LColdMotor$State;)V"⟩
abbrev cX9_weightHaving : ByteArray := prog_11_method_3_code
def yX9_weightHaving : MethodName := ⟨RX9, "weightHaving", "(LColdMotor$Ahead;I)J"⟩
abbrev cX9_actsDone : ByteArray := prog_11_method_4_code
def yX9_actsDone : MethodName := ⟨RX9, "actsDone", "(LColdMotor$Ahead;)J"⟩
def RX10 : String := "ColdMotor"
def TX10 : u_T := fun k => match k with
  | 0 => ("ColdMotor", "motorText", "LColdMotor$Text;", true)
  | 1 => ("ColdMotor", "habitText", "LColdMotor$Text;", true)
  | 2 => ("ColdMotor", "machine", "LColdMotor$Motor;", true)
  | 3 => ("ColdMotor", "plan", "LColdMotor$Plan;", true)
  | 4 => ("ColdMotor", "before", "LColdMotor$Ahead;", true)
  | 5 => ("ColdMotor", "seen", "LColdMotor$Log;", true)
  | 6 => ("ColdMotor", "belief", "LColdMotor$Belief;", true)
  | 7 => ("ColdMotor", "trial", "LColdMotor$Trial;", true)
  | 8 => ("ColdMotor", "scratch", "LColdMotor$State;", true)
  | 9 => ("ColdMotor", "mornings", "LColdMotor$Mornings;", true)
  | 10 => ("ColdMotor", "sheets", "[LColdMotor$Sheet;", true)
  | _ => ("ColdMotor", "finding", "I", false)
def tyX10 : Nat → FieldType := fun k => match k with
  | 0 => .object "ColdMotor$Text"
  | 1 => .object "ColdMotor$Text"
  | 2 => .object "ColdMotor$Motor"
  | 3 => .object "ColdMotor$Plan"
  | 4 => .object "ColdMotor$Ahead"
  | 5 => .object "ColdMotor$Log"
  | 6 => .object "ColdMotor$Belief"
  | 7 => .object "ColdMotor$Trial"
  | 8 => .object "ColdMotor$State"
  | 9 => .object "ColdMotor$Mornings"
  | 10 => .array (.object "ColdMotor$Sheet")
  | _ => .int
abbrev wsX100 : List Cond := u_ws RX10 TX10 12
theorem nmX10 : ∀ a, a < 12 → ∀ b, b < 12 → a ≠ b → (TX10 a).2.1 ≠ (TX10 b).2.1 := by decide +kernel
theorem tyX10_ok : ∀ k, k < 12 → parseFieldDescriptor (TX10 k).2.2.1 = some (tyX10 k) := by decide +kernel
abbrev cX10_init : ByteArray := prog_1_method_1_code
def yX10_init : MethodName := ⟨RX10, "<init>", "()V"⟩
abbrev cX10_type : ByteArray := prog_1_method_2_code
def yX10_type : MethodName := ⟨RX10, "type", "(II)I"⟩
abbrev cX10_wipe : ByteArray := prog_1_method_3_code
def yX10_wipe : MethodName := ⟨RX10, "wipe", "(I)I"⟩
abbrev cX10_fault : ByteArray := prog_1_method_4_code
def yX10_fault : MethodName := ⟨RX10, "fault", "(I)I"⟩
abbrev cX10_motor : ByteArray := prog_1_method_5_code
def yX10_motor : MethodName := ⟨RX10, "motor", "(I)I"⟩
abbrev cX10_ahead : ByteArray := prog_1_method_6_code
def yX10_ahead : MethodName := ⟨RX10, "ahead", "(II)I"⟩
abbrev cX10_see : ByteArray := prog_1_method_7_code
def yX10_see : MethodName := ⟨RX10, "see", "(II)I"⟩
abbrev cX10_read : ByteArray := prog_1_method_8_code
def yX10_read : MethodName := ⟨RX10, "read", "(I)I"⟩
abbrev cX10_back : ByteArray := prog_1_method_9_code
def yX10_back : MethodName := ⟨RX10, "back", "()I"⟩
abbrev cX10_left : ByteArray := prog_1_method_10_code
def yX10_left : MethodName := ⟨RX10, "left", "()I"⟩
abbrev cX10_odds : ByteArray := prog_1_method_11_code
def yX10_odds : MethodName := ⟨RX10, "odds", "(II)J"⟩
abbrev cX10_trouble : ByteArray := prog_1_method_12_code
def yX10_trouble : MethodName := ⟨RX10, "trouble", "(II)J"⟩
abbrev cX10_state : ByteArray := prog_1_method_13_code
def yX10_state : MethodName := ⟨RX10, "state", "(II)I"⟩
abbrev cX10_sign : ByteArray := prog_1_method_14_code
def yX10_sign : MethodName := ⟨RX10, "sign", "(II)I"⟩
abbrev cX10_chance : ByteArray := prog_1_method_15_code
def yX10_chance : MethodName := ⟨RX10, "chance", "(III)J"⟩
abbrev cX10_parts : ByteArray := prog_1_method_16_code
def yX10_parts : MethodName := ⟨RX10, "parts", "(I)I"⟩
abbrev cX10_sure : ByteArray := prog_1_method_17_code
def yX10_sure : MethodName := ⟨RX10, "sure", "(II)J"⟩
abbrev cX10_best : ByteArray := prog_1_method_18_code
def yX10_best : MethodName := ⟨RX10, "best", "(II)J"⟩
abbrev cX10_habit : ByteArray := prog_1_method_19_code
def yX10_habit : MethodName := ⟨RX10, "habit", "(II)J"⟩
abbrev cX10_has : ByteArray := prog_1_method_20_code
def yX10_has : MethodName := ⟨RX10, "has", "(I)I"⟩
abbrev cX10_work : ByteArray := prog_1_method_21_code
def yX10_work : MethodName := ⟨RX10, "work", "(I)J"⟩
abbrev cX10_drowned : ByteArray := prog_1_method_22_code
def yX10_drowned : MethodName := ⟨RX10, "drowned", "(II)I"⟩
abbrev cX10_morning : ByteArray := prog_1_method_23_code
def yX10_morning : MethodName := ⟨RX10, "morning", "(III)I"⟩
abbrev cX10_says : ByteArray := prog_1_method_24_code
def yX10_says : MethodName := ⟨RX10, "says", "(IIIII)I"⟩
abbrev cX10_misses : ByteArray := prog_1_method_25_code
def yX10_misses : MethodName := ⟨RX10, "misses", "(III)I"⟩
abbrev cX10_fits : ByteArray := prog_1_method_26_code
def yX10_fits : MethodName := ⟨RX10, "fits", "(I)I"⟩
abbrev cX10_sheet : ByteArray := prog_1_method_27_code
def yX10_sheet : MethodName := ⟨RX10, "sheet", "(III)I"⟩
abbrev cX10_lose : ByteArray := prog_1_method_28_code
def yX10_lose : MethodName := ⟨RX10, "lose", "(I)I"⟩
abbrev cX10_put : ByteArray := prog_1_method_29_code
def yX10_put : MethodName := ⟨RX10, "put", "(IIII)I"⟩
abbrev cX10_get : ByteArray := prog_1_method_30_code
def yX10_get : MethodName := ⟨RX10, "get", "(III)I"⟩
abbrev cX10_copy : ByteArray := prog_1_method_31_code
def yX10_copy : MethodName := ⟨RX10, "copy", "(IIIII)I"⟩
abbrev cX10_write : ByteArray := prog_1_method_32_code
def yX10_write : MethodName := ⟨RX10, "write", "(II)I"⟩
abbrev cX10_count : ByteArray := prog_1_method_33_code
def yX10_count : MethodName := ⟨RX10, "count", "(I)I"⟩
abbrev cX10_digest : ByteArray := prog_1_method_34_code
def yX10_digest : MethodName := ⟨RX10, "digest", "()J"⟩
abbrev cX10_textOf : ByteArray := prog_1_method_35_code
def yX10_textOf : MethodName := ⟨RX10, "textOf", "(I)LColdMotor$Text;"⟩
abbrev cX10_understand : ByteArray := prog_1_method_36_code
def yX10_understand : MethodName := ⟨RX10, "understand", "(I)V"⟩
abbrev cX10_known : ByteArray := prog_1_method_37_code
def yX10_known : MethodName := ⟨RX10, "known", "()LColdMotor$Belief;"⟩
abbrev cX10_tried : ByteArray := prog_1_method_38_code
def yX10_tried : MethodName := ⟨RX10, "tried", "()LColdMotor$Trial;"⟩
abbrev cX10_found : ByteArray := prog_1_method_39_code
def yX10_found : MethodName := ⟨RX10, "found", "(I)I"⟩
abbrev cX10_isBelow : ByteArray := prog_1_method_40_code
def yX10_isBelow : MethodName := ⟨RX10, "isBelow", "(II)Z"⟩
abbrev cX10_isDay : ByteArray := prog_1_method_41_code
def yX10_isDay : MethodName := ⟨RX10, "isDay", "(II)Z"⟩
abbrev cX10_isLaw : ByteArray := prog_1_method_42_code
def yX10_isLaw : MethodName := ⟨RX10, "isLaw", "(III)Z"⟩
abbrev cX10_refusal : ByteArray := prog_1_method_43_code
def yX10_refusal : MethodName := ⟨RX10, "refusal", "(I)J"⟩
abbrev cX10_told : ByteArray := prog_1_method_44_code
def yX10_told : MethodName := ⟨RX10, "told", "(JJI)J"⟩
abbrev cX10_commonDivisor : ByteArray := prog_1_method_45_code
def yX10_commonDivisor : MethodName := ⟨RX10, "commonDivisor", "(JJ)J"⟩
def RX11 : String := "ColdMotorModel"
def TX11 : u_T := fun k => match k with
  | 0 => ("ColdMotorModel", "texts", "[I", true)
  | 1 => ("ColdMotorModel", "typed", "[I", true)
  | 2 => ("ColdMotorModel", "motor", "[I", true)
  | 3 => ("ColdMotorModel", "habitActs", "[I", true)
  | 4 => ("ColdMotorModel", "habitMany", "I", false)
  | 5 => ("ColdMotorModel", "at", "I", false)
  | 6 => ("ColdMotorModel", "states", "[I", true)
  | 7 => ("ColdMotorModel", "ahead", "[I", true)
  | 8 => ("ColdMotorModel", "seen", "I", false)
  | 9 => ("ColdMotorModel", "seenActs", "[I", true)
  | 10 => ("ColdMotorModel", "seenSigns", "[I", true)
  | 11 => ("ColdMotorModel", "weights", "[J", true)
  | 12 => ("ColdMotorModel", "all", "J", false)
  | 13 => ("ColdMotorModel", "signs", "[I", true)
  | 14 => ("ColdMotorModel", "done", "I", false)
  | 15 => ("ColdMotorModel", "mornings", "I", false)
  | 16 => ("ColdMotorModel", "ages", "[I", true)
  | 17 => ("ColdMotorModel", "colds", "[I", true)
  | 18 => ("ColdMotorModel", "turned", "[I", true)
  | 19 => ("ColdMotorModel", "isThere", "[Z", true)
  | 20 => ("ColdMotorModel", "forms", "[I", true)
  | 21 => ("ColdMotorModel", "sizes", "[I", true)
  | 22 => ("ColdMotorModel", "items", "[I", true)
  | 23 => ("ColdMotorModel", "moved", "[I", true)
  | _ => ("ColdMotorModel", "finding", "I", false)
def tyX11 : Nat → FieldType := fun k => match k with
  | 0 => .array .int
  | 1 => .array .int
  | 2 => .array .int
  | 3 => .array .int
  | 4 => .int
  | 5 => .int
  | 6 => .array .int
  | 7 => .array .int
  | 8 => .int
  | 9 => .array .int
  | 10 => .array .int
  | 11 => .array .long
  | 12 => .long
  | 13 => .array .int
  | 14 => .int
  | 15 => .int
  | 16 => .array .int
  | 17 => .array .int
  | 18 => .array .int
  | 19 => .array .boolean
  | 20 => .array .int
  | 21 => .array .int
  | 22 => .array .int
  | 23 => .array .int
  | _ => .int
abbrev wsX110 : List Cond := u_ws RX11 TX11 25
theorem nmX11 : ∀ a, a < 25 → ∀ b, b < 25 → a ≠ b → (TX11 a).2.1 ≠ (TX11 b).2.1 := by decide +kernel
theorem tyX11_ok : ∀ k, k < 25 → parseFieldDescriptor (TX11 k).2.2.1 = some (tyX11 k) := by decide +kernel
abbrev cX11_init : ByteArray := prog_13_method_1_code
def yX11_init : MethodName := ⟨RX11, "<init>", "()V"⟩
abbrev cX11_in : ByteArray := prog_13_method_3_code
def yX11_in : MethodName := ⟨RX11, "in", "(III)Z"⟩
abbrev cX11_isIn : ByteArray := prog_13_method_4_code
def yX11_isIn : MethodName := ⟨RX11, "isIn", "(II)Z"⟩
abbrev cX11_amount : ByteArray := prog_13_method_5_code
def yX11_amount : MethodName := ⟨RX11, "amount", "(I)I"⟩
abbrev cX11_no : ByteArray := prog_13_method_6_code
def yX11_no : MethodName := ⟨RX11, "no", "(I)J"⟩
abbrev cX11_lowest : ByteArray := prog_13_method_7_code
def yX11_lowest : MethodName := ⟨RX11, "lowest", "(JJI)J"⟩
abbrev cX11_isText : ByteArray := prog_13_method_8_code
def yX11_isText : MethodName := ⟨RX11, "isText", "(I)Z"⟩
abbrev cX11_type : ByteArray := prog_13_method_9_code
def yX11_type : MethodName := ⟨RX11, "type", "(II)I"⟩
abbrev cX11_wipe : ByteArray := prog_13_method_10_code
def yX11_wipe : MethodName := ⟨RX11, "wipe", "(I)I"⟩
abbrev cX11_byteAt : ByteArray := prog_13_method_11_code
def yX11_byteAt : MethodName := ⟨RX11, "byteAt", "(II)I"⟩
abbrev cX11_isFigure : ByteArray := prog_13_method_12_code
def yX11_isFigure : MethodName := ⟨RX11, "isFigure", "(I)Z"⟩
abbrev cX11_plain : ByteArray := prog_13_method_13_code
def yX11_plain : MethodName := ⟨RX11, "plain", "()V"⟩
abbrev cX11_letterOf : ByteArray := prog_13_method_14_code
def yX11_letterOf : MethodName := ⟨RX11, "letterOf", "(I)I"⟩
abbrev cX11_mostOf : ByteArray := prog_13_method_15_code
def yX11_mostOf : MethodName := ⟨RX11, "mostOf", "(I)I"⟩
abbrev cX11_motorFault : ByteArray := prog_13_method_16_code
def yX11_motorFault : MethodName := ⟨RX11, "motorFault", "()I"⟩
abbrev cX11_motorNow : ByteArray := prog_13_method_17_code
def yX11_motorNow : MethodName := ⟨RX11, "motorNow", "()I"⟩
abbrev cX11_habitNow : ByteArray := prog_13_method_18_code
def yX11_habitNow : MethodName := ⟨RX11, "habitNow", "()I"⟩
abbrev cX11_fault : ByteArray := prog_13_method_19_code
def yX11_fault : MethodName := ⟨RX11, "fault", "(I)I"⟩
abbrev cX11_motorOf : ByteArray := prog_13_method_20_code
def yX11_motorOf : MethodName := ⟨RX11, "motorOf", "(I)I"⟩
abbrev cX11_motor : ByteArray := prog_13_method_21_code
def yX11_motor : MethodName := ⟨RX11, "motor", "(I)I"⟩
abbrev cX11_begins : ByteArray := prog_13_method_22_code
def yX11_begins : MethodName := ⟨RX11, "begins", "(II)V"⟩
abbrev cX11_moves : ByteArray := prog_13_method_23_code
def yX11_moves : MethodName := ⟨RX11, "moves", "(III)V"⟩
abbrev cX11_lightFor : ByteArray := prog_13_method_24_code
def yX11_lightFor : MethodName := ⟨RX11, "lightFor", "(I)I"⟩
abbrev cX11_does : ByteArray := prog_13_method_25_code
def yX11_does : MethodName := ⟨RX11, "does", "(III)I"⟩
abbrev cX11_turns : ByteArray := prog_13_method_26_code
def yX11_turns : MethodName := ⟨RX11, "turns", "(II)I"⟩
abbrev cX11_ahead : ByteArray := prog_13_method_27_code
def yX11_ahead : MethodName := ⟨RX11, "ahead", "(II)I"⟩
abbrev cX11_more : ByteArray := prog_13_method_28_code
def yX11_more : MethodName := ⟨RX11, "more", "(II)I"⟩
abbrev cX11_see : ByteArray := prog_13_method_29_code
def yX11_see : MethodName := ⟨RX11, "see", "(II)I"⟩
abbrev cX11_read : ByteArray := prog_13_method_30_code
def yX11_read : MethodName := ⟨RX11, "read", "(I)I"⟩
abbrev cX11_back : ByteArray := prog_13_method_31_code
def yX11_back : MethodName := ⟨RX11, "back", "()I"⟩
abbrev cX11_partsOf : ByteArray := prog_13_method_32_code
def yX11_partsOf : MethodName := ⟨RX11, "partsOf", "(I)J"⟩
abbrev cX11_lays : ByteArray := prog_13_method_33_code
def yX11_lays : MethodName := ⟨RX11, "lays", "()V"⟩
abbrev cX11_leftNow : ByteArray := prog_13_method_34_code
def yX11_leftNow : MethodName := ⟨RX11, "leftNow", "()I"⟩
abbrev cX11_left : ByteArray := prog_13_method_35_code
def yX11_left : MethodName := ⟨RX11, "left", "()I"⟩
abbrev cX11_isSet : ByteArray := prog_13_method_36_code
def yX11_isSet : MethodName := ⟨RX11, "isSet", "(I)Z"⟩
abbrev cX11_odds : ByteArray := prog_13_method_37_code
def yX11_odds : MethodName := ⟨RX11, "odds", "(II)J"⟩
abbrev cX11_troubleNow : ByteArray := prog_13_method_38_code
def yX11_troubleNow : MethodName := ⟨RX11, "troubleNow", "(II)J"⟩
abbrev cX11_trouble : ByteArray := prog_13_method_39_code
def yX11_trouble : MethodName := ⟨RX11, "trouble", "(II)J"⟩
abbrev cX11_stateNow : ByteArray := prog_13_method_40_code
def yX11_stateNow : MethodName := ⟨RX11, "stateNow", "(II)I"⟩
abbrev cX11_state : ByteArray := prog_13_method_41_code
def yX11_state : MethodName := ⟨RX11, "state", "(II)I"⟩
abbrev cX11_sign : ByteArray := prog_13_method_42_code
def yX11_sign : MethodName := ⟨RX11, "sign", "(II)I"⟩
abbrev cX11_goesOn : ByteArray := prog_13_method_43_code
def yX11_goesOn : MethodName := ⟨RX11, "goesOn", "(III)V"⟩
abbrev cX11_groupBy : ByteArray := prog_13_method_44_code
def yX11_groupBy : MethodName := ⟨RX11, "groupBy", "(III)I"⟩
abbrev cX11_weightOf : ByteArray := prog_13_method_45_code
def yX11_weightOf : MethodName := ⟨RX11, "weightOf", "(I)J"⟩
abbrev cX11_those : ByteArray := prog_13_method_46_code
def yX11_those : MethodName := ⟨RX11, "those", "()I"⟩
abbrev cX11_chanceNow : ByteArray := prog_13_method_47_code
def yX11_chanceNow : MethodName := ⟨RX11, "chanceNow", "(III)J"⟩
abbrev cX11_chance : ByteArray := prog_13_method_48_code
def yX11_chance : MethodName := ⟨RX11, "chance", "(III)J"⟩
abbrev cX11_partsNow : ByteArray := prog_13_method_49_code
def yX11_partsNow : MethodName := ⟨RX11, "partsNow", "(I)I"⟩
abbrev cX11_parts : ByteArray := prog_13_method_50_code
def yX11_parts : MethodName := ⟨RX11, "parts", "(I)I"⟩
abbrev cX11_sure : ByteArray := prog_13_method_51_code
def yX11_sure : MethodName := ⟨RX11, "sure", "(II)J"⟩
abbrev cX11_inOne : ByteArray := prog_13_method_52_code
def yX11_inOne : MethodName := ⟨RX11, "inOne", "(II)J"⟩
abbrev cX11_inTwo : ByteArray := prog_13_method_53_code
def yX11_inTwo : MethodName := ⟨RX11, "inTwo", "(II)J"⟩
abbrev cX11_bestNow : ByteArray := prog_13_method_54_code
def yX11_bestNow : MethodName := ⟨RX11, "bestNow", "(II)J"⟩
abbrev cX11_best : ByteArray := prog_13_method_55_code
def yX11_best : MethodName := ⟨RX11, "best", "(II)J"⟩
abbrev cX11_runsBy : ByteArray := prog_13_method_56_code
def yX11_runsBy : MethodName := ⟨RX11, "runsBy", "(I)Z"⟩
abbrev cX11_habitOf : ByteArray := prog_13_method_57_code
def yX11_habitOf : MethodName := ⟨RX11, "habitOf", "(II)J"⟩
abbrev cX11_habit : ByteArray := prog_13_method_58_code
def yX11_habit : MethodName := ⟨RX11, "habit", "(II)J"⟩
abbrev cX11_hasNow : ByteArray := prog_13_method_59_code
def yX11_hasNow : MethodName := ⟨RX11, "hasNow", "(I)I"⟩
abbrev cX11_has : ByteArray := prog_13_method_60_code
def yX11_has : MethodName := ⟨RX11, "has", "(I)I"⟩
abbrev cX11_workNow : ByteArray := prog_13_method_61_code
def yX11_workNow : MethodName := ⟨RX11, "workNow", "(I)J"⟩
abbrev cX11_work : ByteArray := prog_13_method_62_code
def yX11_work : MethodName := ⟨RX11, "work", "(I)J"⟩
abbrev cX11_drownedNow : ByteArray := prog_13_method_63_code
def yX11_drownedNow : MethodName := ⟨RX11, "drownedNow", "(II)I"⟩
abbrev cX11_drowned : ByteArray := prog_13_method_64_code
def yX11_drowned : MethodName := ⟨RX11, "drowned", "(II)I"⟩
abbrev cX11_morning : ByteArray := prog_13_method_65_code
def yX11_morning : MethodName := ⟨RX11, "morning", "(III)I"⟩
abbrev cX11_isLaw : ByteArray := prog_13_method_66_code
def yX11_isLaw : MethodName := ⟨RX11, "isLaw", "(III)Z"⟩
abbrev cX11_saysOf : ByteArray := prog_13_method_67_code
def yX11_saysOf : MethodName := ⟨RX11, "saysOf", "(IIIII)I"⟩
abbrev cX11_says : ByteArray := prog_13_method_68_code
def yX11_says : MethodName := ⟨RX11, "says", "(IIIII)I"⟩
abbrev cX11_missesOf : ByteArray := prog_13_method_69_code
def yX11_missesOf : MethodName := ⟨RX11, "missesOf", "(III)I"⟩
abbrev cX11_misses : ByteArray := prog_13_method_70_code
def yX11_misses : MethodName := ⟨RX11, "misses", "(III)I"⟩
abbrev cX11_fitsNow : ByteArray := prog_13_method_71_code
def yX11_fitsNow : MethodName := ⟨RX11, "fitsNow", "(I)I"⟩
abbrev cX11_fits : ByteArray := prog_13_method_72_code
def yX11_fits : MethodName := ⟨RX11, "fits", "(I)I"⟩
abbrev cX11_meets : ByteArray := prog_13_method_73_code
def yX11_meets : MethodName := ⟨RX11, "meets", "(I)I"⟩
abbrev cX11_isSheet : ByteArray := prog_13_method_74_code
def yX11_isSheet : MethodName := ⟨RX11, "isSheet", "(I)Z"⟩
abbrev cX11_sheet : ByteArray := prog_13_method_75_code
def yX11_sheet : MethodName := ⟨RX11, "sheet", "(III)I"⟩
abbrev cX11_lose : ByteArray := prog_13_method_76_code
def yX11_lose : MethodName := ⟨RX11, "lose", "(I)I"⟩
abbrev cX11_lacks : ByteArray := prog_13_method_77_code
def yX11_lacks : MethodName := ⟨RX11, "lacks", "(III)I"⟩
abbrev cX11_keep : ByteArray := prog_13_method_78_code
def yX11_keep : MethodName := ⟨RX11, "keep", "(III)V"⟩
abbrev cX11_put : ByteArray := prog_13_method_79_code
def yX11_put : MethodName := ⟨RX11, "put", "(IIII)I"⟩
abbrev cX11_get : ByteArray := prog_13_method_80_code
def yX11_get : MethodName := ⟨RX11, "get", "(III)I"⟩
abbrev cX11_copy : ByteArray := prog_13_method_81_code
def yX11_copy : MethodName := ⟨RX11, "copy", "(IIIII)I"⟩
abbrev cX11_write : ByteArray := prog_13_method_82_code
def yX11_write : MethodName := ⟨RX11, "write", "(II)I"⟩
abbrev cX11_sumOf : ByteArray := prog_13_method_83_code
def yX11_sumOf : MethodName := ⟨RX11, "sumOf", "(I)I"⟩
abbrev cX11_actsOfHabit : ByteArray := prog_13_method_84_code
def yX11_actsOfHabit : MethodName := ⟨RX11, "actsOfHabit", "()I"⟩
abbrev cX11_count : ByteArray := prog_13_method_85_code
def yX11_count : MethodName := ⟨RX11, "count", "(I)I"⟩
abbrev cX11_digest : ByteArray := prog_13_method_86_code
def yX11_digest : MethodName := ⟨RX11, "digest", "()J"⟩
def RJ6 : String := "java/lang/Integer"
def TJ6 : u_T := fun k => match k with
  | _ => ("", "", "", false)
def tyJ6 : Nat → FieldType := fun k => match k with
  | _ => .int
abbrev wsJ60 : List Cond := u_ws RJ6 TJ6 0
theorem nmJ6 : ∀ a, a < 0 → ∀ b, b < 0 → a ≠ b → (TJ6 a).2.1 ≠ (TJ6 b).2.1 := by decide +kernel
theorem tyJ6_ok : ∀ k, k < 0 → parseFieldDescriptor (TJ6 k).2.2.1 = some (tyJ6 k) := by decide +kernel
abbrev cJ6_bitCount_0f7a4 : ByteArray := prog_14_method_49_code
def yJ6_bitCount_0f7a4 : MethodName := ⟨RJ6, "bitCount", "(I)I"⟩
def RJ9 : String := "java/lang/Math"
def TJ9 : u_T := fun k => match k with
  | _ => ("", "", "", false)
def tyJ9 : Nat → FieldType := fun k => match k with
  | _ => .int
abbrev wsJ90 : List Cond := u_ws RJ9 TJ9 0
theorem nmJ9 : ∀ a, a < 0 → ∀ b, b < 0 → a ≠ b → (TJ9 a).2.1 ≠ (TJ9 b).2.1 := by decide +kernel
theorem tyJ9_ok : ∀ k, k < 0 → parseFieldDescriptor (TJ9 k).2.2.1 = some (tyJ9 k) := by decide +kernel
abbrev cJ9_abs_0f7a4 : ByteArray := prog_15_method_59_code
def yJ9_abs_0f7a4 : MethodName := ⟨RJ9, "abs", "(I)I"⟩
abbrev cJ9_max_7cf53 : ByteArray := prog_15_method_65_code
def yJ9_max_7cf53 : MethodName := ⟨RJ9, "max", "(II)I"⟩
abbrev cJ9_min_7cf53 : ByteArray := prog_15_method_69_code
def yJ9_min_7cf53 : MethodName := ⟨RJ9, "min", "(II)I"⟩
def RJ10 : String := "java/lang/System"
def TJ10 : u_T := fun k => match k with
  | _ => ("", "", "", false)
def tyJ10 : Nat → FieldType := fun k => match k with
  | _ => .int
abbrev wsJ100 : List Cond := u_ws RJ10 TJ10 0
theorem nmJ10 : ∀ a, a < 0 → ∀ b, b < 0 → a ≠ b → (TJ10 a).2.1 ≠ (TJ10 b).2.1 := by decide +kernel
theorem tyJ10_ok : ∀ k, k < 0 → parseFieldDescriptor (TJ10 k).2.2.1 = some (tyJ10 k) := by decide +kernel
def RJ7 : String := "java/util/Arrays"
def TJ7 : u_T := fun k => match k with
  | _ => ("", "", "", false)
def tyJ7 : Nat → FieldType := fun k => match k with
  | _ => .int
abbrev wsJ70 : List Cond := u_ws RJ7 TJ7 0
theorem nmJ7 : ∀ a, a < 0 → ∀ b, b < 0 → a ≠ b → (TJ7 a).2.1 ≠ (TJ7 b).2.1 := by decide +kernel
theorem tyJ7_ok : ∀ k, k < 0 → parseFieldDescriptor (TJ7 k).2.2.1 = some (tyJ7 k) := by decide +kernel
abbrev cJ7_fill_53178 : ByteArray := prog_17_method_103_code
def yJ7_fill_53178 : MethodName := ⟨RJ7, "fill", "([II)V"⟩
def RL : String := "ColdMotorLaw"
abbrev cL_law : ByteArray := code
def yL_law : MethodName := ⟨RL, "law", "([I)Z"⟩
end
section
/-! the memory of both objects: ints and longs by cell and place; writes -/
abbrev gg_M : Type := (Nat → Nat → Int32) × (Nat → Nat → Int64)
def gg_wA (u : gg_M) (t : Nat) (f : Nat → Int32) : gg_M := (fun a => if a = t then f else u.1 a, u.2)
def gg_wB (u : gg_M) (t : Nat) (f : Nat → Int64) : gg_M := (u.1, fun a => if a = t then f else u.2 a)
def gg_wI (u : gg_M) (t j : Nat) (x : Int32) : gg_M := gg_wA u t (upd (u.1 t) j x)
def gg_wL (u : gg_M) (t j : Nat) (x : Int64) : gg_M := gg_wB u t (vp_updL (u.2 t) j x)
def gg_kd (t : Nat) : Nat := [10, 11, 8, 8, 20, 20, 4, 20, 5, 20, 0, 20, 2, 20, 20, 1, 21, 20, 24, 20, 20, 20, 24, 20, 20, 20, 20, 20, 20, 7, 7, 9, 20, 3, 20, 20, 20, 20, 23, 6, 6, 6, 6, 20, 20, 20, 20, 20, 20, 20, 20, 20, 20, 20, 20, 21, 20, 20, 20, 20, 22, 20, 20, 20, 20].getD t 99
def gg_al (t : Nat) : Nat := [0, 0, 0, 0, 60, 40, 0, 7, 0, 90, 0, 5, 0, 24, 24, 0, 128, 32, 3, 7, 7, 7, 3, 7, 7, 7, 4, 4, 3, 0, 0, 0, 32, 0, 16, 16, 16, 4, 4, 0, 0, 0, 0, 48, 48, 48, 48, 120, 2, 7, 200, 1024, 5, 24, 24, 32, 128, 16, 16, 16, 4, 4, 4, 192, 48].getD t 0
def gg_rf (t j : Nat) : Nat := ([[2, 3, 6, 8, 10, 12, 15, 31, 30, 33, 38, 0], [47, 48, 49, 50, 0, 0, 51, 52, 0, 53, 54, 55, 0, 56, 0, 0, 57, 58, 59, 60, 61, 62, 63, 64, 0], [4, 0], [5, 0], [], [], [7, 0], [], [9, 0, 0], [], [11], [], [13, 14, 0], [], [], [16, 17, 18, 22, 26, 27, 28, 29, 0, 0, 0], [], [], [19, 20, 21], [], [], [], [23, 24, 25], [], [], [], [], [], [], [0, 0, 0, 0, 0, 0, 0, 0], [0, 0, 0, 0, 0, 0, 0, 0], [32, 0, 0], [], [34, 35, 36, 37, 0, 0], [], [], [], [], [39, 40, 41, 42], [43, 0, 0], [44, 0, 0], [45, 0, 0], [46, 0, 0], [], [], [], [], [], [], [], [], [], [], [], [], [], [], [], [], [], [], [], [], [], []].getD t []).getD j 0
def gg_nf (c : Nat) : Nat := [1, 11, 3, 6, 2, 3, 3, 8, 2, 3, 12, 25].getD c 0
def gg_fk (c j : Nat) : Nat := ([[2], [2, 2, 2, 2, 2, 2, 2, 2, 0, 0, 0], [2, 2, 0], [2, 2, 2, 2, 0, 0], [2, 0], [2, 0, 0], [2, 0, 0], [0, 0, 0, 0, 0, 0, 0, 0], [2, 0], [2, 0, 0], [2, 2, 2, 2, 2, 2, 2, 2, 2, 2, 2, 0], [2, 2, 2, 2, 0, 0, 2, 2, 0, 2, 2, 2, 1, 2, 0, 0, 2, 2, 2, 2, 2, 2, 2, 2, 0]].getD c []).getD j 0
abbrev gg_cls : List vw_C := [(RX0, TX0, 1), (RX1, TX1, 11), (RX2, TX2, 3), (RX3, TX3, 6), (RX4, TX4, 2), (RX5, TX5, 3), (RX6, TX6, 3), (RX7, TX7, 8), (RX8, TX8, 2), (RX9, TX9, 3), (RX10, TX10, 12), (RX11, TX11, 25)]
def gg_ft (c j : Nat) : FieldType := match c with
  | 0 => tyX0 j
  | 1 => tyX1 j
  | 2 => tyX2 j
  | 3 => tyX3 j
  | 4 => tyX4 j
  | 5 => tyX5 j
  | 6 => tyX6 j
  | 7 => tyX7 j
  | 8 => tyX8 j
  | 9 => tyX9 j
  | 10 => tyX10 j
  | _ => tyX11 j
def gg_sn (k : Nat) : String × String × String := [("ColdMotor", "DIGEST_SETS", "[I"), ("ColdMotor$Motor", "LETTERS", "[C"), ("ColdMotor$Motor", "AT_FIRST", "[I"), ("ColdMotor$Motor", "MOST", "[I"), ("ColdMotor$State", "MINUTES", "[I")].getD k ("", "", "")
def gg_st (k : Nat) : FieldType := [.int, .char, .int, .int, .int].getD k .int
def gg_sl (k : Nat) : Nat := [3, 7, 7, 7, 10].getD k 0
def gg_sv (k j : Nat) : Int32 := ([[0, 3, 31], [112, 115, 116, 100, 99, 98, 109], [7, 6, 10, 4, 4, 12, 60], [9, 9, 20, 9, 9, 30, 99], [1, 1, 1, 1, 10, 8, 6, 2, 12, 15]].getD k []).getD j 0
def gg_ty (k : Nat) : FieldType := if k = 20 then .int else if k = 21 then .long else if k = 22 then .boolean else if k = 23 then .object RX6 else .array .int
def gg_cv (ad : Nat → Nat) (v : Value) : Value := match v with
  | .ref k => .ref (ad k)
  | w => w
def gg_fv (u : gg_M) (t j : Nat) : Value := match gg_fk (gg_kd t) j with
  | 0 => .int (u.1 t j)
  | 1 => .long (u.2 t j)
  | _ => .ref (gg_rf t j)
def gg_fs (ad : Nat → Nat) (u : gg_M) (t : Nat) : List Value := (List.range (gg_nf (gg_kd t))).map (fun j => gg_cv ad (gg_fv u t j))
def gg_ce (ad : Nat → Nat) (ca : Nat → ClassId) (u : gg_M) (t : Nat) : va_E :=
  if gg_kd t < 12 then .inr (gg_kd t, gg_fs ad u t)
  else if gg_kd t = 21 then .inl (ca t, gg_al t, .inr (.inl (u.2 t)))
  else if gg_kd t = 20 ∨ gg_kd t = 22 then .inl (ca t, gg_al t, .inl (u.1 t))
  else .inl (ca t, gg_al t, .inr (.inr (.inr (.inr (fun j => some (ad (gg_rf t j)))))))
def gg_ws (ad : Nat → Nat) (ca : Nat → ClassId) (u : gg_M) : va_W := (List.range 65).map (fun t => (ad t, gg_ce ad ca u t))
theorem gg_ws_at {ad : Nat → Nat} {ca : Nat → ClassId} {u : gg_M} {t : Nat} (ht : t < 65) : (gg_ws ad ca u)[t]? = some (ad t, gg_ce ad ca u t) := by
  simp [gg_ws, List.getElem?_map, List.getElem?_range ht]
theorem gg_ws_len {ad : Nat → Nat} {ca : Nat → ClassId} {u : gg_M} : (gg_ws ad ca u).length = 65 := by simp [gg_ws]
theorem gg_ws_of {ad : Nat → Nat} {ca : Nat → ClassId} {u : gg_M} {k : Nat} {q : Nat × va_E} (h : (gg_ws ad ca u)[k]? = some q) : k < 65 ∧ q = (ad k, gg_ce ad ca u k) := by
  have hk : k < 65 := by
    have := (List.getElem?_eq_some_iff.mp h).1
    rwa [gg_ws_len] at this
  exact ⟨hk, (Option.some.inj ((gg_ws_at hk).symm.trans h)).symm⟩
theorem gg_ws_set {ad : Nat → Nat} {ca : Nat → ClassId} {u u' : gg_M} {t : Nat} {e : va_E} (ht : t < 65) (h0 : gg_ce ad ca u' t = e) (h1 : ∀ a, a ≠ t → gg_ce ad ca u' a = gg_ce ad ca u a) : (gg_ws ad ca u).set t (ad t, e) = gg_ws ad ca u' := by
  apply List.ext_getElem?
  intro k
  by_cases hk : k = t
  · subst hk
    rw [List.getElem?_set_self (by rw [gg_ws_len]; exact ht), gg_ws_at ht, h0]
  · rw [List.getElem?_set_ne (Ne.symm hk)]
    by_cases h65 : k < 65
    · rw [gg_ws_at h65, gg_ws_at h65, h1 k hk]
    · rw [List.getElem?_eq_none (by rw [gg_ws_len]; omega), List.getElem?_eq_none (by rw [gg_ws_len]; omega)]
theorem gg_ce_o {ad : Nat → Nat} {ca : Nat → ClassId} {u : gg_M} {t c : Nat} (hk : gg_kd t = c) (hc : c < 12) : gg_ce ad ca u t = .inr (c, gg_fs ad u t) := by
  subst hk
  exact if_pos hc
theorem gg_ce_i {ad : Nat → Nat} {ca : Nat → ClassId} {u : gg_M} {t : Nat} (hk : gg_kd t = 20 ∨ gg_kd t = 22) : gg_ce ad ca u t = .inl (ca t, gg_al t, .inl (u.1 t)) := by
  unfold gg_ce
  rw [if_neg (by omega), if_neg (by omega), if_pos hk]
theorem gg_ce_l {ad : Nat → Nat} {ca : Nat → ClassId} {u : gg_M} {t : Nat} (hk : gg_kd t = 21) : gg_ce ad ca u t = .inl (ca t, gg_al t, .inr (.inl (u.2 t))) := by
  unfold gg_ce
  rw [if_neg (by omega), if_pos hk]
theorem gg_ce_r {ad : Nat → Nat} {ca : Nat → ClassId} {u : gg_M} {t : Nat} (hk : gg_kd t = 23 ∨ gg_kd t = 24) : gg_ce ad ca u t = .inl (ca t, gg_al t, .inr (.inr (.inr (.inr (fun j => some (ad (gg_rf t j))))))) := by
  unfold gg_ce
  rw [if_neg (by omega), if_neg (by omega), if_neg (by omega)]
theorem gg_fv_c {u u' : gg_M} {t : Nat} (h1 : u'.1 t = u.1 t) (h2 : u'.2 t = u.2 t) (j : Nat) : gg_fv u' t j = gg_fv u t j := by
  unfold gg_fv
  rw [h1, h2]
theorem gg_ce_c {ad : Nat → Nat} {ca : Nat → ClassId} {u u' : gg_M} {t : Nat} (h1 : u'.1 t = u.1 t) (h2 : u'.2 t = u.2 t) : gg_ce ad ca u' t = gg_ce ad ca u t := by
  unfold gg_ce gg_fs
  simp only [gg_fv_c h1 h2, h1, h2]
theorem gg_wA_1 (u : gg_M) (t : Nat) (f : Nat → Int32) : (gg_wA u t f).1 t = f := if_pos rfl
theorem gg_wA_n (u : gg_M) {t a : Nat} (f : Nat → Int32) (h : a ≠ t) : (gg_wA u t f).1 a = u.1 a := if_neg h
theorem gg_wB_1 (u : gg_M) (t : Nat) (f : Nat → Int64) : (gg_wB u t f).2 t = f := if_pos rfl
theorem gg_wB_n (u : gg_M) {t a : Nat} (f : Nat → Int64) (h : a ≠ t) : (gg_wB u t f).2 a = u.2 a := if_neg h
theorem gg_ce_wA {ad : Nat → Nat} {ca : Nat → ClassId} {u : gg_M} {t : Nat} {f : Nat → Int32} (a : Nat) (h : a ≠ t) : gg_ce ad ca (gg_wA u t f) a = gg_ce ad ca u a := gg_ce_c (gg_wA_n u f h) rfl
theorem gg_ce_wB {ad : Nat → Nat} {ca : Nat → ClassId} {u : gg_M} {t : Nat} {f : Nat → Int64} (a : Nat) (h : a ≠ t) : gg_ce ad ca (gg_wB u t f) a = gg_ce ad ca u a := gg_ce_c rfl (gg_wB_n u f h)
theorem gg_fs_at {ad : Nat → Nat} {u : gg_M} {t j : Nat} (hj : j < gg_nf (gg_kd t)) : (gg_fs ad u t)[j]? = some (gg_cv ad (gg_fv u t j)) := by
  simp [gg_fs, List.getElem?_map, List.getElem?_range hj]
theorem gg_fs_len {ad : Nat → Nat} {u : gg_M} {t : Nat} : (gg_fs ad u t).length = gg_nf (gg_kd t) := by simp [gg_fs]
theorem gg_fs_set {ad : Nat → Nat} {u u' : gg_M} {t j : Nat} {v : Value} (hj : j < gg_nf (gg_kd t)) (h0 : gg_cv ad (gg_fv u' t j) = v) (h1 : ∀ a, a ≠ j → gg_fv u' t a = gg_fv u t a) : (gg_fs ad u t).set j v = gg_fs ad u' t := by
  apply List.ext_getElem?
  intro k
  by_cases hk : k = j
  · subst hk
    rw [List.getElem?_set_self (by rw [gg_fs_len]; exact hj), gg_fs_at hj, h0]
  · rw [List.getElem?_set_ne (Ne.symm hk)]
    by_cases h65 : k < gg_nf (gg_kd t)
    · rw [gg_fs_at h65, gg_fs_at h65, h1 k hk]
    · rw [List.getElem?_eq_none (by rw [gg_fs_len]; omega), List.getElem?_eq_none (by rw [gg_fs_len]; omega)]
theorem gg_fv_wI {u : gg_M} {t j : Nat} {x : Int32} (hf : gg_fk (gg_kd t) j = 0) : gg_fv (gg_wI u t j x) t j = .int x := by
  unfold gg_fv
  rw [hf]
  show Value.int ((gg_wA u t _).1 t j) = _
  rw [gg_wA_1]
  exact congrArg Value.int (if_pos rfl)
theorem gg_fv_wIn {u : gg_M} {t j a : Nat} {x : Int32} (h : a ≠ j) : gg_fv (gg_wI u t j x) t a = gg_fv u t a := by
  unfold gg_fv
  have e : (gg_wI u t j x).1 t a = u.1 t a := by
    show (gg_wA u t _).1 t a = _
    rw [gg_wA_1]
    exact if_neg h
  rw [e]
  rfl
theorem gg_fv_wL {u : gg_M} {t j : Nat} {x : Int64} (hf : gg_fk (gg_kd t) j = 1) : gg_fv (gg_wL u t j x) t j = .long x := by
  unfold gg_fv
  rw [hf]
  show Value.long ((gg_wB u t _).2 t j) = _
  rw [gg_wB_1]
  exact congrArg Value.long (if_pos rfl)
theorem gg_fv_wLn {u : gg_M} {t j a : Nat} {x : Int64} (h : a ≠ j) : gg_fv (gg_wL u t j x) t a = gg_fv u t a := by
  unfold gg_fv
  have e : (gg_wL u t j x).2 t a = u.2 t a := by
    show (gg_wB u t _).2 t a = _
    rw [gg_wB_1]
    exact if_neg h
  rw [e]
  rfl
/-! locals: places, some of them known -/
def gg_kl (o : Option Value) : Option Value := match o with
  | some (.long _) => none
  | some (.double _) => none
  | w => w
def gg_s1 : List (Option Value) → Nat → Value → List (Option Value)
  | [], _, _ => []
  | _ :: r, 0, v => some v :: r
  | o :: r, 1, v => gg_kl o :: gg_s1 r 0 v
  | o :: r, n + 2, v => o :: gg_s1 r (n + 1) v
def gg_s2 : List (Option Value) → Nat → Value → List (Option Value)
  | [], _, _ => []
  | [_], 0, v => [some v]
  | _ :: _ :: r, 0, v => some v :: none :: r
  | o :: r, 1, v => gg_kl o :: gg_s2 r 0 v
  | o :: r, n + 2, v => o :: gg_s2 r (n + 1) v
def gg_lp (ad : Nat → Nat) : Nat → List (Option Value) → List (Nat × Value)
  | _, [] => []
  | i, none :: r => gg_lp ad (i + 1) r
  | i, some v :: r => (i, gg_cv ad v) :: gg_lp ad (i + 1) r
theorem gg_lp_mem (ad : Nat → Nat) : ∀ (L : List (Option Value)) (i k : Nat) (w : Value), (k, w) ∈ gg_lp ad i L ↔ ∃ j v, k = i + j ∧ L[j]? = some (some v) ∧ w = gg_cv ad v
  | [], i, k, w => by simp [gg_lp]
  | none :: r, i, k, w => by
    rw [gg_lp, gg_lp_mem ad r (i + 1) k w]
    constructor
    · rintro ⟨j, v, h1, h2, h3⟩
      exact ⟨j + 1, v, by omega, by simpa using h2, h3⟩
    · rintro ⟨j, v, h1, h2, h3⟩
      match j, h2 with
      | 0, h2 => simp at h2
      | j + 1, h2 => exact ⟨j, v, by omega, by simpa using h2, h3⟩
  | some x :: r, i, k, w => by
    rw [gg_lp, List.mem_cons, gg_lp_mem ad r (i + 1) k w]
    constructor
    · rintro (h | ⟨j, v, h1, h2, h3⟩)
      · cases h
        exact ⟨0, x, rfl, rfl, rfl⟩
      · exact ⟨j + 1, v, by omega, by simpa using h2, h3⟩
    · rintro ⟨j, v, h1, h2, h3⟩
      match j, h2 with
      | 0, h2 =>
        cases h2
        subst h1 h3
        exact Or.inl rfl
      | j + 1, h2 => exact Or.inr ⟨j, v, by omega, by simpa using h2, h3⟩
def gg_lv (ad : Nat → Nat) (ls : Array Slot) (nL : Nat) (L : List (Option Value)) : Prop := L.length = nL ∧ lv_has ls nL (gg_lp ad 0 L)
theorem gg_lv_at {ad : Nat → Nat} {ls : Array Slot} {nL i : Nat} {L : List (Option Value)} {v : Value} (h : gg_lv ad ls nL L) (hi : L[i]? = some (some v)) : ls[i]? = some (.val (gg_cv ad v)) :=
  h.2.2.2 (i, gg_cv ad v) ((gg_lp_mem ad L 0 i _).mpr ⟨i, v, (Nat.zero_add i).symm, hi, rfl⟩)
theorem gg_kl_some {o : Option Value} {v : Value} (h : gg_kl o = some v) : o = some v ∧ v.category = 1 := by
  cases o with
  | none => cases h
  | some w => cases w <;> cases h <;> exact ⟨rfl, rfl⟩
theorem gg_s1_len : ∀ (L : List (Option Value)) (i : Nat) (v : Value), (gg_s1 L i v).length = L.length
  | [], _, _ => rfl
  | _ :: r, 0, v => rfl
  | o :: r, 1, v => by rw [gg_s1, List.length_cons, List.length_cons, gg_s1_len r 0 v]
  | o :: r, n + 2, v => by rw [gg_s1, List.length_cons, List.length_cons, gg_s1_len r (n + 1) v]
theorem gg_s2_len : ∀ (L : List (Option Value)) (i : Nat) (v : Value), (gg_s2 L i v).length = L.length
  | [], _, _ => rfl
  | [_], 0, v => rfl
  | _ :: _ :: r, 0, v => rfl
  | o :: r, 1, v => by rw [gg_s2, List.length_cons, List.length_cons, gg_s2_len r 0 v]
  | o :: r, n + 2, v => by rw [gg_s2, List.length_cons, List.length_cons, gg_s2_len r (n + 1) v]
theorem gg_s1_at : ∀ (L : List (Option Value)) (i : Nat) (v : Value) (j : Nat) (w : Value), (gg_s1 L i v)[j]? = some (some w) → (j = i ∧ w = v) ∨ (j ≠ i ∧ L[j]? = some (some w) ∧ ¬ (j + 1 = i ∧ w.category = 2))
  | [], _, _, j, w, h => by simp [gg_s1] at h
  | o :: r, 0, v, j, w, h => by
    match j, h with
    | 0, h => exact Or.inl ⟨rfl, by cases h; rfl⟩
    | j + 1, h => exact Or.inr ⟨by omega, by simpa [gg_s1] using h, by omega⟩
  | o :: r, 1, v, j, w, h => by
    match j, h with
    | 0, h =>
      have h2 : gg_kl o = some w := by simpa [gg_s1] using h
      obtain ⟨e1, e2⟩ := gg_kl_some h2
      exact Or.inr ⟨by omega, by simp [e1], fun q => by omega⟩
    | j + 1, h =>
      have h2 : (gg_s1 r 0 v)[j]? = some (some w) := by simpa [gg_s1] using h
      rcases gg_s1_at r 0 v j w h2 with ⟨e1, e2⟩ | ⟨e1, e2, e3⟩
      · exact Or.inl ⟨by omega, e2⟩
      · exact Or.inr ⟨by omega, by simpa using e2, by omega⟩
  | o :: r, n + 2, v, j, w, h => by
    match j, h with
    | 0, h => exact Or.inr ⟨by omega, by simpa [gg_s1] using h, by omega⟩
    | j + 1, h =>
      have h2 : (gg_s1 r (n + 1) v)[j]? = some (some w) := by simpa [gg_s1] using h
      rcases gg_s1_at r (n + 1) v j w h2 with ⟨e1, e2⟩ | ⟨e1, e2, e3⟩
      · exact Or.inl ⟨by omega, e2⟩
      · exact Or.inr ⟨by omega, by simpa using e2, fun q => e3 ⟨by omega, q.2⟩⟩
theorem gg_s2_at : ∀ (L : List (Option Value)) (i : Nat) (v : Value) (j : Nat) (w : Value), (gg_s2 L i v)[j]? = some (some w) → (j = i ∧ w = v) ∨ (j ≠ i ∧ j ≠ i + 1 ∧ L[j]? = some (some w) ∧ ¬ (j + 1 = i ∧ w.category = 2))
  | [], _, _, j, w, h => by simp [gg_s2] at h
  | [o], 0, v, j, w, h => by
    match j, h with
    | 0, h => exact Or.inl ⟨rfl, by cases h; rfl⟩
    | j + 1, h => simp [gg_s2] at h
  | o :: o2 :: r, 0, v, j, w, h => by
    match j, h with
    | 0, h => exact Or.inl ⟨rfl, by cases h; rfl⟩
    | 1, h => simp [gg_s2] at h
    | j + 2, h => exact Or.inr ⟨by omega, by omega, by simpa [gg_s2] using h, by omega⟩
  | o :: r, 1, v, j, w, h => by
    match j, h with
    | 0, h =>
      have h2 : gg_kl o = some w := by simpa [gg_s2] using h
      obtain ⟨e1, e2⟩ := gg_kl_some h2
      exact Or.inr ⟨by omega, by omega, by simp [e1], fun q => by omega⟩
    | j + 1, h =>
      have h2 : (gg_s2 r 0 v)[j]? = some (some w) := by simpa [gg_s2] using h
      rcases gg_s2_at r 0 v j w h2 with ⟨e1, e2⟩ | ⟨e1, e2, e3, e4⟩
      · exact Or.inl ⟨by omega, e2⟩
      · exact Or.inr ⟨by omega, by omega, by simpa using e3, by omega⟩
  | o :: r, n + 2, v, j, w, h => by
    match j, h with
    | 0, h => exact Or.inr ⟨by omega, by omega, by simpa [gg_s2] using h, by omega⟩
    | j + 1, h =>
      have h2 : (gg_s2 r (n + 1) v)[j]? = some (some w) := by simpa [gg_s2] using h
      rcases gg_s2_at r (n + 1) v j w h2 with ⟨e1, e2⟩ | ⟨e1, e2, e3, e4⟩
      · exact Or.inl ⟨by omega, e2⟩
      · exact Or.inr ⟨by omega, by omega, by simpa using e3, fun q => e4 ⟨by omega, q.2⟩⟩
theorem gg_cat (ad : Nat → Nat) (v : Value) : (gg_cv ad v).category = v.category := by cases v <;> rfl
theorem gg_lv_s1 {ad : Nat → Nat} {ls : Array Slot} {nL i : Nat} {L : List (Option Value)} {v : Value} (hl : L.length = nL) (h : lv_has ls nL ((i, gg_cv ad v) :: (gg_lp ad 0 L).filter (fun q => !(q.1 == i) && !(q.1 + 1 == i && q.2.category == 2)))) : gg_lv ad ls nL (gg_s1 L i v) := by
  refine ⟨by rw [gg_s1_len]; exact hl, h.1, h.2.1, fun q hq => ?_⟩
  obtain ⟨k, w⟩ := q
  obtain ⟨j, v', e1, e2, e3⟩ := (gg_lp_mem ad _ 0 k w).mp hq
  have ek : k = j := by omega
  subst ek
  rcases gg_s1_at L i v k v' e2 with ⟨f1, f2⟩ | ⟨f1, f2, f3⟩
  · subst f1 f2 e3
    exact h.2.2 _ List.mem_cons_self
  · refine h.2.2 (k, w) (List.mem_cons_of_mem _ (List.mem_filter.mpr ⟨(gg_lp_mem ad L 0 k w).mpr ⟨k, v', by omega, f2, e3⟩, ?_⟩))
    subst e3
    simp only [gg_cat, Bool.and_eq_true, Bool.not_eq_true', beq_eq_false_iff_ne, ne_eq, Bool.and_eq_false_iff]
    refine ⟨f1, ?_⟩
    by_cases hc : k + 1 = i
    · exact Or.inr (fun q => f3 ⟨hc, q⟩)
    · exact Or.inl hc
theorem gg_lv_s2 {ad : Nat → Nat} {ls : Array Slot} {nL i : Nat} {L : List (Option Value)} {v : Value} (hl : L.length = nL) (h : lv_has ls nL ((i, gg_cv ad v) :: (gg_lp ad 0 L).filter (fun q => !(q.1 == i) && (!(q.1 == i + 1) && !(q.1 + 1 == i && q.2.category == 2))))) : gg_lv ad ls nL (gg_s2 L i v) := by
  refine ⟨by rw [gg_s2_len]; exact hl, h.1, h.2.1, fun q hq => ?_⟩
  obtain ⟨k, w⟩ := q
  obtain ⟨j, v', e1, e2, e3⟩ := (gg_lp_mem ad _ 0 k w).mp hq
  have ek : k = j := by omega
  subst ek
  rcases gg_s2_at L i v k v' e2 with ⟨f1, f2⟩ | ⟨f1, f1', f2, f3⟩
  · subst f1 f2 e3
    exact h.2.2 _ List.mem_cons_self
  · refine h.2.2 (k, w) (List.mem_cons_of_mem _ (List.mem_filter.mpr ⟨(gg_lp_mem ad L 0 k w).mpr ⟨k, v', by omega, f2, e3⟩, ?_⟩))
    subst e3
    simp only [gg_cat, Bool.and_eq_true, Bool.not_eq_true', beq_eq_false_iff_ne, ne_eq, Bool.and_eq_false_iff]
    refine ⟨f1, f1', ?_⟩
    by_cases hc : k + 1 = i
    · exact Or.inr (fun q => f3 ⟨hc, q⟩)
    · exact Or.inl hc
/-- the locals at a method's entry -/
def gg_eL : List Value → List (Option Value)
  | [] => []
  | v :: r => if v.category = 2 then some v :: none :: gg_eL r else some v :: gg_eL r
theorem gg_eL_args (ad : Nat → Nat) : ∀ (vs : List Value) (i : Nat), gg_lp ad i (gg_eL vs) = lv_args i (vs.map (gg_cv ad))
  | [], i => rfl
  | v :: r, i => by
    rw [gg_eL, List.map_cons, lv_args, gg_cat]
    by_cases hc : v.category = 2
    · rw [if_pos hc, if_pos hc, gg_lp, gg_lp, gg_eL_args ad r (i + 2)]
    · rw [if_neg hc, if_neg hc, gg_lp, gg_eL_args ad r (i + 1)]
theorem gg_lp_pad (ad : Nat → Nat) : ∀ (L : List (Option Value)) (i n : Nat), gg_lp ad i (L ++ List.replicate n none) = gg_lp ad i L
  | [], i, 0 => rfl
  | [], i, n + 1 => by
    rw [List.nil_append, List.replicate_succ, gg_lp]
    have := gg_lp_pad ad [] (i + 1) n
    rwa [List.nil_append] at this
  | none :: r, i, n => by rw [List.cons_append, gg_lp, gg_lp, gg_lp_pad ad r (i + 1) n]
  | some v :: r, i, n => by rw [List.cons_append, gg_lp, gg_lp, gg_lp_pad ad r (i + 1) n]
theorem gg_eL_len (ad : Nat → Nat) : ∀ vs : List Value, (lg_sl (vs.map (gg_cv ad))).length = (gg_eL vs).length
  | [] => rfl
  | v :: r => by
    have ih := gg_eL_len ad r
    unfold lg_sl at ih ⊢
    rw [List.map_cons, List.flatMap_cons, List.length_append, ih, gg_eL, gg_cat]
    by_cases hc : v.category = 2
    · rw [if_pos hc, if_pos hc]; simp; omega
    · rw [if_neg hc, if_neg hc]; simp; omega
end
section
/-! the judgement: from this frame, with this memory, the method comes to its end -/
def gg_tG : List Cond := lw_tbl.filter goodWord
def gg_nw : List (String × Nat × MethodName × String) := [(RX10, 30, yX5_init, RX10), (RX10, 37, yX0_init, RX10), (RX10, 44, yX2_init, RX10), (RX10, 51, yX1_init, RX10), (RX1, 38, yX7_init, RX10), (RX10, 58, yX9_init, RX10), (RX10, 65, yX7_init, RX10), (RX10, 72, yX3_init, RX10), (RX10, 83, yX6_init, RX10), (RX6, 32, yX10_isBelow, RX10), (RX2, 22, yX10_isBelow, RX10), (RX7, 47, yX10_isBelow, RX10), (RX1, 98, yX10_isBelow, RX10), (RX10, 201, yX1_weightRunning, RX10), (RX3, 28, yX10_isBelow, RX10)]
def gg_N (U : State) : Prop := ∀ q ∈ gg_nw, va_Nw (.methodLinkNest q.1 q.2.1 q.2.2.1 q.2.2.2) U
def gg_K (D : va_G) (ca : Nat → ClassId) (U : State) : Prop := (∀ (c : Nat) (q : vw_C), gg_cls[c]? = some q → u_Kn U q.1 q.2.1 q.2.2 (D.1 c) (D.2 c)) ∧ ∀ t, t < 65 → 20 ≤ gg_kd t → ArrOfT U (ca t) (gg_ty (gg_kd t)) ∧ va_RA U (ca t) (gg_ty (gg_kd t))
def gg_S (ad : Nat → Nat) (A : Nat → Prop) (U : State) (H : Heap) : Prop := ∀ k, k < 5 → va_Z (gg_sn k).1 (gg_sn k).2.1 (gg_sn k).2.2 (.ref (ad (100 + k))) A U H ∧ va_T (gg_st k) (ad (100 + k)) (gg_sl k) (fun j => .int (gg_sv k j)) A U H
def gg_rok (rt : Option FieldType) (cc : ByteArray) (pc : Nat) (v : Option Value) : Prop := match v with
  | none => rt = none ∧ decode cc pc = .ok (.return_, 1)
  | some (.int x) => (∃ ty, rt = some ty ∧ narrow ty (.int x) = .int x) ∧ decode cc pc = .ok (.ireturn, 1)
  | some (.long _) => rt = some .long ∧ decode cc pc = .ok (.lreturn, 1)
  | some (.ref _) => (∃ n, rt = some (.object n)) ∧ decode cc pc = .ok (.areturn, 1)
  | _ => False
abbrev gg_T : Type := Nat → List (Option Value) → List Value → gg_M → Prop
def gg_G (p : Program) (l : Launch) (e : Env) (R : Room) (s : State) (m : MethodId) (args : Array Value) (below : List Frame) (meth : Method) (c : Code) (D : va_G) (ca : Nat → ClassId) (ad : Nat → Nat) (A : Nat → Prop) (cells slots : Nat) (Q : State → Prop) (nL : Nat) : gg_T :=
  fun pc L st u => ∀ (H : Heap) (locs : List Loc) (ls : Array Slot), va_P D gg_cls (gg_ws ad ca u) H → va_S A s.heap H locs → gg_lv ad ls nL L → W p l e R s m args below meth c H locs cells slots Q (F0 m pc ls (st.map (gg_cv ad)))
def gg_Cx (X : Option (Nat × (Nat → Int32))) (cc : ByteArray) (nL : Nat) (own : String) (rt : Option FieldType) (h : Nat) (E : Option Value → gg_M → Prop) (p : Program) (l : Launch) (e : Env) (R : Room) (s : State) (m : MethodId) (args : Array Value) (below : List Frame) (meth : Method) (c : Code) (D : va_G) (ca : Nat → ClassId) (ad : Nat → Nat) (A : Nat → Prop) (cells slots : Nat) (Q : State → Prop) : Prop :=
  p.tables.exec = Jvm.exec ∧ c.code = cc ∧ c.maxLocals = nL ∧ s.vm.findClass own = some m.cls ∧ (∀ w ∈ gg_tG, w.before args s = true) ∧ (h ≤ R.frames ∧ 64 * h ≤ R.locals ∧ cells ≤ R.cells ∧ slots ≤ R.slots) ∧
  gg_K D ca s ∧ gg_S ad A s s.heap ∧ (∀ i j, i < 65 → j < 65 → ad i = ad j → i = j) ∧ (∀ i, i < 65 → A (ad i)) ∧ gg_N s ∧ (∀ L xs, X = some (L, xs) → va_T .int (ad 110) L (fun j => .int (xs j)) A s s.heap) ∧
  ∀ (H : Heap) (locs : List Loc) (ls : Array Slot) (pc : Nat) (v : Option Value) (u : gg_M), va_P D gg_cls (gg_ws ad ca u) H → va_S A s.heap H locs → E v u → gg_rok rt cc pc v → W p l e R s m args below meth c H locs cells slots Q (F0 m pc ls (v.map (gg_cv ad)).toList)
/-- G is the judgement of a method with code cc, nL places, of the class own, whose ends may be E, with frames for h more -/
def gg_Cl (X : Option (Nat × (Nat → Int32))) (cc : ByteArray) (nL : Nat) (own : String) (rt : Option FieldType) (h : Nat) (E : Option Value → gg_M → Prop) (G : gg_T) : Prop :=
  ∃ (p : Program) (l : Launch) (e : Env) (R : Room) (s : State) (m : MethodId) (args : Array Value) (below : List Frame) (meth : Method) (c : Code) (D : va_G) (ca : Nat → ClassId) (ad : Nat → Nat) (A : Nat → Prop) (cells slots : Nat) (Q : State → Prop), gg_Cx X cc nL own rt h E p l e R s m args below meth c D ca ad A cells slots Q ∧ G = gg_G p l e R s m args below meth c D ca ad A cells slots Q nL
/-! a method's contract -/
def gg_AS (ad : Nat → Nat) : Nat → Prop := fun q => ∃ k, k < 65 ∧ q = ad k
def gg_rm (h : Nat) : Room := { frames := h, cells := 0, slots := 0, locals := 64 * h }
def gg_Wd (D : va_G) (ca : Nat → ClassId) (ad : Nat → Nat) (u : gg_M) (U : State) : Prop := va_P D gg_cls (gg_ws ad ca u) U.heap ∧ gg_K D ca U ∧ gg_S ad (gg_AS ad) U U.heap ∧ (∀ i j, i < 65 → j < 65 → ad i = ad j → i = j) ∧ gg_N U
def gg_QR (D : va_G) (ca : Nat → ClassId) (ad : Nat → Nat) (E : Option Value → gg_M → Prop) : Array Value → State → Outcome → State → Prop := fun _ st o t => (∃ (v : Option Value) (u : gg_M), o = .returned (v.map (gg_cv ad)) ∧ E v u ∧ va_P D gg_cls (gg_ws ad ca u) t.heap) ∧ va_F (gg_AS ad) st t
def gg_Mt (h : Nat) (y : MethodName) (cy : ByteArray) (nLy : Nat) (rt : Option FieldType) (As : List Value) (u : gg_M) (E : Option Value → gg_M → Prop) : Prop :=
  ∀ (l : Launch) (D : va_G) (ca : Nat → ClassId) (ad : Nat → Nat), Met l y (.code y cy nLy rt :: gg_tG) (gg_rm h) (va_Pc (As.map (gg_cv ad)) (gg_Wd D ca ad u)) (gg_QR D ca ad E) 0 0 (gg_AS ad)
theorem gg_K.moved {D : va_G} {ca : Nat → ClassId} {u U : State} (hvm : u.vm.Alike U.vm) (h : gg_K D ca u) : gg_K D ca U := ⟨fun c q hq => u_Kn_moved hvm (h.1 c q hq), fun t h1 h2 => ⟨arrOfT_moved hvm (h.2 t h1 h2).1, (h.2 t h1 h2).2.moved hvm⟩⟩
theorem gg_K.va {D : va_G} {ca : Nat → ClassId} {U : State} (h : gg_K D ca U) {t : Nat} (ht : t < 65) (hk : 20 ≤ gg_kd t) : va_K D gg_cls [(ca t, gg_ty (gg_kd t))] U :=
  ⟨h.1, fun k q hq => by
    match k, hq with
    | 0, hq => cases hq; exact h.2 t ht hk
    | k + 1, hq => simp at hq⟩
theorem gg_K.v0 {D : va_G} {ca : Nat → ClassId} {U : State} (h : gg_K D ca U) : va_K D gg_cls [] U := ⟨h.1, fun k q hq => by simp at hq⟩
theorem gg_S.moved {ad : Nat → Nat} {A : Nat → Prop} {u U : State} {H : Heap} (hvm : u.vm.Alike U.vm) (h : gg_S ad A u H) : gg_S ad A U H := fun k hk => ⟨(h k hk).1.moved hvm, (h k hk).2.moved hvm⟩
theorem gg_S.kept {ad : Nat → Nat} {A : Nat → Prop} {U : State} {H H1 : Heap} (h : gg_S ad A U H) (hq : ∀ a : Nat, a < H.size → ¬ A a → H1[a]? = H[a]?) : gg_S ad A U H1 := fun k hk => ⟨(h k hk).1.kept hq, (h k hk).2.kept hq⟩
theorem gg_S.narrow {ad : Nat → Nat} {A B : Nat → Prop} {U : State} {H : Heap} (h : gg_S ad A U H) (hAB : ∀ q, B q → A q) : gg_S ad B U H := fun k hk => ⟨(h k hk).1.narrow hAB, (h k hk).2.narrow hAB⟩
theorem gg_N.same {u U : State} (h : u.vm = U.vm) (hN : gg_N u) : gg_N U := fun q hq => va_Nw.same rfl h (hN q hq)
theorem gg_N.warm {s U : State} (hW : s.WarmedH U.vm) (hN : gg_N s) : gg_N U := fun q hq => va_Nw.warmM hW (hN q hq)
theorem gg_va_D {ad : Nat → Nat} {ca : Nat → ClassId} {A : Nat → Prop} {u : gg_M} (hI : ∀ i j, i < 65 → j < 65 → ad i = ad j → i = j) (hA : ∀ i, i < 65 → A (ad i)) : va_D A (gg_ws ad ca u) := by
  refine ⟨fun i j p q hp hq e => ?_, fun k q hq => ?_⟩
  · obtain ⟨h1, rfl⟩ := gg_ws_of hp
    obtain ⟨h2, rfl⟩ := gg_ws_of hq
    exact hI i j h1 h2 e
  · obtain ⟨h1, rfl⟩ := gg_ws_of hq
    exact hA k h1
theorem gg_blind (D : va_G) (ca : Nat → ClassId) (ad : Nat → Nat) (u : gg_M) (As : List Value) : FrameBlind (va_Pc (As.map (gg_cv ad)) (gg_Wd D ca ad u)) := by
  intro a U g mk h
  obtain ⟨h0, h1, h2, h3, h4, h5⟩ := h
  exact ⟨h0, h1, h2.moved (u := U) (U := U.calling g mk a) (Vm.Alike.refl U.vm), h3.moved (u := U) (U := U.calling g mk a) (Vm.Alike.refl U.vm), h4, h5.same rfl⟩
/-- a contract out of the body's walk -/
theorem gg_intro {h : Nat} {y : MethodName} {cy : ByteArray} {nLy : Nat} {rt : Option FieldType} {own : String} {As : List Value} {L : List (Option Value)} {u : gg_M} {E : Option Value → gg_M → Prop} (hy : plainName y.cls = true) (ho : y.cls = own) (hL : gg_eL As ++ List.replicate (nLy - (gg_eL As).length) none = L) (hlen : (gg_eL As).length ≤ nLy)
    (hb : ∀ G, gg_Cl none cy nLy own rt h E G → G 0 L [] u) : gg_Mt h y cy nLy rt As u E := by
  intro l D ca ad
  refine Met.ofW (cc := cy) (maxL := nLy) (ret := rt) hy rfl ?_
  intro p e s m args below meth c s₁ B hml hv
  obtain ⟨rfl, hP, hK, hS, hI, hN⟩ := hv
  have hx := B.exec
  have hbb := B.bytes
  have hr := B.returns
  have hts := atoms_spec (ws := Cond.code y cy nLy rt :: gg_tG) B.pre
  have hown : s.vm.findClass own = some m.cls := by rw [← ho]; exact findClass_of_methodNamed B.named
  have hlocks := B.notSynchronized
  have hle := lv_entry (As.map (gg_cv ad)) (n := nLy) (by rw [gg_eL_len]; exact hlen)
  rw [lg_entry_eq]
  generalize (lg_sl (As.map (gg_cv ad)) ++ List.replicate (nLy - (lg_sl (As.map (gg_cv ad))).length) Slot.unset).toArray = ls at hle ⊢
  refine hb (gg_G p l e (headSpec (Cond.code y cy nLy rt :: gg_tG) (gg_rm h)).room s m _ below meth c D ca ad (gg_AS ad) 0 0 (MQ below (gg_QR D ca ad E) _ s 0 0 (gg_AS ad)) nLy) ⟨p, l, e, _, s, m, _, below, meth, c, D, ca, ad, gg_AS ad, 0, 0, _, ⟨hx, hbb, hml, hown, fun w hw => hts w (List.mem_cons_of_mem _ hw), ⟨Nat.le_refl h, Nat.le_refl _, Nat.le_refl 0, Nat.le_refl 0⟩, hK, hS, hI, fun i hi => ⟨i, hi, rfl⟩, hN, fun _ _ h => (by cases h), ?_⟩, rfl⟩ s.heap [] ls hP va_S.rf ⟨?_, ?_⟩
  · intro H locs ls pc v u' hP' hS' hE hk
    have hq : ∀ t : State, t.heap = H → s.WarmedH t.vm → gg_QR D ca ad E (As.map (gg_cv ad)).toArray s (.returned (v.map (gg_cv ad))) t := fun t ht _ => ⟨⟨v, u', rfl, hE, by rw [ht]; exact hP'⟩, hS'.F ht⟩
    match v, hk, hq with
    | none, hk, hq => exact W.vret hx hbb (hr.trans hk.1) hq hS'.2.2 hk.2
    | some (.int x), hk, hq =>
      obtain ⟨⟨ty, h1, h2⟩, h3⟩ := hk
      exact W.zret hx hbb (hr.trans h1) h2 hq hS'.2.2 h3
    | some (.long x), hk, hq => exact W.lret hx hbb (hr.trans hk.1) hq hS'.2.2 hk.2
    | some (.ref x), hk, hq =>
      obtain ⟨⟨n, h1⟩, h3⟩ := hk
      exact W.aret hx hbb (hr.trans h1) (Or.inl ⟨n, rfl⟩) (Or.inr ⟨_, rfl⟩) hq hS'.2.2 h3
    | some .null, hk, hq => exact hk.elim
    | some (.float _), hk, hq => exact hk.elim
    | some (.double _), hk, hq => exact hk.elim
  · rw [← hL, List.length_append, List.length_replicate]
    omega
  · rw [← hL, gg_lp_pad, gg_eL_args]
    exact hle
/-! the end of a call -/
theorem gg_calld {p : Program} {l : Launch} {e : Env} {R : Room} {s : State} {m : MethodId} {args : Array Value} {below : List Frame} {meth : Method} {c : Code} {H : Heap} {locs : List Loc} {cells slots : Nat} {Q : State → Prop} {pc : Nat} {ls : Array Slot} {rest st0 : List Value} {a : Array Value} {A : Nat → Prop} {D : va_G} {ca : Nat → ClassId} {ad : Nat → Nat} {E : Option Value → gg_M → Prop}
    (hr : va_Run p l e R s m args below meth c H locs cells slots 0 0 (F0 m pc ls st0) rest (gg_QR D ca ad E a) (gg_AS ad)) (hS : va_S A s.heap H locs) (hA : ∀ q, gg_AS ad q → A q)
    (kk : ∀ (v : Option Value) (u : gg_M) (H1 : Heap) (locs1 : List Loc), E v u → va_P D gg_cls (gg_ws ad ca u) H1 → va_S A s.heap H1 locs1 → W p l e R s m args below meth c H1 locs1 cells slots Q (F0 m (pc + 3) ls ((v.map (gg_cv ad)).toList ++ rest))) : W p l e R s m args below meth c H locs cells slots Q (F0 m pc ls st0) := by
  intro T hT X
  obtain ⟨v, st₀, t, T', Lc, h0, X', hL, e1, e2, ⟨⟨r, u, hv, hp, hb⟩, hz, hk⟩, st⟩ := hr T hT X
  cases hv
  rw [h0] at hz hk
  obtain ⟨t2, a1, b1⟩ := kk r u T'.heap (locs ++ Lc) hp (by rw [e1]; exact hb)
    ⟨Nat.le_trans hS.1 (by rw [e1]; exact hz), fun q h1 h2 => by rw [e1, hk q (Nat.lt_of_lt_of_le h1 hS.1) (fun z => h2 (hA q z))]; exact hS.2.1 q h1 h2, fun q hq => by
      rcases List.mem_append.mp hq with h | h
      · exact hS.2.2 q h
      · exact hA _ (hL q h)⟩ T' rfl X'
  exact ⟨t2, st t2 a1, b1⟩
end
section
def gg_FL (own : String) (idx c0 j : Nat) : Prop := ∃ q : vw_C, gg_cls[c0]? = some q ∧ j < q.2.2 ∧ Cond.fieldLink own idx (q.2.1 j).1 (q.2.1 j).2.1 (q.2.1 j).2.2.1 ∈ gg_tG
def gg_FP (own : String) (idx c0 j : Nat) : Prop := ∃ q : vw_C, gg_cls[c0]? = some q ∧ j < q.2.2 ∧ Cond.fieldLink own idx (q.2.1 j).1 (q.2.1 j).2.1 (q.2.1 j).2.2.1 ∈ gg_tG ∧ (q.2.1 j).2.2.2 = false
def gg_Y (y : MethodName) (cy : ByteArray) (nLy : Nat) (rt : Option FieldType) (n : Nat) : Prop := Cond.code y cy nLy rt ∈ gg_tG ∧ Cond.initialized y.cls ∈ gg_tG ∧ (y.cls ≠ "java/lang/invoke/MethodHandle" ∧ y.cls ≠ "java/lang/invoke/VarHandle") ∧ (∀ sig, parseMethodDescriptor y.desc = some sig → n = sig.parameters.length) ∧ nLy ≤ 40
def gg_YV (y : MethodName) : Prop := Cond.instanceMethod y ∈ gg_tG ∧ Cond.selects y.cls y y ∈ gg_tG
theorem gg_Y_of {y : MethodName} {cy : ByteArray} {nLy : Nat} {rt : Option FieldType} {n : Nat} (h1 : Cond.code y cy nLy rt ∈ gg_tG) (h2 : Cond.initialized y.cls ∈ gg_tG) (h3 : y.cls ≠ "java/lang/invoke/MethodHandle" ∧ y.cls ≠ "java/lang/invoke/VarHandle") (h4 : (parseMethodDescriptor y.desc).map (fun d => d.parameters.length) = some n) (h5 : nLy ≤ 40) : gg_Y y cy nLy rt n := ⟨h1, h2, h3, fun sig h => by rw [h] at h4; exact (Option.some.inj h4).symm, h5⟩
theorem gg_in {w : Cond} (i : Nat) (h : lw_tbl[i]? = some w) (hg : goodWord w = true) : w ∈ gg_tG := List.mem_filter.mpr ⟨List.mem_of_getElem? h, hg⟩
theorem gg_inX0 : ∀ w ∈ u_ws RX0 TX0 1, w ∈ gg_tG := by decide +kernel
theorem gg_inX1 : ∀ w ∈ u_ws RX1 TX1 11, w ∈ gg_tG := by decide +kernel
theorem gg_inX2 : ∀ w ∈ u_ws RX2 TX2 3, w ∈ gg_tG := by decide +kernel
theorem gg_inX3 : ∀ w ∈ u_ws RX3 TX3 6, w ∈ gg_tG := by decide +kernel
theorem gg_inX4 : ∀ w ∈ u_ws RX4 TX4 2, w ∈ gg_tG := by decide +kernel
theorem gg_inX5 : ∀ w ∈ u_ws RX5 TX5 3, w ∈ gg_tG := by decide +kernel
theorem gg_inX6 : ∀ w ∈ u_ws RX6 TX6 3, w ∈ gg_tG := by decide +kernel
theorem gg_inX7 : ∀ w ∈ u_ws RX7 TX7 8, w ∈ gg_tG := by decide +kernel
theorem gg_inX8 : ∀ w ∈ u_ws RX8 TX8 2, w ∈ gg_tG := by decide +kernel
theorem gg_inX9 : ∀ w ∈ u_ws RX9 TX9 3, w ∈ gg_tG := by decide +kernel
theorem gg_inX10 : ∀ w ∈ u_ws RX10 TX10 12, w ∈ gg_tG := by decide +kernel
theorem gg_inX11 : ∀ w ∈ u_ws RX11 TX11 25, w ∈ gg_tG := by decide +kernel
theorem gg_clsF {c0 : Nat} {q : vw_C} (h : gg_cls[c0]? = some q) : c0 < 12 ∧ q.2.2 = gg_nf c0 ∧ (∀ w ∈ u_ws q.1 q.2.1 q.2.2, w ∈ gg_tG) ∧ (∀ k, k < q.2.2 → parseFieldDescriptor (q.2.1 k).2.2.1 = some (gg_ft c0 k)) ∧ ∀ a, a < q.2.2 → ∀ b, b < q.2.2 → a ≠ b → (q.2.1 a).2.1 ≠ (q.2.1 b).2.1 := by
  match c0, h with
  | 0, h => cases h; exact ⟨by decide, rfl, gg_inX0, tyX0_ok, nmX0⟩
  | 1, h => cases h; exact ⟨by decide, rfl, gg_inX1, tyX1_ok, nmX1⟩
  | 2, h => cases h; exact ⟨by decide, rfl, gg_inX2, tyX2_ok, nmX2⟩
  | 3, h => cases h; exact ⟨by decide, rfl, gg_inX3, tyX3_ok, nmX3⟩
  | 4, h => cases h; exact ⟨by decide, rfl, gg_inX4, tyX4_ok, nmX4⟩
  | 5, h => cases h; exact ⟨by decide, rfl, gg_inX5, tyX5_ok, nmX5⟩
  | 6, h => cases h; exact ⟨by decide, rfl, gg_inX6, tyX6_ok, nmX6⟩
  | 7, h => cases h; exact ⟨by decide, rfl, gg_inX7, tyX7_ok, nmX7⟩
  | 8, h => cases h; exact ⟨by decide, rfl, gg_inX8, tyX8_ok, nmX8⟩
  | 9, h => cases h; exact ⟨by decide, rfl, gg_inX9, tyX9_ok, nmX9⟩
  | 10, h => cases h; exact ⟨by decide, rfl, gg_inX10, tyX10_ok, nmX10⟩
  | 11, h => cases h; exact ⟨by decide, rfl, gg_inX11, tyX11_ok, nmX11⟩
  | k + 12, h => simp at h
section GGR
variable {X : Option (Nat × (Nat → Int32))} {cc : ByteArray} {nL : Nat} {own : String} {rt : Option FieldType} {h : Nat} {E : Option Value → gg_M → Prop} {G : gg_T} {pc : Nat} {L : List (Option Value)} {st : List Value} {u : gg_M}
theorem gg_iconst (hG : gg_Cl X cc nL own rt h E G) {n : Int} {v : Int32} (hd : decode cc pc = .ok (.iconst n, 1)) (hv : Int32.ofInt n = v) (k : G (pc + 1) L (.int v :: st) u) : G pc L (st) u := by
  obtain ⟨p, l, e, R, s, m, args, below, meth, c, D, ca, ad, A, cells, slots, Q, ⟨hx, hb, hml, hown, hts, hR, hK, hS0, hI, hA, hN, hX, hE⟩, rfl⟩ := hG
  intro H locs ls hP hS hl
  exact lv_iconst hx hb hd hv (k H locs ls hP hS hl)
theorem gg_bipush (hG : gg_Cl X cc nL own rt h E G) {n : Int} {v : Int32} (hd : decode cc pc = .ok (.bipush n, 2)) (hv : (Int8.ofInt n).toInt32 = v) (k : G (pc + 2) L (.int v :: st) u) : G pc L (st) u := by
  obtain ⟨p, l, e, R, s, m, args, below, meth, c, D, ca, ad, A, cells, slots, Q, ⟨hx, hb, hml, hown, hts, hR, hK, hS0, hI, hA, hN, hX, hE⟩, rfl⟩ := hG
  intro H locs ls hP hS hl
  exact lv_bipush hx hb hd hv (k H locs ls hP hS hl)
theorem gg_sipush (hG : gg_Cl X cc nL own rt h E G) {n : Int} {v : Int32} (hd : decode cc pc = .ok (.sipush n, 3)) (hv : (Int16.ofInt n).toInt32 = v) (k : G (pc + 3) L (.int v :: st) u) : G pc L (st) u := by
  obtain ⟨p, l, e, R, s, m, args, below, meth, c, D, ca, ad, A, cells, slots, Q, ⟨hx, hb, hml, hown, hts, hR, hK, hS0, hI, hA, hN, hX, hE⟩, rfl⟩ := hG
  intro H locs ls hP hS hl
  exact lv_sipush hx hb hd hv (k H locs ls hP hS hl)
theorem gg_lconst (hG : gg_Cl X cc nL own rt h E G) {n : Fin 2} {v : Int64} (hd : decode cc pc = .ok (.lconst n, 1)) (hv : Int64.ofNat (n : Nat) = v) (k : G (pc + 1) L (.long v :: st) u) : G pc L (st) u := by
  obtain ⟨p, l, e, R, s, m, args, below, meth, c, D, ca, ad, A, cells, slots, Q, ⟨hx, hb, hml, hown, hts, hR, hK, hS0, hI, hA, hN, hX, hE⟩, rfl⟩ := hG
  intro H locs ls hP hS hl
  exact lv_lconst hx hb hd hv (k H locs ls hP hS hl)
theorem gg_ldc (hG : gg_Cl X cc nL own rt h E G) {idx : Nat} {v : Int32} (hd : decode cc pc = .ok (.ldc idx, 2)) (hc : Cond.constant own idx v ∈ gg_tG) (k : G (pc + 2) L (.int v :: st) u) : G pc L st u := by
  obtain ⟨p, l, e, R, s, m, args, below, meth, c, D, ca, ad, A, cells, slots, Q, ⟨hx, hb, hml, hown, hts, hR, hK, hS0, hI, hA, hN, hX, hE⟩, rfl⟩ := hG
  intro H locs ls hP hS hl
  exact lv_ldc hx hb hown (hts _ hc) hd (k H locs ls hP hS hl)
theorem gg_ldcw (hG : gg_Cl X cc nL own rt h E G) {idx : Nat} {v : Int32} (hd : decode cc pc = .ok (.ldc_w idx, 3)) (hc : Cond.constant own idx v ∈ gg_tG) (k : G (pc + 3) L (.int v :: st) u) : G pc L st u := by
  obtain ⟨p, l, e, R, s, m, args, below, meth, c, D, ca, ad, A, cells, slots, Q, ⟨hx, hb, hml, hown, hts, hR, hK, hS0, hI, hA, hN, hX, hE⟩, rfl⟩ := hG
  intro H locs ls hP hS hl
  exact lv_ldcw hx hb hown (hts _ hc) hd (k H locs ls hP hS hl)
theorem gg_ldc2 (hG : gg_Cl X cc nL own rt h E G) {idx : Nat} {v : Int64} (hd : decode cc pc = .ok (.ldc2_w idx, 3)) (hc : Cond.constantLong own idx v ∈ gg_tG) (k : G (pc + 3) L (.long v :: st) u) : G pc L st u := by
  obtain ⟨p, l, e, R, s, m, args, below, meth, c, D, ca, ad, A, cells, slots, Q, ⟨hx, hb, hml, hown, hts, hR, hK, hS0, hI, hA, hN, hX, hE⟩, rfl⟩ := hG
  intro H locs ls hP hS hl
  exact lv_ldc2 hx hb hown (hts _ hc) hd (k H locs ls hP hS hl)
theorem gg_iload_n (hG : gg_Cl X cc nL own rt h E G) {k0 : Fin 4} {i : Nat} {x : Int32} (hd : decode cc pc = .ok (.iload_n k0, 1)) (hi : (k0 : Nat) = i) (hL : L[i]? = some (some (.int x))) (k : G (pc + 1) L (.int x :: st) u) : G pc L st u := by
  obtain ⟨p, l, e, R, s, m, args, below, meth, c, D, ca, ad, A, cells, slots, Q, ⟨hx, hb, hml, hown, hts, hR, hK, hS0, hI, hA, hN, hX, hE⟩, rfl⟩ := hG
  intro H locs ls hP hS hl
  exact lv_iload_n hx hb hd hi (gg_lv_at hl hL) (k H locs ls hP hS hl)
theorem gg_iload (hG : gg_Cl X cc nL own rt h E G) {i : Nat} {x : Int32} (hd : decode cc pc = .ok (.iload i, 2)) (hL : L[i]? = some (some (.int x))) (k : G (pc + 2) L (.int x :: st) u) : G pc L st u := by
  obtain ⟨p, l, e, R, s, m, args, below, meth, c, D, ca, ad, A, cells, slots, Q, ⟨hx, hb, hml, hown, hts, hR, hK, hS0, hI, hA, hN, hX, hE⟩, rfl⟩ := hG
  intro H locs ls hP hS hl
  exact lv_iload hx hb hd (gg_lv_at hl hL) (k H locs ls hP hS hl)
theorem gg_istore_n (hG : gg_Cl X cc nL own rt h E G) {k0 : Fin 4} {i : Nat} {x : Int32} {L1 : List (Option Value)} (hd : decode cc pc = .ok (.istore_n k0, 1)) (hi : (k0 : Nat) = i) (hn : i < nL) (hL : gg_s1 L i (.int x) = L1) (k : G (pc + 1) L1 st u) : G pc L (.int x :: st) u := by
  obtain ⟨p, l, e, R, s, m, args, below, meth, c, D, ca, ad, A, cells, slots, Q, ⟨hx, hb, hml, hown, hts, hR, hK, hS0, hI, hA, hN, hX, hE⟩, rfl⟩ := hG
  intro H locs ls hP hS hl
  exact lv_istore_n hx hb hd hi hl.2 hn rfl (fun ls1 hl1 => k H locs ls1 hP hS (hL ▸ gg_lv_s1 (v := .int x) hl.1 hl1))
theorem gg_istore (hG : gg_Cl X cc nL own rt h E G) {i : Nat} {x : Int32} {L1 : List (Option Value)} (hd : decode cc pc = .ok (.istore i, 2)) (hn : i < nL) (hL : gg_s1 L i (.int x) = L1) (k : G (pc + 2) L1 st u) : G pc L (.int x :: st) u := by
  obtain ⟨p, l, e, R, s, m, args, below, meth, c, D, ca, ad, A, cells, slots, Q, ⟨hx, hb, hml, hown, hts, hR, hK, hS0, hI, hA, hN, hX, hE⟩, rfl⟩ := hG
  intro H locs ls hP hS hl
  exact lv_istore hx hb hd hl.2 hn rfl (fun ls1 hl1 => k H locs ls1 hP hS (hL ▸ gg_lv_s1 (v := .int x) hl.1 hl1))
theorem gg_lload_n (hG : gg_Cl X cc nL own rt h E G) {k0 : Fin 4} {i : Nat} {x : Int64} (hd : decode cc pc = .ok (.lload_n k0, 1)) (hi : (k0 : Nat) = i) (hL : L[i]? = some (some (.long x))) (k : G (pc + 1) L (.long x :: st) u) : G pc L st u := by
  obtain ⟨p, l, e, R, s, m, args, below, meth, c, D, ca, ad, A, cells, slots, Q, ⟨hx, hb, hml, hown, hts, hR, hK, hS0, hI, hA, hN, hX, hE⟩, rfl⟩ := hG
  intro H locs ls hP hS hl
  exact lv_lload_n hx hb hd hi (gg_lv_at hl hL) (k H locs ls hP hS hl)
theorem gg_lload (hG : gg_Cl X cc nL own rt h E G) {i : Nat} {x : Int64} (hd : decode cc pc = .ok (.lload i, 2)) (hL : L[i]? = some (some (.long x))) (k : G (pc + 2) L (.long x :: st) u) : G pc L st u := by
  obtain ⟨p, l, e, R, s, m, args, below, meth, c, D, ca, ad, A, cells, slots, Q, ⟨hx, hb, hml, hown, hts, hR, hK, hS0, hI, hA, hN, hX, hE⟩, rfl⟩ := hG
  intro H locs ls hP hS hl
  exact lv_lload hx hb hd (gg_lv_at hl hL) (k H locs ls hP hS hl)
theorem gg_lstore_n (hG : gg_Cl X cc nL own rt h E G) {k0 : Fin 4} {i : Nat} {x : Int64} {L1 : List (Option Value)} (hd : decode cc pc = .ok (.lstore_n k0, 1)) (hi : (k0 : Nat) = i) (hn : i + 1 < nL) (hL : gg_s2 L i (.long x) = L1) (k : G (pc + 1) L1 st u) : G pc L (.long x :: st) u := by
  obtain ⟨p, l, e, R, s, m, args, below, meth, c, D, ca, ad, A, cells, slots, Q, ⟨hx, hb, hml, hown, hts, hR, hK, hS0, hI, hA, hN, hX, hE⟩, rfl⟩ := hG
  intro H locs ls hP hS hl
  exact lv_lstore_n hx hb hd hi hl.2 hn rfl (fun ls1 hl1 => k H locs ls1 hP hS (hL ▸ gg_lv_s2 (v := .long x) hl.1 hl1))
theorem gg_lstore (hG : gg_Cl X cc nL own rt h E G) {i : Nat} {x : Int64} {L1 : List (Option Value)} (hd : decode cc pc = .ok (.lstore i, 2)) (hn : i + 1 < nL) (hL : gg_s2 L i (.long x) = L1) (k : G (pc + 2) L1 st u) : G pc L (.long x :: st) u := by
  obtain ⟨p, l, e, R, s, m, args, below, meth, c, D, ca, ad, A, cells, slots, Q, ⟨hx, hb, hml, hown, hts, hR, hK, hS0, hI, hA, hN, hX, hE⟩, rfl⟩ := hG
  intro H locs ls hP hS hl
  exact lv_lstore hx hb hd hl.2 hn rfl (fun ls1 hl1 => k H locs ls1 hP hS (hL ▸ gg_lv_s2 (v := .long x) hl.1 hl1))
theorem gg_aload_n (hG : gg_Cl X cc nL own rt h E G) {k0 : Fin 4} {i : Nat} {x : Nat} (hd : decode cc pc = .ok (.aload_n k0, 1)) (hi : (k0 : Nat) = i) (hL : L[i]? = some (some (.ref x))) (k : G (pc + 1) L (.ref x :: st) u) : G pc L st u := by
  obtain ⟨p, l, e, R, s, m, args, below, meth, c, D, ca, ad, A, cells, slots, Q, ⟨hx, hb, hml, hown, hts, hR, hK, hS0, hI, hA, hN, hX, hE⟩, rfl⟩ := hG
  intro H locs ls hP hS hl
  exact lv_aload_n hx hb hd hi (gg_lv_at hl hL) (k H locs ls hP hS hl)
theorem gg_aload (hG : gg_Cl X cc nL own rt h E G) {i : Nat} {x : Nat} (hd : decode cc pc = .ok (.aload i, 2)) (hL : L[i]? = some (some (.ref x))) (k : G (pc + 2) L (.ref x :: st) u) : G pc L st u := by
  obtain ⟨p, l, e, R, s, m, args, below, meth, c, D, ca, ad, A, cells, slots, Q, ⟨hx, hb, hml, hown, hts, hR, hK, hS0, hI, hA, hN, hX, hE⟩, rfl⟩ := hG
  intro H locs ls hP hS hl
  exact lv_aload hx hb hd (gg_lv_at hl hL) (k H locs ls hP hS hl)
theorem gg_astore_n (hG : gg_Cl X cc nL own rt h E G) {k0 : Fin 4} {i : Nat} {x : Nat} {L1 : List (Option Value)} (hd : decode cc pc = .ok (.astore_n k0, 1)) (hi : (k0 : Nat) = i) (hn : i < nL) (hL : gg_s1 L i (.ref x) = L1) (k : G (pc + 1) L1 st u) : G pc L (.ref x :: st) u := by
  obtain ⟨p, l, e, R, s, m, args, below, meth, c, D, ca, ad, A, cells, slots, Q, ⟨hx, hb, hml, hown, hts, hR, hK, hS0, hI, hA, hN, hX, hE⟩, rfl⟩ := hG
  intro H locs ls hP hS hl
  exact lv_astore_n hx hb hd hi hl.2 hn rfl (fun ls1 hl1 => k H locs ls1 hP hS (hL ▸ gg_lv_s1 (v := .ref x) hl.1 hl1))
theorem gg_astore (hG : gg_Cl X cc nL own rt h E G) {i : Nat} {x : Nat} {L1 : List (Option Value)} (hd : decode cc pc = .ok (.astore i, 2)) (hn : i < nL) (hL : gg_s1 L i (.ref x) = L1) (k : G (pc + 2) L1 st u) : G pc L (.ref x :: st) u := by
  obtain ⟨p, l, e, R, s, m, args, below, meth, c, D, ca, ad, A, cells, slots, Q, ⟨hx, hb, hml, hown, hts, hR, hK, hS0, hI, hA, hN, hX, hE⟩, rfl⟩ := hG
  intro H locs ls hP hS hl
  exact lv_astore hx hb hd hl.2 hn rfl (fun ls1 hl1 => k H locs ls1 hP hS (hL ▸ gg_lv_s1 (v := .ref x) hl.1 hl1))
theorem gg_iinc (hG : gg_Cl X cc nL own rt h E G) {i : Nat} {n : Int} {x v : Int32} {L1 : List (Option Value)} (hd : decode cc pc = .ok (.iinc i n, 3)) (hi : L[i]? = some (some (.int x))) (hv : x + Int32.ofInt n = v) (hn : i < nL) (hL : gg_s1 L i (.int v) = L1) (k : G (pc + 3) L1 st u) : G pc L st u := by
  obtain ⟨p, l, e, R, s, m, args, below, meth, c, D, ca, ad, A, cells, slots, Q, ⟨hx, hb, hml, hown, hts, hR, hK, hS0, hI, hA, hN, hX, hE⟩, rfl⟩ := hG
  intro H locs ls hP hS hl
  have hm : (i, Value.int x) ∈ gg_lp ad 0 L := (gg_lp_mem ad L 0 i (.int x)).mpr ⟨i, .int x, (Nat.zero_add i).symm, hi, rfl⟩
  obtain ⟨k1, hk1⟩ := List.getElem?_of_mem hm
  exact lv_iinc hx hb hd hl.2 hk1 hv hn rfl (fun ls1 hl1 => k H locs ls1 hP hS (hL ▸ gg_lv_s1 (v := .int v) hl.1 hl1))
theorem gg_iadd (hG : gg_Cl X cc nL own rt h E G) {x y : Int32} (hd : decode cc pc = .ok (.iadd, 1))  (k : G (pc + 1) L (.int (x + y) :: st) u) : G pc L (.int y :: .int x :: st) u := by
  obtain ⟨p, l, e, R, s, m, args, below, meth, c, D, ca, ad, A, cells, slots, Q, ⟨hx, hb, hml, hown, hts, hR, hK, hS0, hI, hA, hN, hX, hE⟩, rfl⟩ := hG
  intro H locs ls hP hS hl
  exact lv_iadd hx hb hd  (k H locs ls hP hS hl)
theorem gg_isub (hG : gg_Cl X cc nL own rt h E G) {x y : Int32} (hd : decode cc pc = .ok (.isub, 1))  (k : G (pc + 1) L (.int (x - y) :: st) u) : G pc L (.int y :: .int x :: st) u := by
  obtain ⟨p, l, e, R, s, m, args, below, meth, c, D, ca, ad, A, cells, slots, Q, ⟨hx, hb, hml, hown, hts, hR, hK, hS0, hI, hA, hN, hX, hE⟩, rfl⟩ := hG
  intro H locs ls hP hS hl
  exact lv_isub hx hb hd  (k H locs ls hP hS hl)
theorem gg_imul (hG : gg_Cl X cc nL own rt h E G) {x y : Int32} (hd : decode cc pc = .ok (.imul, 1))  (k : G (pc + 1) L (.int (x * y) :: st) u) : G pc L (.int y :: .int x :: st) u := by
  obtain ⟨p, l, e, R, s, m, args, below, meth, c, D, ca, ad, A, cells, slots, Q, ⟨hx, hb, hml, hown, hts, hR, hK, hS0, hI, hA, hN, hX, hE⟩, rfl⟩ := hG
  intro H locs ls hP hS hl
  exact lv_imul hx hb hd  (k H locs ls hP hS hl)
theorem gg_iand (hG : gg_Cl X cc nL own rt h E G) {x y : Int32} (hd : decode cc pc = .ok (.iand, 1))  (k : G (pc + 1) L (.int (x &&& y) :: st) u) : G pc L (.int y :: .int x :: st) u := by
  obtain ⟨p, l, e, R, s, m, args, below, meth, c, D, ca, ad, A, cells, slots, Q, ⟨hx, hb, hml, hown, hts, hR, hK, hS0, hI, hA, hN, hX, hE⟩, rfl⟩ := hG
  intro H locs ls hP hS hl
  exact lv_iand hx hb hd  (k H locs ls hP hS hl)
theorem gg_ior (hG : gg_Cl X cc nL own rt h E G) {x y : Int32} (hd : decode cc pc = .ok (.ior, 1))  (k : G (pc + 1) L (.int (x ||| y) :: st) u) : G pc L (.int y :: .int x :: st) u := by
  obtain ⟨p, l, e, R, s, m, args, below, meth, c, D, ca, ad, A, cells, slots, Q, ⟨hx, hb, hml, hown, hts, hR, hK, hS0, hI, hA, hN, hX, hE⟩, rfl⟩ := hG
  intro H locs ls hP hS hl
  exact lv_ior hx hb hd  (k H locs ls hP hS hl)
theorem gg_ishl (hG : gg_Cl X cc nL own rt h E G) {x y : Int32} (hd : decode cc pc = .ok (.ishl, 1))  (k : G (pc + 1) L (.int (x <<< (y &&& 31)) :: st) u) : G pc L (.int y :: .int x :: st) u := by
  obtain ⟨p, l, e, R, s, m, args, below, meth, c, D, ca, ad, A, cells, slots, Q, ⟨hx, hb, hml, hown, hts, hR, hK, hS0, hI, hA, hN, hX, hE⟩, rfl⟩ := hG
  intro H locs ls hP hS hl
  exact lv_ishl hx hb hd  (k H locs ls hP hS hl)
theorem gg_ishr (hG : gg_Cl X cc nL own rt h E G) {x y : Int32} (hd : decode cc pc = .ok (.ishr, 1))  (k : G (pc + 1) L (.int (x >>> (y &&& 31)) :: st) u) : G pc L (.int y :: .int x :: st) u := by
  obtain ⟨p, l, e, R, s, m, args, below, meth, c, D, ca, ad, A, cells, slots, Q, ⟨hx, hb, hml, hown, hts, hR, hK, hS0, hI, hA, hN, hX, hE⟩, rfl⟩ := hG
  intro H locs ls hP hS hl
  exact lv_ishr hx hb hd  (k H locs ls hP hS hl)
theorem gg_idiv (hG : gg_Cl X cc nL own rt h E G) {x y : Int32} (hd : decode cc pc = .ok (.idiv, 1)) (hne : ¬ y = 0) (k : G (pc + 1) L (.int (x / y) :: st) u) : G pc L (.int y :: .int x :: st) u := by
  obtain ⟨p, l, e, R, s, m, args, below, meth, c, D, ca, ad, A, cells, slots, Q, ⟨hx, hb, hml, hown, hts, hR, hK, hS0, hI, hA, hN, hX, hE⟩, rfl⟩ := hG
  intro H locs ls hP hS hl
  exact lv_idiv hx hb hd hne (k H locs ls hP hS hl)
theorem gg_irem (hG : gg_Cl X cc nL own rt h E G) {x y : Int32} (hd : decode cc pc = .ok (.irem, 1)) (hne : ¬ y = 0) (k : G (pc + 1) L (.int (x - x / y * y) :: st) u) : G pc L (.int y :: .int x :: st) u := by
  obtain ⟨p, l, e, R, s, m, args, below, meth, c, D, ca, ad, A, cells, slots, Q, ⟨hx, hb, hml, hown, hts, hR, hK, hS0, hI, hA, hN, hX, hE⟩, rfl⟩ := hG
  intro H locs ls hP hS hl
  exact lv_irem hx hb hd hne (k H locs ls hP hS hl)
theorem gg_ineg (hG : gg_Cl X cc nL own rt h E G) {x : Int32} (hd : decode cc pc = .ok (.ineg, 1))  (k : G (pc + 1) L (.int (-x) :: st) u) : G pc L (.int x :: st) u := by
  obtain ⟨p, l, e, R, s, m, args, below, meth, c, D, ca, ad, A, cells, slots, Q, ⟨hx, hb, hml, hown, hts, hR, hK, hS0, hI, hA, hN, hX, hE⟩, rfl⟩ := hG
  intro H locs ls hP hS hl
  exact lv_ineg hx hb hd  (k H locs ls hP hS hl)
theorem gg_iushr (hG : gg_Cl X cc nL own rt h E G) {x y : Int32} (hd : decode cc pc = .ok (.iushr, 1))  (k : G (pc + 1) L (.int (x.toUInt32 >>> (y.toUInt32 &&& Int32.toUInt32 31)).toInt32 :: st) u) : G pc L (.int y :: .int x :: st) u := by
  obtain ⟨p, l, e, R, s, m, args, below, meth, c, D, ca, ad, A, cells, slots, Q, ⟨hx, hb, hml, hown, hts, hR, hK, hS0, hI, hA, hN, hX, hE⟩, rfl⟩ := hG
  intro H locs ls hP hS hl
  exact lv_iushr hx hb hd rfl (k H locs ls hP hS hl)
theorem gg_ladd (hG : gg_Cl X cc nL own rt h E G) {x y : Int64} (hd : decode cc pc = .ok (.ladd, 1))  (k : G (pc + 1) L (.long (x + y) :: st) u) : G pc L (.long y :: .long x :: st) u := by
  obtain ⟨p, l, e, R, s, m, args, below, meth, c, D, ca, ad, A, cells, slots, Q, ⟨hx, hb, hml, hown, hts, hR, hK, hS0, hI, hA, hN, hX, hE⟩, rfl⟩ := hG
  intro H locs ls hP hS hl
  exact lv_ladd hx hb hd  (k H locs ls hP hS hl)
theorem gg_lsub (hG : gg_Cl X cc nL own rt h E G) {x y : Int64} (hd : decode cc pc = .ok (.lsub, 1))  (k : G (pc + 1) L (.long (x - y) :: st) u) : G pc L (.long y :: .long x :: st) u := by
  obtain ⟨p, l, e, R, s, m, args, below, meth, c, D, ca, ad, A, cells, slots, Q, ⟨hx, hb, hml, hown, hts, hR, hK, hS0, hI, hA, hN, hX, hE⟩, rfl⟩ := hG
  intro H locs ls hP hS hl
  exact lv_lsub hx hb hd  (k H locs ls hP hS hl)
theorem gg_lmul (hG : gg_Cl X cc nL own rt h E G) {x y : Int64} (hd : decode cc pc = .ok (.lmul, 1))  (k : G (pc + 1) L (.long (x * y) :: st) u) : G pc L (.long y :: .long x :: st) u := by
  obtain ⟨p, l, e, R, s, m, args, below, meth, c, D, ca, ad, A, cells, slots, Q, ⟨hx, hb, hml, hown, hts, hR, hK, hS0, hI, hA, hN, hX, hE⟩, rfl⟩ := hG
  intro H locs ls hP hS hl
  exact lv_lmul hx hb hd  (k H locs ls hP hS hl)
theorem gg_lor (hG : gg_Cl X cc nL own rt h E G) {x y : Int64} (hd : decode cc pc = .ok (.lor, 1))  (k : G (pc + 1) L (.long (x ||| y) :: st) u) : G pc L (.long y :: .long x :: st) u := by
  obtain ⟨p, l, e, R, s, m, args, below, meth, c, D, ca, ad, A, cells, slots, Q, ⟨hx, hb, hml, hown, hts, hR, hK, hS0, hI, hA, hN, hX, hE⟩, rfl⟩ := hG
  intro H locs ls hP hS hl
  exact lv_lor hx hb hd  (k H locs ls hP hS hl)
theorem gg_ldiv (hG : gg_Cl X cc nL own rt h E G) {x y : Int64} (hd : decode cc pc = .ok (.ldiv, 1)) (hne : ¬ y = 0) (k : G (pc + 1) L (.long (x / y) :: st) u) : G pc L (.long y :: .long x :: st) u := by
  obtain ⟨p, l, e, R, s, m, args, below, meth, c, D, ca, ad, A, cells, slots, Q, ⟨hx, hb, hml, hown, hts, hR, hK, hS0, hI, hA, hN, hX, hE⟩, rfl⟩ := hG
  intro H locs ls hP hS hl
  exact lv_ldiv hx hb hd hne (k H locs ls hP hS hl)
theorem gg_lrem (hG : gg_Cl X cc nL own rt h E G) {x y : Int64} (hd : decode cc pc = .ok (.lrem, 1)) (hne : ¬ y = 0) (k : G (pc + 1) L (.long (x - x / y * y) :: st) u) : G pc L (.long y :: .long x :: st) u := by
  obtain ⟨p, l, e, R, s, m, args, below, meth, c, D, ca, ad, A, cells, slots, Q, ⟨hx, hb, hml, hown, hts, hR, hK, hS0, hI, hA, hN, hX, hE⟩, rfl⟩ := hG
  intro H locs ls hP hS hl
  exact lv_lrem hx hb hd hne (k H locs ls hP hS hl)
theorem gg_lshl (hG : gg_Cl X cc nL own rt h E G) {x : Int64} {y : Int32} (hd : decode cc pc = .ok (.lshl, 1))  (k : G (pc + 1) L (.long (x <<< (y.toInt64 &&& 63)) :: st) u) : G pc L (.int y :: .long x :: st) u := by
  obtain ⟨p, l, e, R, s, m, args, below, meth, c, D, ca, ad, A, cells, slots, Q, ⟨hx, hb, hml, hown, hts, hR, hK, hS0, hI, hA, hN, hX, hE⟩, rfl⟩ := hG
  intro H locs ls hP hS hl
  exact lv_lshl hx hb hd rfl (k H locs ls hP hS hl)
theorem gg_lushr (hG : gg_Cl X cc nL own rt h E G) {x : Int64} {y : Int32} (hd : decode cc pc = .ok (.lushr, 1))  (k : G (pc + 1) L (.long (x.toUInt64 >>> (y.toInt64.toUInt64 &&& Int64.toUInt64 63)).toInt64 :: st) u) : G pc L (.int y :: .long x :: st) u := by
  obtain ⟨p, l, e, R, s, m, args, below, meth, c, D, ca, ad, A, cells, slots, Q, ⟨hx, hb, hml, hown, hts, hR, hK, hS0, hI, hA, hN, hX, hE⟩, rfl⟩ := hG
  intro H locs ls hP hS hl
  exact lv_lushr hx hb hd rfl (k H locs ls hP hS hl)
theorem gg_lcmp (hG : gg_Cl X cc nL own rt h E G) {x y : Int64} (hd : decode cc pc = .ok (.lcmp, 1))  (k : G (pc + 1) L (.int (lg_cmp x y) :: st) u) : G pc L (.long y :: .long x :: st) u := by
  obtain ⟨p, l, e, R, s, m, args, below, meth, c, D, ca, ad, A, cells, slots, Q, ⟨hx, hb, hml, hown, hts, hR, hK, hS0, hI, hA, hN, hX, hE⟩, rfl⟩ := hG
  intro H locs ls hP hS hl
  exact W.lcmp hx hb hd  (k H locs ls hP hS hl)
theorem gg_i2l (hG : gg_Cl X cc nL own rt h E G) {x : Int32} (hd : decode cc pc = .ok (.i2l, 1))  (k : G (pc + 1) L (.long x.toInt64 :: st) u) : G pc L (.int x :: st) u := by
  obtain ⟨p, l, e, R, s, m, args, below, meth, c, D, ca, ad, A, cells, slots, Q, ⟨hx, hb, hml, hown, hts, hR, hK, hS0, hI, hA, hN, hX, hE⟩, rfl⟩ := hG
  intro H locs ls hP hS hl
  exact lv_i2l hx hb hd rfl (k H locs ls hP hS hl)
theorem gg_l2i (hG : gg_Cl X cc nL own rt h E G) {x : Int64} (hd : decode cc pc = .ok (.l2i, 1))  (k : G (pc + 1) L (.int x.toInt32 :: st) u) : G pc L (.long x :: st) u := by
  obtain ⟨p, l, e, R, s, m, args, below, meth, c, D, ca, ad, A, cells, slots, Q, ⟨hx, hb, hml, hown, hts, hR, hK, hS0, hI, hA, hN, hX, hE⟩, rfl⟩ := hG
  intro H locs ls hP hS hl
  exact lv_l2i hx hb hd rfl (k H locs ls hP hS hl)
theorem gg_i2b (hG : gg_Cl X cc nL own rt h E G) {x : Int32} (hd : decode cc pc = .ok (.i2b, 1))  (k : G (pc + 1) L (.int x.toInt8.toInt32 :: st) u) : G pc L (.int x :: st) u := by
  obtain ⟨p, l, e, R, s, m, args, below, meth, c, D, ca, ad, A, cells, slots, Q, ⟨hx, hb, hml, hown, hts, hR, hK, hS0, hI, hA, hN, hX, hE⟩, rfl⟩ := hG
  intro H locs ls hP hS hl
  exact lv_i2b hx hb hd rfl (k H locs ls hP hS hl)
theorem gg_i2s (hG : gg_Cl X cc nL own rt h E G) {x : Int32} (hd : decode cc pc = .ok (.i2s, 1))  (k : G (pc + 1) L (.int x.toInt16.toInt32 :: st) u) : G pc L (.int x :: st) u := by
  obtain ⟨p, l, e, R, s, m, args, below, meth, c, D, ca, ad, A, cells, slots, Q, ⟨hx, hb, hml, hown, hts, hR, hK, hS0, hI, hA, hN, hX, hE⟩, rfl⟩ := hG
  intro H locs ls hP hS hl
  exact lv_i2s hx hb hd rfl (k H locs ls hP hS hl)
theorem gg_dup (hG : gg_Cl X cc nL own rt h E G) {v : Value} (hd : decode cc pc = .ok (.dup, 1)) (hv : v.category = 1) (k : G (pc + 1) L (v :: v :: st) u) : G pc L (v :: st) u := by
  obtain ⟨p, l, e, R, s, m, args, below, meth, c, D, ca, ad, A, cells, slots, Q, ⟨hx, hb, hml, hown, hts, hR, hK, hS0, hI, hA, hN, hX, hE⟩, rfl⟩ := hG
  intro H locs ls hP hS hl
  exact lv_dup hx hb hd ((gg_cat ad v).trans hv) (k H locs ls hP hS hl)
theorem gg_dup2 (hG : gg_Cl X cc nL own rt h E G) {v w : Value} (hd : decode cc pc = .ok (.dup2, 1)) (hv : v.category = 1) (hw : w.category = 1) (k : G (pc + 1) L (v :: w :: v :: w :: st) u) : G pc L (v :: w :: st) u := by
  obtain ⟨p, l, e, R, s, m, args, below, meth, c, D, ca, ad, A, cells, slots, Q, ⟨hx, hb, hml, hown, hts, hR, hK, hS0, hI, hA, hN, hX, hE⟩, rfl⟩ := hG
  intro H locs ls hP hS hl
  exact lv_dup2_11 hx hb hd ((gg_cat ad v).trans hv) ((gg_cat ad w).trans hw) (k H locs ls hP hS hl)
theorem gg_if_eq (hG : gg_Cl X cc nL own rt h E G) {x : Int32} {off : Int} {tgt : Nat} (hd : decode cc pc = .ok (.ifCond .eq off, 3)) (ht : (pc : Int) + off = (tgt : Int)) (kt : x = 0 → G tgt L st u) (kf : ¬ x = 0 → G (pc + 3) L st u) : G pc L (.int x :: st) u := by
  obtain ⟨p, l, e, R, s, m, args, below, meth, c, D, ca, ad, A, cells, slots, Q, ⟨hx, hb, hml, hown, hts, hR, hK, hS0, hI, hA, hN, hX, hE⟩, rfl⟩ := hG
  intro H locs ls hP hS hl
  exact lv_if_eq hx hb hd ht (fun q => kt q H locs ls hP hS hl) (fun q => kf q H locs ls hP hS hl)
theorem gg_ic_eq (hG : gg_Cl X cc nL own rt h E G) {x y : Int32} {off : Int} {tgt : Nat} (hd : decode cc pc = .ok (.if_icmp .eq off, 3)) (ht : (pc : Int) + off = (tgt : Int)) (kt : x = y → G tgt L st u) (kf : ¬ x = y → G (pc + 3) L st u) : G pc L (.int y :: .int x :: st) u := by
  obtain ⟨p, l, e, R, s, m, args, below, meth, c, D, ca, ad, A, cells, slots, Q, ⟨hx, hb, hml, hown, hts, hR, hK, hS0, hI, hA, hN, hX, hE⟩, rfl⟩ := hG
  intro H locs ls hP hS hl
  exact lv_icmp_eq hx hb hd ht (fun q => kt q H locs ls hP hS hl) (fun q => kf q H locs ls hP hS hl)
theorem gg_if_ne (hG : gg_Cl X cc nL own rt h E G) {x : Int32} {off : Int} {tgt : Nat} (hd : decode cc pc = .ok (.ifCond .ne off, 3)) (ht : (pc : Int) + off = (tgt : Int)) (kt : ¬ x = 0 → G tgt L st u) (kf : x = 0 → G (pc + 3) L st u) : G pc L (.int x :: st) u := by
  obtain ⟨p, l, e, R, s, m, args, below, meth, c, D, ca, ad, A, cells, slots, Q, ⟨hx, hb, hml, hown, hts, hR, hK, hS0, hI, hA, hN, hX, hE⟩, rfl⟩ := hG
  intro H locs ls hP hS hl
  exact lv_if_ne hx hb hd ht (fun q => kt q H locs ls hP hS hl) (fun q => kf q H locs ls hP hS hl)
theorem gg_ic_ne (hG : gg_Cl X cc nL own rt h E G) {x y : Int32} {off : Int} {tgt : Nat} (hd : decode cc pc = .ok (.if_icmp .ne off, 3)) (ht : (pc : Int) + off = (tgt : Int)) (kt : ¬ x = y → G tgt L st u) (kf : x = y → G (pc + 3) L st u) : G pc L (.int y :: .int x :: st) u := by
  obtain ⟨p, l, e, R, s, m, args, below, meth, c, D, ca, ad, A, cells, slots, Q, ⟨hx, hb, hml, hown, hts, hR, hK, hS0, hI, hA, hN, hX, hE⟩, rfl⟩ := hG
  intro H locs ls hP hS hl
  exact lv_icmp_ne hx hb hd ht (fun q => kt q H locs ls hP hS hl) (fun q => kf q H locs ls hP hS hl)
theorem gg_if_lt (hG : gg_Cl X cc nL own rt h E G) {x : Int32} {off : Int} {tgt : Nat} (hd : decode cc pc = .ok (.ifCond .lt off, 3)) (ht : (pc : Int) + off = (tgt : Int)) (kt : x < 0 → G tgt L st u) (kf : ¬ x < 0 → G (pc + 3) L st u) : G pc L (.int x :: st) u := by
  obtain ⟨p, l, e, R, s, m, args, below, meth, c, D, ca, ad, A, cells, slots, Q, ⟨hx, hb, hml, hown, hts, hR, hK, hS0, hI, hA, hN, hX, hE⟩, rfl⟩ := hG
  intro H locs ls hP hS hl
  exact lv_if_lt hx hb hd ht (fun q => kt q H locs ls hP hS hl) (fun q => kf q H locs ls hP hS hl)
theorem gg_ic_lt (hG : gg_Cl X cc nL own rt h E G) {x y : Int32} {off : Int} {tgt : Nat} (hd : decode cc pc = .ok (.if_icmp .lt off, 3)) (ht : (pc : Int) + off = (tgt : Int)) (kt : x < y → G tgt L st u) (kf : ¬ x < y → G (pc + 3) L st u) : G pc L (.int y :: .int x :: st) u := by
  obtain ⟨p, l, e, R, s, m, args, below, meth, c, D, ca, ad, A, cells, slots, Q, ⟨hx, hb, hml, hown, hts, hR, hK, hS0, hI, hA, hN, hX, hE⟩, rfl⟩ := hG
  intro H locs ls hP hS hl
  exact lv_icmp_lt hx hb hd ht (fun q => kt q H locs ls hP hS hl) (fun q => kf q H locs ls hP hS hl)
theorem gg_if_ge (hG : gg_Cl X cc nL own rt h E G) {x : Int32} {off : Int} {tgt : Nat} (hd : decode cc pc = .ok (.ifCond .ge off, 3)) (ht : (pc : Int) + off = (tgt : Int)) (kt : 0 ≤ x → G tgt L st u) (kf : ¬ 0 ≤ x → G (pc + 3) L st u) : G pc L (.int x :: st) u := by
  obtain ⟨p, l, e, R, s, m, args, below, meth, c, D, ca, ad, A, cells, slots, Q, ⟨hx, hb, hml, hown, hts, hR, hK, hS0, hI, hA, hN, hX, hE⟩, rfl⟩ := hG
  intro H locs ls hP hS hl
  exact lv_if_ge hx hb hd ht (fun q => kt q H locs ls hP hS hl) (fun q => kf q H locs ls hP hS hl)
theorem gg_ic_ge (hG : gg_Cl X cc nL own rt h E G) {x y : Int32} {off : Int} {tgt : Nat} (hd : decode cc pc = .ok (.if_icmp .ge off, 3)) (ht : (pc : Int) + off = (tgt : Int)) (kt : y ≤ x → G tgt L st u) (kf : ¬ y ≤ x → G (pc + 3) L st u) : G pc L (.int y :: .int x :: st) u := by
  obtain ⟨p, l, e, R, s, m, args, below, meth, c, D, ca, ad, A, cells, slots, Q, ⟨hx, hb, hml, hown, hts, hR, hK, hS0, hI, hA, hN, hX, hE⟩, rfl⟩ := hG
  intro H locs ls hP hS hl
  exact lv_icmp_ge hx hb hd ht (fun q => kt q H locs ls hP hS hl) (fun q => kf q H locs ls hP hS hl)
theorem gg_if_gt (hG : gg_Cl X cc nL own rt h E G) {x : Int32} {off : Int} {tgt : Nat} (hd : decode cc pc = .ok (.ifCond .gt off, 3)) (ht : (pc : Int) + off = (tgt : Int)) (kt : 0 < x → G tgt L st u) (kf : ¬ 0 < x → G (pc + 3) L st u) : G pc L (.int x :: st) u := by
  obtain ⟨p, l, e, R, s, m, args, below, meth, c, D, ca, ad, A, cells, slots, Q, ⟨hx, hb, hml, hown, hts, hR, hK, hS0, hI, hA, hN, hX, hE⟩, rfl⟩ := hG
  intro H locs ls hP hS hl
  exact lv_if_gt hx hb hd ht (fun q => kt q H locs ls hP hS hl) (fun q => kf q H locs ls hP hS hl)
theorem gg_ic_gt (hG : gg_Cl X cc nL own rt h E G) {x y : Int32} {off : Int} {tgt : Nat} (hd : decode cc pc = .ok (.if_icmp .gt off, 3)) (ht : (pc : Int) + off = (tgt : Int)) (kt : y < x → G tgt L st u) (kf : ¬ y < x → G (pc + 3) L st u) : G pc L (.int y :: .int x :: st) u := by
  obtain ⟨p, l, e, R, s, m, args, below, meth, c, D, ca, ad, A, cells, slots, Q, ⟨hx, hb, hml, hown, hts, hR, hK, hS0, hI, hA, hN, hX, hE⟩, rfl⟩ := hG
  intro H locs ls hP hS hl
  exact lv_icmp_gt hx hb hd ht (fun q => kt q H locs ls hP hS hl) (fun q => kf q H locs ls hP hS hl)
theorem gg_if_le (hG : gg_Cl X cc nL own rt h E G) {x : Int32} {off : Int} {tgt : Nat} (hd : decode cc pc = .ok (.ifCond .le off, 3)) (ht : (pc : Int) + off = (tgt : Int)) (kt : x ≤ 0 → G tgt L st u) (kf : ¬ x ≤ 0 → G (pc + 3) L st u) : G pc L (.int x :: st) u := by
  obtain ⟨p, l, e, R, s, m, args, below, meth, c, D, ca, ad, A, cells, slots, Q, ⟨hx, hb, hml, hown, hts, hR, hK, hS0, hI, hA, hN, hX, hE⟩, rfl⟩ := hG
  intro H locs ls hP hS hl
  exact lv_if_le hx hb hd ht (fun q => kt q H locs ls hP hS hl) (fun q => kf q H locs ls hP hS hl)
theorem gg_ic_le (hG : gg_Cl X cc nL own rt h E G) {x y : Int32} {off : Int} {tgt : Nat} (hd : decode cc pc = .ok (.if_icmp .le off, 3)) (ht : (pc : Int) + off = (tgt : Int)) (kt : x ≤ y → G tgt L st u) (kf : ¬ x ≤ y → G (pc + 3) L st u) : G pc L (.int y :: .int x :: st) u := by
  obtain ⟨p, l, e, R, s, m, args, below, meth, c, D, ca, ad, A, cells, slots, Q, ⟨hx, hb, hml, hown, hts, hR, hK, hS0, hI, hA, hN, hX, hE⟩, rfl⟩ := hG
  intro H locs ls hP hS hl
  exact lv_icmp_le hx hb hd ht (fun q => kt q H locs ls hP hS hl) (fun q => kf q H locs ls hP hS hl)
theorem gg_goto (hG : gg_Cl X cc nL own rt h E G) {off : Int} {tgt : Nat} (hd : decode cc pc = .ok (.goto off, 3)) (ht : (pc : Int) + off = (tgt : Int)) (k : G tgt L st u) : G pc L st u := by
  obtain ⟨p, l, e, R, s, m, args, below, meth, c, D, ca, ad, A, cells, slots, Q, ⟨hx, hb, hml, hown, hts, hR, hK, hS0, hI, hA, hN, hX, hE⟩, rfl⟩ := hG
  intro H locs ls hP hS hl
  exact lv_goto hx hb hd ht (k H locs ls hP hS hl)
theorem gg_tabOut (hG : gg_Cl X cc nL own rt h E G) {dflt lo hi : Int} {offs : Array Int} {len : Nat} {x : Int32} {tgt : Nat} (hd : decode cc pc = .ok (.tableswitch dflt lo hi offs, len)) (hq : x.toInt < lo ∨ hi < x.toInt) (ht : (pc : Int) + dflt = (tgt : Int)) (k : G tgt L st u) : G pc L (.int x :: st) u := by
  obtain ⟨p, l, e, R, s, m, args, below, meth, c, D, ca, ad, A, cells, slots, Q, ⟨hx, hb, hml, hown, hts, hR, hK, hS0, hI, hA, hN, hX, hE⟩, rfl⟩ := hG
  intro H locs ls hP hS hl
  exact lv_tableOut hx hb hd hq ht (k H locs ls hP hS hl)
theorem gg_tabIn (hG : gg_Cl X cc nL own rt h E G) {dflt lo hi : Int} {offs : Array Int} {len : Nat} {x : Int32} {off : Int} {tgt : Nat} (hd : decode cc pc = .ok (.tableswitch dflt lo hi offs, len)) (h1 : ¬ x.toInt < lo) (h2 : ¬ hi < x.toInt) (ho : offs[(x.toInt - lo).toNat]? = some off) (ht : (pc : Int) + off = (tgt : Int)) (k : G tgt L st u) : G pc L (.int x :: st) u := by
  obtain ⟨p, l, e, R, s, m, args, below, meth, c, D, ca, ad, A, cells, slots, Q, ⟨hx, hb, hml, hown, hts, hR, hK, hS0, hI, hA, hN, hX, hE⟩, rfl⟩ := hG
  intro H locs ls hP hS hl
  exact lv_tableIn hx hb hd h1 h2 ho ht (k H locs ls hP hS hl)
theorem gg_ni {x : Int32} (k : ∀ y : Int32, y = x → G pc L (.int y :: st) u) : G pc L (.int x :: st) u := k x rfl
theorem gg_nl {x : Int64} (k : ∀ y : Int64, y = x → G pc L (.long y :: st) u) : G pc L (.long x :: st) u := k x rfl
theorem gg_nu (k : ∀ v : gg_M, v = u → G pc L st v) : G pc L st u := k u rfl
theorem gg_get (hG : gg_Cl X cc nL own rt h E G) {t c0 j idx : Nat} {v : Value} (hd : decode cc pc = .ok (.getfield idx, 3)) (ht : t < 65) (hk : gg_kd t = c0) (hf : gg_FL own idx c0 j) (hv : gg_fv u t j = v) (k : G (pc + 3) L (v :: st) u) : G pc L (.ref t :: st) u := by
  obtain ⟨p, l, e, R, s, m, args, below, meth, c, D, ca, ad, A, cells, slots, Q, ⟨hx, hb, hml, hown, hts, hR, hK, hS0, hI, hA, hN, hX, hE⟩, rfl⟩ := hG
  intro H locs ls hP hS hl
  obtain ⟨q, hq, hj, hw⟩ := hf
  obtain ⟨hc0, hn, hin, hty, hnm⟩ := gg_clsF hq
  subst hk
  exact va_get hx hb (C := q.1) (T := q.2.1) (N := q.2.2) hts hin hown hK.v0 hP t (by rw [gg_ws_at ht, gg_ce_o rfl hc0]) hq j hj (hts _ hw) (fun _ z => z) (by rw [gg_fs_at (hn ▸ hj), hv]) hd (k H locs ls hP hS hl)
theorem gg_putI (hG : gg_Cl X cc nL own rt h E G) {t c0 j idx : Nat} {x : Int32} (hd : decode cc pc = .ok (.putfield idx, 3)) (ht : t < 65) (hk : gg_kd t = c0) (hf : gg_FP own idx c0 j) (hfk : gg_fk c0 j = 0) (hn1 : narrow (gg_ft c0 j) (.int x) = .int x) (hft : fits (gg_ft c0 j) (.int x) = true) (k : G (pc + 3) L st (gg_wI u t j x)) : G pc L (.int x :: .ref t :: st) u := by
  obtain ⟨p, l, e, R, s, m, args, below, meth, c, D, ca, ad, A, cells, slots, Q, ⟨hx, hb, hml, hown, hts, hR, hK, hS0, hI, hA, hN, hX, hE⟩, rfl⟩ := hG
  intro H locs ls hP hS hl
  obtain ⟨q, hq, hj, hw, hfin⟩ := hf
  obtain ⟨hc0, hn, hin, hty, hnm⟩ := gg_clsF hq
  subst hk
  have hj2 : j < gg_nf (gg_kd t) := hn ▸ hj
  refine va_put hx hb (C := q.1) (T := q.2.1) (N := q.2.2) hts hin (gg_ft (gg_kd t)) hty hnm hown hK.v0 hP (gg_va_D hI hA) hS t (by rw [gg_ws_at ht, gg_ce_o rfl hc0]) hq j hj (hts _ hw) (fun _ z => z) hfin (hty j hj) hn1 hft (by rw [gg_fs_len]; exact hj2) hd (fun H1 locs1 hP1 _ hS1 => ?_)
  rw [gg_ws_set ht (u' := gg_wI u t j x) (by rw [gg_ce_o rfl hc0, ← gg_fs_set (v := .int x) hj2 (by rw [gg_fv_wI hfk]; rfl) (fun a ha => gg_fv_wIn ha)]; rfl) (fun a ha => gg_ce_wA a ha)] at hP1
  exact k H1 locs1 ls hP1 hS1 hl
theorem gg_putL (hG : gg_Cl X cc nL own rt h E G) {t c0 j idx : Nat} {x : Int64} (hd : decode cc pc = .ok (.putfield idx, 3)) (ht : t < 65) (hk : gg_kd t = c0) (hf : gg_FP own idx c0 j) (hfk : gg_fk c0 j = 1) (hn1 : narrow (gg_ft c0 j) (.long x) = .long x) (hft : fits (gg_ft c0 j) (.long x) = true) (k : G (pc + 3) L st (gg_wL u t j x)) : G pc L (.long x :: .ref t :: st) u := by
  obtain ⟨p, l, e, R, s, m, args, below, meth, c, D, ca, ad, A, cells, slots, Q, ⟨hx, hb, hml, hown, hts, hR, hK, hS0, hI, hA, hN, hX, hE⟩, rfl⟩ := hG
  intro H locs ls hP hS hl
  obtain ⟨q, hq, hj, hw, hfin⟩ := hf
  obtain ⟨hc0, hn, hin, hty, hnm⟩ := gg_clsF hq
  subst hk
  have hj2 : j < gg_nf (gg_kd t) := hn ▸ hj
  refine va_put hx hb (C := q.1) (T := q.2.1) (N := q.2.2) hts hin (gg_ft (gg_kd t)) hty hnm hown hK.v0 hP (gg_va_D hI hA) hS t (by rw [gg_ws_at ht, gg_ce_o rfl hc0]) hq j hj (hts _ hw) (fun _ z => z) hfin (hty j hj) hn1 hft (by rw [gg_fs_len]; exact hj2) hd (fun H1 locs1 hP1 _ hS1 => ?_)
  rw [gg_ws_set ht (u' := gg_wL u t j x) (by rw [gg_ce_o rfl hc0, ← gg_fs_set (v := .long x) hj2 (by rw [gg_fv_wL hfk]; rfl) (fun a ha => gg_fv_wLn ha)]; rfl) (fun a ha => gg_ce_wB a ha)] at hP1
  exact k H1 locs1 ls hP1 hS1 hl
theorem gg_iald (hG : gg_Cl X cc nL own rt h E G) {t : Nat} {i : Int32} (hd : decode cc pc = .ok (.iaload, 1)) (ht : t < 65) (hk : gg_kd t = 20) (hi : vp_in i (gg_al t)) (k : G (pc + 1) L (.int (u.1 t i.toNatClampNeg) :: st) u) : G pc L (.int i :: .ref t :: st) u := by
  obtain ⟨p, l, e, R, s, m, args, below, meth, c, D, ca, ad, A, cells, slots, Q, ⟨hx, hb, hml, hown, hts, hR, hK, hS0, hI, hA, hN, hX, hE⟩, rfl⟩ := hG
  intro H locs ls hP hS hl
  have hKt := hK.va ht (by omega)
  rw [hk] at hKt
  exact va_iald hx hb hKt hP t 0 (by rw [gg_ws_at ht, gg_ce_i (Or.inl hk)]) rfl hi hd (k H locs ls hP hS hl)
theorem gg_zald (hG : gg_Cl X cc nL own rt h E G) {t : Nat} {i : Int32} (hd : decode cc pc = .ok (.baload, 1)) (ht : t < 65) (hk : gg_kd t = 22) (hi : vp_in i (gg_al t)) (k : G (pc + 1) L (.int (u.1 t i.toNatClampNeg) :: st) u) : G pc L (.int i :: .ref t :: st) u := by
  obtain ⟨p, l, e, R, s, m, args, below, meth, c, D, ca, ad, A, cells, slots, Q, ⟨hx, hb, hml, hown, hts, hR, hK, hS0, hI, hA, hN, hX, hE⟩, rfl⟩ := hG
  intro H locs ls hP hS hl
  have hKt := hK.va ht (by omega)
  rw [hk] at hKt
  exact va_zald hx hb hKt hP t 0 (by rw [gg_ws_at ht, gg_ce_i (Or.inr hk)]) rfl hi hd (k H locs ls hP hS hl)
theorem gg_lald (hG : gg_Cl X cc nL own rt h E G) {t : Nat} {i : Int32} (hd : decode cc pc = .ok (.laload, 1)) (ht : t < 65) (hk : gg_kd t = 21) (hi : vp_in i (gg_al t)) (k : G (pc + 1) L (.long (u.2 t i.toNatClampNeg) :: st) u) : G pc L (.int i :: .ref t :: st) u := by
  obtain ⟨p, l, e, R, s, m, args, below, meth, c, D, ca, ad, A, cells, slots, Q, ⟨hx, hb, hml, hown, hts, hR, hK, hS0, hI, hA, hN, hX, hE⟩, rfl⟩ := hG
  intro H locs ls hP hS hl
  have hKt := hK.va ht (by omega)
  rw [hk] at hKt
  exact va_lald hx hb hKt hP t 0 (by rw [gg_ws_at ht, gg_ce_l hk]) rfl hi hd (k H locs ls hP hS hl)
theorem gg_iast (hG : gg_Cl X cc nL own rt h E G) {t : Nat} {i x : Int32} (hd : decode cc pc = .ok (.iastore, 1)) (ht : t < 65) (hk : gg_kd t = 20) (hi : vp_in i (gg_al t)) (k : G (pc + 1) L st (gg_wI u t i.toNatClampNeg x)) : G pc L (.int x :: .int i :: .ref t :: st) u := by
  obtain ⟨p, l, e, R, s, m, args, below, meth, c, D, ca, ad, A, cells, slots, Q, ⟨hx, hb, hml, hown, hts, hR, hK, hS0, hI, hA, hN, hX, hE⟩, rfl⟩ := hG
  intro H locs ls hP hS hl
  have hKt := hK.va ht (by omega)
  rw [hk] at hKt
  refine va_iast hx hb hKt hP (gg_va_D hI hA) hS t 0 (by rw [gg_ws_at ht, gg_ce_i (Or.inl hk)]) rfl hi hd (fun H1 locs1 hP1 _ hS1 => ?_)
  rw [gg_ws_set ht (u' := gg_wI u t i.toNatClampNeg x) (by rw [gg_ce_i (Or.inl hk)]; exact congrArg (fun f => Sum.inl (ca t, gg_al t, Sum.inl f)) (gg_wA_1 u t _)) (fun a ha => gg_ce_wA a ha)] at hP1
  exact k H1 locs1 ls hP1 hS1 hl
theorem gg_zast (hG : gg_Cl X cc nL own rt h E G) {t : Nat} {i x : Int32} (hd : decode cc pc = .ok (.bastore, 1)) (ht : t < 65) (hk : gg_kd t = 22) (hi : vp_in i (gg_al t)) (k : G (pc + 1) L st (gg_wI u t i.toNatClampNeg (vp_nar .boolean x))) : G pc L (.int x :: .int i :: .ref t :: st) u := by
  obtain ⟨p, l, e, R, s, m, args, below, meth, c, D, ca, ad, A, cells, slots, Q, ⟨hx, hb, hml, hown, hts, hR, hK, hS0, hI, hA, hN, hX, hE⟩, rfl⟩ := hG
  intro H locs ls hP hS hl
  have hKt := hK.va ht (by omega)
  rw [hk] at hKt
  refine va_zast hx hb hKt hP (gg_va_D hI hA) hS t 0 (by rw [gg_ws_at ht, gg_ce_i (Or.inr hk)]) rfl hi hd (fun H1 locs1 hP1 _ hS1 => ?_)
  rw [gg_ws_set ht (u' := gg_wI u t i.toNatClampNeg (vp_nar .boolean x)) (by rw [gg_ce_i (Or.inr hk)]; exact congrArg (fun f => Sum.inl (ca t, gg_al t, Sum.inl f)) (gg_wA_1 u t _)) (fun a ha => gg_ce_wA a ha)] at hP1
  exact k H1 locs1 ls hP1 hS1 hl
theorem gg_last (hG : gg_Cl X cc nL own rt h E G) {t : Nat} {i : Int32} {x : Int64} (hd : decode cc pc = .ok (.lastore, 1)) (ht : t < 65) (hk : gg_kd t = 21) (hi : vp_in i (gg_al t)) (k : G (pc + 1) L st (gg_wL u t i.toNatClampNeg x)) : G pc L (.long x :: .int i :: .ref t :: st) u := by
  obtain ⟨p, l, e, R, s, m, args, below, meth, c, D, ca, ad, A, cells, slots, Q, ⟨hx, hb, hml, hown, hts, hR, hK, hS0, hI, hA, hN, hX, hE⟩, rfl⟩ := hG
  intro H locs ls hP hS hl
  have hKt := hK.va ht (by omega)
  rw [hk] at hKt
  refine va_last hx hb hKt hP (gg_va_D hI hA) hS t 0 (by rw [gg_ws_at ht, gg_ce_l hk]) rfl hi hd (fun H1 locs1 hP1 _ hS1 => ?_)
  rw [gg_ws_set ht (u' := gg_wL u t i.toNatClampNeg x) (by rw [gg_ce_l hk]; exact congrArg (fun f => Sum.inl (ca t, gg_al t, Sum.inr (Sum.inl f))) (gg_wB_1 u t _)) (fun a ha => gg_ce_wB a ha)] at hP1
  exact k H1 locs1 ls hP1 hS1 hl
theorem gg_aald (hG : gg_Cl X cc nL own rt h E G) {t r : Nat} {i : Int32} (hd : decode cc pc = .ok (.aaload, 1)) (ht : t < 65) (hk : gg_kd t = 23 ∨ gg_kd t = 24) (hi : vp_in i (gg_al t)) (hr : gg_rf t i.toNatClampNeg = r) (k : G (pc + 1) L (.ref r :: st) u) : G pc L (.int i :: .ref t :: st) u := by
  obtain ⟨p, l, e, R, s, m, args, below, meth, c, D, ca, ad, A, cells, slots, Q, ⟨hx, hb, hml, hown, hts, hR, hK, hS0, hI, hA, hN, hX, hE⟩, rfl⟩ := hG
  intro H locs ls hP hS hl
  have hKt := (hK.2 t ht (by omega)).1
  have hlt : i.toNatClampNeg < gg_al t := Nat.not_le.mp fun q => hi (Or.inr q)
  have hc := hP t _ (gg_ws_at ht)
  rw [gg_ce_r hk] at hc
  subst hr
  exact W.aald (v := .ref (ad (gg_rf t i.toNatClampNeg))) (ty := gg_ty (gg_kd t)) hx hb hc (hKt (gg_al t) (fun j => va_rf (some (ad (gg_rf t j))))) (by rcases hk with q | q <;> rw [q] <;> rfl) (fun q => by cases q) (by show ¬ (i < 0 ∨ (arrV _ _ _).slots.size ≤ _); rw [arrV_size]; exact hi) (by show (arrV _ _ _).slots[_]? = _; rw [arrV_read _ _ hlt]; rfl) rfl rfl hd (k H locs ls hP hS hl)
theorem gg_alen (hG : gg_Cl X cc nL own rt h E G) {t : Nat} {v : Int32} (hd : decode cc pc = .ok (.arraylength, 1)) (ht : t < 65) (hk : gg_kd t = 20) (hv : Int32.ofNat (gg_al t) = v) (k : G (pc + 1) L (.int v :: st) u) : G pc L (.ref t :: st) u := by
  obtain ⟨p, l, e, R, s, m, args, below, meth, c, D, ca, ad, A, cells, slots, Q, ⟨hx, hb, hml, hown, hts, hR, hK, hS0, hI, hA, hN, hX, hE⟩, rfl⟩ := hG
  intro H locs ls hP hS hl
  have hKt := hK.va ht (by omega)
  rw [hk] at hKt
  exact va_alen hx hb hKt hP t 0 (by rw [gg_ws_at ht, gg_ce_i (Or.inl hk)]) rfl hv hd (k H locs ls hP hS hl)
theorem gg_gets (hG : gg_Cl X cc nL own rt h E G) {k0 idx : Nat} (hd : decode cc pc = .ok (.getstatic idx, 3)) (hk : k0 < 5) (hw : Cond.fieldLink own idx (gg_sn k0).1 (gg_sn k0).2.1 (gg_sn k0).2.2 ∈ gg_tG) (k : G (pc + 3) L (.ref (100 + k0) :: st) u) : G pc L st u := by
  obtain ⟨p, l, e, R, s, m, args, below, meth, c, D, ca, ad, A, cells, slots, Q, ⟨hx, hb, hml, hown, hts, hR, hK, hS0, hI, hA, hN, hX, hE⟩, rfl⟩ := hG
  intro H locs ls hP hS hl
  exact va_gets hx hb (hS0 k0 hk).1 hS hown (hts _ hw) (fun _ z => z) hd (k H locs ls hP hS hl)
theorem gg_ti (hG : gg_Cl X cc nL own rt h E G) {k0 : Nat} {i : Int32} (hd : decode cc pc = .ok (.iaload, 1)) (hk : k0 < 5) (hty : gg_st k0 = .int) (hi : vp_in i (gg_sl k0)) (k : G (pc + 1) L (.int (gg_sv k0 i.toNatClampNeg) :: st) u) : G pc L (.int i :: .ref (100 + k0) :: st) u := by
  obtain ⟨p, l, e, R, s, m, args, below, meth, c, D, ca, ad, A, cells, slots, Q, ⟨hx, hb, hml, hown, hts, hR, hK, hS0, hI, hA, hN, hX, hE⟩, rfl⟩ := hG
  intro H locs ls hP hS hl
  have hT := (hS0 k0 hk).2
  rw [hty] at hT
  exact va_ti hx hb hT hS hi rfl hd (k H locs ls hP hS hl)
theorem gg_tc (hG : gg_Cl X cc nL own rt h E G) {k0 : Nat} {i : Int32} (hd : decode cc pc = .ok (.caload, 1)) (hk : k0 < 5) (hty : gg_st k0 = .char) (hi : vp_in i (gg_sl k0)) (k : G (pc + 1) L (.int (gg_sv k0 i.toNatClampNeg) :: st) u) : G pc L (.int i :: .ref (100 + k0) :: st) u := by
  obtain ⟨p, l, e, R, s, m, args, below, meth, c, D, ca, ad, A, cells, slots, Q, ⟨hx, hb, hml, hown, hts, hR, hK, hS0, hI, hA, hN, hX, hE⟩, rfl⟩ := hG
  intro H locs ls hP hS hl
  have hT := (hS0 k0 hk).2
  rw [hty] at hT
  exact va_tc hx hb hT hS hi rfl hd (k H locs ls hP hS hl)
theorem gg_tlen (hG : gg_Cl X cc nL own rt h E G) {k0 : Nat} {v : Int32} (hd : decode cc pc = .ok (.arraylength, 1)) (hk : k0 < 5) (hv : Int32.ofNat (gg_sl k0) = v) (k : G (pc + 1) L (.int v :: st) u) : G pc L (.ref (100 + k0) :: st) u := by
  obtain ⟨p, l, e, R, s, m, args, below, meth, c, D, ca, ad, A, cells, slots, Q, ⟨hx, hb, hml, hown, hts, hR, hK, hS0, hI, hA, hN, hX, hE⟩, rfl⟩ := hG
  intro H locs ls hP hS hl
  exact va_tlen hx hb (hS0 k0 hk).2 hS hv hd (k H locs ls hP hS hl)
theorem gg_sld (hG : gg_Cl X cc nL own rt h E G) {N : Nat} {xs : Nat → Int32} {i : Int32} (hd : decode cc pc = .ok (.iaload, 1)) (hq : X = some (N, xs)) (hi : vp_in i N) (k : G (pc + 1) L (.int (xs i.toNatClampNeg) :: st) u) : G pc L (.int i :: .ref 110 :: st) u := by
  obtain ⟨p, l, e, R, s, m, args, below, meth, c, D, ca, ad, A, cells, slots, Q, ⟨hx, hb, hml, hown, hts, hR, hK, hS0, hI, hA, hN, hX, hE⟩, rfl⟩ := hG
  intro H locs ls hP hS hl
  exact va_ti hx hb (hX N xs hq) hS hi rfl hd (k H locs ls hP hS hl)
theorem gg_slen (hG : gg_Cl X cc nL own rt h E G) {N : Nat} {xs : Nat → Int32} {v : Int32} (hd : decode cc pc = .ok (.arraylength, 1)) (hq : X = some (N, xs)) (hv : Int32.ofNat N = v) (k : G (pc + 1) L (.int v :: st) u) : G pc L (.ref 110 :: st) u := by
  obtain ⟨p, l, e, R, s, m, args, below, meth, c, D, ca, ad, A, cells, slots, Q, ⟨hx, hb, hml, hown, hts, hR, hK, hS0, hI, hA, hN, hX, hE⟩, rfl⟩ := hG
  intro H locs ls hP hS hl
  exact va_tlen hx hb (hX N xs hq) hS hv hd (k H locs ls hP hS hl)
theorem gg_copy (hG : gg_Cl X cc nL own rt h E G) {t0 t1 : Nat} {sp dp n : Int32} {idx : Nat} (hd : decode cc pc = .ok (.invokestatic idx, 3)) (h0 : t0 < 65) (h1 : t1 < 65) (k0 : gg_kd t0 = 20) (k1 : gg_kd t1 = 20) (hw : Cond.methodLink own idx arraycopyName ∈ gg_tG) (w2 : Cond.native arraycopyName ∈ gg_tG) (w3 : Cond.static arraycopyName ∈ gg_tG) (w4 : Cond.initialized "java/lang/System" ∈ gg_tG) (q1 : ¬ sp < 0) (q2 : ¬ dp < 0) (q3 : ¬ n < 0) (q4 : sp.toNatClampNeg + n.toNatClampNeg ≤ gg_al t0) (q5 : dp.toNatClampNeg + n.toNatClampNeg ≤ gg_al t1) (hh : 2 ≤ h) (hst : st = []) (k : G (pc + 3) L st (gg_wA u t1 (va_cpy (u.1 t0) (u.1 t1) sp.toNatClampNeg dp.toNatClampNeg n.toNatClampNeg))) : G pc L (.int n :: .int dp :: .ref t1 :: .int sp :: .ref t0 :: st) u := by
  obtain ⟨p, l, e, R, s, m, args, below, meth, c, D, ca, ad, A, cells, slots, Q, ⟨hx, hb, hml, hown, hts, hR, hK, hS0, hI, hA, hN, hX, hE⟩, rfl⟩ := hG
  intro H locs ls hP hS hl
  subst hst
  have a0 := hK.2 t0 h0 (by omega)
  have a1 := hK.2 t1 h1 (by omega)
  rw [k0] at a0
  rw [k1] at a1
  have hK2 : va_K D gg_cls [(ca t0, .int), (ca t1, .int)] s := ⟨hK.1, fun k q hq => by
    match k, hq with
    | 0, hq => cases hq; exact a0
    | 1, hq => cases hq; exact a1
    | k + 2, hq => simp at hq⟩
  refine va_copyi hx hb (hml.trans hl.2.1.symm) hown (hts _ hw) (hts _ w2) (hts _ w3) (hts _ w4) hK2 hP (gg_va_D hI hA) hS t0 t1 0 1 (by rw [gg_ws_at h0, gg_ce_i (Or.inl k0)]) (by rw [gg_ws_at h1, gg_ce_i (Or.inl k1)]) rfl rfl rfl q1 q2 q3 q4 q5 (fun _ _ => rfl) (Nat.le_trans (Nat.le_trans (by decide) hh) hR.1) (Nat.le_trans (show 0 + (nativeFrameWords "java/lang/System" "arraycopy" 5 + 11) ≤ 64 * 2 by decide +kernel) (Nat.le_trans (Nat.mul_le_mul_left 64 hh) hR.2.1)) hd (fun H1 locs1 hP1 _ hS1 => ?_)
  rw [gg_ws_set h1 (u' := gg_wA u t1 (va_cpy (u.1 t0) (u.1 t1) sp.toNatClampNeg dp.toNatClampNeg n.toNatClampNeg)) (by rw [gg_ce_i (Or.inl k1), gg_wA_1]) (fun a ha => gg_ce_wA a ha)] at hP1
  exact k H1 locs1 ls hP1 hS1 hl
theorem gg_iret (hG : gg_Cl X cc nL own rt h E G) {x : Int32} {ty : FieldType} (hd : decode cc pc = .ok (.ireturn, 1)) (hr : rt = some ty) (hn : narrow ty (.int x) = .int x) (k : E (some (.int x)) u) : G pc L [.int x] u := by
  obtain ⟨p, l, e, R, s, m, args, below, meth, c, D, ca, ad, A, cells, slots, Q, ⟨hx, hb, hml, hown, hts, hR, hK, hS0, hI, hA, hN, hX, hE⟩, rfl⟩ := hG
  intro H locs ls hP hS hl
  exact hE H locs ls pc (some (.int x)) u hP hS k ⟨⟨ty, hr, hn⟩, hd⟩
theorem gg_lret (hG : gg_Cl X cc nL own rt h E G) {x : Int64} (hd : decode cc pc = .ok (.lreturn, 1)) (hr : rt = some .long) (k : E (some (.long x)) u) : G pc L [.long x] u := by
  obtain ⟨p, l, e, R, s, m, args, below, meth, c, D, ca, ad, A, cells, slots, Q, ⟨hx, hb, hml, hown, hts, hR, hK, hS0, hI, hA, hN, hX, hE⟩, rfl⟩ := hG
  intro H locs ls hP hS hl
  exact hE H locs ls pc (some (.long x)) u hP hS k ⟨hr, hd⟩
theorem gg_aret (hG : gg_Cl X cc nL own rt h E G) {t : Nat} {n : String} (hd : decode cc pc = .ok (.areturn, 1)) (hr : rt = some (.object n)) (k : E (some (.ref t)) u) : G pc L [.ref t] u := by
  obtain ⟨p, l, e, R, s, m, args, below, meth, c, D, ca, ad, A, cells, slots, Q, ⟨hx, hb, hml, hown, hts, hR, hK, hS0, hI, hA, hN, hX, hE⟩, rfl⟩ := hG
  intro H locs ls hP hS hl
  exact hE H locs ls pc (some (.ref t)) u hP hS k ⟨⟨n, hr⟩, hd⟩
theorem gg_vret (hG : gg_Cl X cc nL own rt h E G)  (hd : decode cc pc = .ok (.return_, 1)) (hr : rt = none) (k : E none u) : G pc L [] u := by
  obtain ⟨p, l, e, R, s, m, args, below, meth, c, D, ca, ad, A, cells, slots, Q, ⟨hx, hb, hml, hown, hts, hR, hK, hS0, hI, hA, hN, hX, hE⟩, rfl⟩ := hG
  intro H locs ls hP hS hl
  exact hE H locs ls pc none u hP hS k ⟨hr, hd⟩
theorem gg_xv (hG : gg_Cl X cc nL own rt h E G) {idx nLy n h1 : Nat} {y : MethodName} {cy : ByteArray} {rt1 : Option FieldType} {As sk : List Value} {E1 : Option Value → gg_M → Prop} {t : Nat} (hd : decode cc pc = .ok (.invokevirtual idx, 3)) (hw : Cond.methodLink own idx y ∈ gg_tG) (hY : gg_Y y cy nLy rt1 n) (hV : gg_YV y) (ht : t < 65) (hk : ∃ q, gg_cls[gg_kd t]? = some q ∧ q.1 = y.cls) (hM : gg_Mt h1 y cy nLy rt1 (.ref t :: As) u E1) (hn : As.length = n) (hh : h1 < h) (hc : (st.map fun v => v.category).sum ≤ 8) (hs : sk = As.reverse ++ .ref t :: st) (k : ∀ v u1, E1 v u1 → G (pc + 3) L (v.toList ++ st) u1) : G pc L sk u := by
  obtain ⟨p, l, e, R, s, m, args, below, meth, c, D, ca, ad, A, cells, slots, Q, ⟨hx, hb, hml, hown, hts, hR, hK, hS0, hI, hA, hN, hX, hE⟩, rfl⟩ := hG
  intro H locs ls hP hS hl
  have hAq : ∀ q, gg_AS ad q → A q := fun q hq => by obtain ⟨k, hk, rfl⟩ := hq; exact hA k hk
  have hws : ∀ w ∈ (Cond.code y cy nLy rt1 :: gg_tG), w ∈ gg_tG ∧ ((w.onTables && w.keeps) = true ∨ ∃ ty, w = .arrayClass ty) := fun w hw => by
    have hw2 : w ∈ gg_tG := (List.mem_cons.mp hw).elim (fun e => e ▸ hY.1) id
    exact ⟨hw2, good_of_word (List.mem_filter.mp hw2).2⟩
  have hU : ∀ U : State, U.heap = H → s.WarmedH U.vm → gg_Wd D ca ad u U := fun U hUh hUW => by
    refine ⟨by rw [hUh]; exact hP, hK.moved hUW.alike, ?_, hI, hN.warm hUW⟩
    rw [hUh]
    exact ((hS0.kept (fun a h1 h2 => hS.2.1 a h1 h2)).moved hUW.alike).narrow hAq
  have hcat : ((st.map (gg_cv ad)).map fun v => v.category).sum ≤ 8 := by
    rw [List.map_map]
    exact Nat.le_trans (Nat.le_of_eq (congrArg List.sum (List.map_congr_left (fun v _ => gg_cat ad v)))) hc
  subst hs
  obtain ⟨q, hq, hqc⟩ := hk
  have hcl := gg_clsF hq
  have hrec := va_recv hK.v0 hP (ci := gg_kd t) (q0 := t) hq (by rw [gg_ws_at ht, gg_ce_o rfl hcl.1])
  rw [hqc] at hrec
  have hroom : (gg_rm h1).frames + 1 ≤ R.frames ∧ 8 + (nLy + 11) + (gg_rm h1).locals ≤ R.locals := ⟨Nat.le_trans hh hR.1, Nat.le_trans (by show 8 + (nLy + 11) + 64 * h1 ≤ 64 * h; have := hY.2.2.2.2; omega) hR.2.1⟩
  refine gg_calld (va_runV (As := As.map (gg_cv ad)) (rest := st.map (gg_cv ad)) (b := ad t) (C := y.cls) (n := n) (Ts := gg_tG) ⟨hx, hb, hml, hown, hts⟩ (hM l D ca ad) ⟨⟨rfl, rfl, hroom.1, hroom.2, pay_in hts hws, List.mem_cons_self, hts _ hY.1, hts _ hY.2.1, ⟨hY.2.2.1.1, hY.2.2.1.2⟩, fun sig hsg => hY.2.2.2.1 sig hsg, hts _ hw⟩, hts _ hV.1, hts _ hV.2⟩ ⟨gg_blind D ca ad u (.ref t :: As), hrec, fun U h1 h2 => ⟨rfl, hU U h1 h2⟩⟩ rfl (by rw [List.length_map]; exact hn) hl.2.1 (by simp [gg_cv, List.map_reverse]) (lv_room hcat) hd ⟨hR.2.2.1, hR.2.2.2⟩) hS hAq (fun v u1 H1 locs1 hE1 hP1 hS1 => ?_)
  have hk := k v u1 hE1 H1 locs1 ls hP1 hS1 hl
  rwa [List.map_append, show v.toList.map (gg_cv ad) = (v.map (gg_cv ad)).toList by cases v <;> rfl] at hk
theorem gg_xvN (hG : gg_Cl X cc nL own rt h E G) {idx nLy n h1 : Nat} {y : MethodName} {cy : ByteArray} {rt1 : Option FieldType} {As sk : List Value} {E1 : Option Value → gg_M → Prop} {t : Nat} (hd : decode cc pc = .ok (.invokevirtual idx, 3)) (hw : (own, idx, y, RX10) ∈ gg_nw) (hY : gg_Y y cy nLy rt1 n) (hV : gg_YV y) (ht : t < 65) (hk : ∃ q, gg_cls[gg_kd t]? = some q ∧ q.1 = y.cls) (hM : gg_Mt h1 y cy nLy rt1 (.ref t :: As) u E1) (hn : As.length = n) (hh : h1 < h) (hc : (st.map fun v => v.category).sum ≤ 8) (hs : sk = As.reverse ++ .ref t :: st) (k : ∀ v u1, E1 v u1 → G (pc + 3) L (v.toList ++ st) u1) : G pc L sk u := by
  obtain ⟨p, l, e, R, s, m, args, below, meth, c, D, ca, ad, A, cells, slots, Q, ⟨hx, hb, hml, hown, hts, hR, hK, hS0, hI, hA, hN, hX, hE⟩, rfl⟩ := hG
  intro H locs ls hP hS hl
  have hAq : ∀ q, gg_AS ad q → A q := fun q hq => by obtain ⟨k, hk, rfl⟩ := hq; exact hA k hk
  have hws : ∀ w ∈ (Cond.code y cy nLy rt1 :: gg_tG), w ∈ gg_tG ∧ ((w.onTables && w.keeps) = true ∨ ∃ ty, w = .arrayClass ty) := fun w hw => by
    have hw2 : w ∈ gg_tG := (List.mem_cons.mp hw).elim (fun e => e ▸ hY.1) id
    exact ⟨hw2, good_of_word (List.mem_filter.mp hw2).2⟩
  have hU : ∀ U : State, U.heap = H → s.WarmedH U.vm → gg_Wd D ca ad u U := fun U hUh hUW => by
    refine ⟨by rw [hUh]; exact hP, hK.moved hUW.alike, ?_, hI, hN.warm hUW⟩
    rw [hUh]
    exact ((hS0.kept (fun a h1 h2 => hS.2.1 a h1 h2)).moved hUW.alike).narrow hAq
  have hcat : ((st.map (gg_cv ad)).map fun v => v.category).sum ≤ 8 := by
    rw [List.map_map]
    exact Nat.le_trans (Nat.le_of_eq (congrArg List.sum (List.map_congr_left (fun v _ => gg_cat ad v)))) hc
  subst hs
  obtain ⟨q, hq, hqc⟩ := hk
  have hcl := gg_clsF hq
  have hrec := va_recv hK.v0 hP (ci := gg_kd t) (q0 := t) hq (by rw [gg_ws_at ht, gg_ce_o rfl hcl.1])
  rw [hqc] at hrec
  have hroom : (gg_rm h1).frames + 1 ≤ R.frames ∧ 8 + (nLy + 11) + (gg_rm h1).locals ≤ R.locals := ⟨Nat.le_trans hh hR.1, Nat.le_trans (by show 8 + (nLy + 11) + 64 * h1 ≤ 64 * h; have := hY.2.2.2.2; omega) hR.2.1⟩
  refine gg_calld (va_runVN (As := As.map (gg_cv ad)) (rest := st.map (gg_cv ad)) (b := ad t) (C := y.cls) (n := n) (Ts := gg_tG) (host := RX10) ⟨hx, hb, hml, hown, hts⟩ (hM l D ca ad) ⟨⟨⟨rfl, rfl, hroom.1, hroom.2, pay_in hts hws, List.mem_cons_self⟩, hts _ hY.1, hts _ hY.2.1, ⟨hY.2.2.1.1, hY.2.2.1.2⟩, fun sig hsg => hY.2.2.2.1 sig hsg, va_Nw.use rfl (hN _ hw)⟩, hts _ hV.1, hts _ hV.2⟩ ⟨gg_blind D ca ad u (.ref t :: As), hrec, fun U h1 h2 => ⟨rfl, hU U h1 h2⟩⟩ rfl (by rw [List.length_map]; exact hn) hl.2.1 (by simp [gg_cv, List.map_reverse]) (lv_room hcat) hd ⟨hR.2.2.1, hR.2.2.2⟩) hS hAq (fun v u1 H1 locs1 hE1 hP1 hS1 => ?_)
  have hk := k v u1 hE1 H1 locs1 ls hP1 hS1 hl
  rwa [List.map_append, show v.toList.map (gg_cv ad) = (v.map (gg_cv ad)).toList by cases v <;> rfl] at hk
theorem gg_xs (hG : gg_Cl X cc nL own rt h E G) {idx nLy n h1 : Nat} {y : MethodName} {cy : ByteArray} {rt1 : Option FieldType} {As sk : List Value} {E1 : Option Value → gg_M → Prop}  (hd : decode cc pc = .ok (.invokestatic idx, 3)) (hw : Cond.methodLink own idx y ∈ gg_tG) (hY : gg_Y y cy nLy rt1 n) (hV : Cond.static y ∈ gg_tG) (hM : gg_Mt h1 y cy nLy rt1 As u E1) (hn : As.length = n) (hh : h1 < h) (hc : (st.map fun v => v.category).sum ≤ 8) (hs : sk = As.reverse ++ st) (k : ∀ v u1, E1 v u1 → G (pc + 3) L (v.toList ++ st) u1) : G pc L sk u := by
  obtain ⟨p, l, e, R, s, m, args, below, meth, c, D, ca, ad, A, cells, slots, Q, ⟨hx, hb, hml, hown, hts, hR, hK, hS0, hI, hA, hN, hX, hE⟩, rfl⟩ := hG
  intro H locs ls hP hS hl
  have hAq : ∀ q, gg_AS ad q → A q := fun q hq => by obtain ⟨k, hk, rfl⟩ := hq; exact hA k hk
  have hws : ∀ w ∈ (Cond.code y cy nLy rt1 :: gg_tG), w ∈ gg_tG ∧ ((w.onTables && w.keeps) = true ∨ ∃ ty, w = .arrayClass ty) := fun w hw => by
    have hw2 : w ∈ gg_tG := (List.mem_cons.mp hw).elim (fun e => e ▸ hY.1) id
    exact ⟨hw2, good_of_word (List.mem_filter.mp hw2).2⟩
  have hU : ∀ U : State, U.heap = H → s.WarmedH U.vm → gg_Wd D ca ad u U := fun U hUh hUW => by
    refine ⟨by rw [hUh]; exact hP, hK.moved hUW.alike, ?_, hI, hN.warm hUW⟩
    rw [hUh]
    exact ((hS0.kept (fun a h1 h2 => hS.2.1 a h1 h2)).moved hUW.alike).narrow hAq
  have hcat : ((st.map (gg_cv ad)).map fun v => v.category).sum ≤ 8 := by
    rw [List.map_map]
    exact Nat.le_trans (Nat.le_of_eq (congrArg List.sum (List.map_congr_left (fun v _ => gg_cat ad v)))) hc
  subst hs
  have hroom : (gg_rm h1).frames + 1 ≤ R.frames ∧ 8 + (nLy + 11) + (gg_rm h1).locals ≤ R.locals := ⟨Nat.le_trans hh hR.1, Nat.le_trans (by show 8 + (nLy + 11) + 64 * h1 ≤ 64 * h; have := hY.2.2.2.2; omega) hR.2.1⟩
  refine gg_calld (va_runS (As := As.map (gg_cv ad)) (rest := st.map (gg_cv ad)) (n := n) (Ts := gg_tG) ⟨hx, hb, hml, hown, hts⟩ (hM l D ca ad) ⟨⟨rfl, rfl, hroom.1, hroom.2, pay_in hts hws, List.mem_cons_self, hts _ hY.1, hts _ hY.2.1, ⟨hY.2.2.1.1, hY.2.2.1.2⟩, fun sig hsg => hY.2.2.2.1 sig hsg, hts _ hw⟩, hts _ hV⟩ ⟨gg_blind D ca ad u As, fun U h1 h2 => ⟨rfl, hU U h1 h2⟩⟩ rfl (by rw [List.length_map]; exact hn) hl.2.1 (by simp [List.map_reverse]) (lv_room hcat) hd ⟨hR.2.2.1, hR.2.2.2⟩) hS hAq (fun v u1 H1 locs1 hE1 hP1 hS1 => ?_)
  have hk := k v u1 hE1 H1 locs1 ls hP1 hS1 hl
  rwa [List.map_append, show v.toList.map (gg_cv ad) = (v.map (gg_cv ad)).toList by cases v <;> rfl] at hk
theorem gg_xsN (hG : gg_Cl X cc nL own rt h E G) {idx nLy n h1 : Nat} {y : MethodName} {cy : ByteArray} {rt1 : Option FieldType} {As sk : List Value} {E1 : Option Value → gg_M → Prop}  (hd : decode cc pc = .ok (.invokestatic idx, 3)) (hw : (own, idx, y, RX10) ∈ gg_nw) (hY : gg_Y y cy nLy rt1 n) (hV : Cond.static y ∈ gg_tG) (hM : gg_Mt h1 y cy nLy rt1 As u E1) (hn : As.length = n) (hh : h1 < h) (hc : (st.map fun v => v.category).sum ≤ 8) (hs : sk = As.reverse ++ st) (k : ∀ v u1, E1 v u1 → G (pc + 3) L (v.toList ++ st) u1) : G pc L sk u := by
  obtain ⟨p, l, e, R, s, m, args, below, meth, c, D, ca, ad, A, cells, slots, Q, ⟨hx, hb, hml, hown, hts, hR, hK, hS0, hI, hA, hN, hX, hE⟩, rfl⟩ := hG
  intro H locs ls hP hS hl
  have hAq : ∀ q, gg_AS ad q → A q := fun q hq => by obtain ⟨k, hk, rfl⟩ := hq; exact hA k hk
  have hws : ∀ w ∈ (Cond.code y cy nLy rt1 :: gg_tG), w ∈ gg_tG ∧ ((w.onTables && w.keeps) = true ∨ ∃ ty, w = .arrayClass ty) := fun w hw => by
    have hw2 : w ∈ gg_tG := (List.mem_cons.mp hw).elim (fun e => e ▸ hY.1) id
    exact ⟨hw2, good_of_word (List.mem_filter.mp hw2).2⟩
  have hU : ∀ U : State, U.heap = H → s.WarmedH U.vm → gg_Wd D ca ad u U := fun U hUh hUW => by
    refine ⟨by rw [hUh]; exact hP, hK.moved hUW.alike, ?_, hI, hN.warm hUW⟩
    rw [hUh]
    exact ((hS0.kept (fun a h1 h2 => hS.2.1 a h1 h2)).moved hUW.alike).narrow hAq
  have hcat : ((st.map (gg_cv ad)).map fun v => v.category).sum ≤ 8 := by
    rw [List.map_map]
    exact Nat.le_trans (Nat.le_of_eq (congrArg List.sum (List.map_congr_left (fun v _ => gg_cat ad v)))) hc
  subst hs
  have hroom : (gg_rm h1).frames + 1 ≤ R.frames ∧ 8 + (nLy + 11) + (gg_rm h1).locals ≤ R.locals := ⟨Nat.le_trans hh hR.1, Nat.le_trans (by show 8 + (nLy + 11) + 64 * h1 ≤ 64 * h; have := hY.2.2.2.2; omega) hR.2.1⟩
  refine gg_calld (va_runSN (As := As.map (gg_cv ad)) (rest := st.map (gg_cv ad)) (n := n) (Ts := gg_tG) (host := RX10) ⟨hx, hb, hml, hown, hts⟩ (hM l D ca ad) ⟨⟨⟨rfl, rfl, hroom.1, hroom.2, pay_in hts hws, List.mem_cons_self⟩, hts _ hY.1, hts _ hY.2.1, ⟨hY.2.2.1.1, hY.2.2.1.2⟩, fun sig hsg => hY.2.2.2.1 sig hsg, va_Nw.use rfl (hN _ hw)⟩, hts _ hV, trivial⟩ ⟨gg_blind D ca ad u As, fun U h1 h2 => ⟨rfl, hU U h1 h2⟩⟩ rfl (by rw [List.length_map]; exact hn) hl.2.1 (by simp [List.map_reverse]) (lv_room hcat) hd ⟨hR.2.2.1, hR.2.2.2⟩) hS hAq (fun v u1 H1 locs1 hE1 hP1 hS1 => ?_)
  have hk := k v u1 hE1 H1 locs1 ls hP1 hS1 hl
  rwa [List.map_append, show v.toList.map (gg_cv ad) = (v.map (gg_cv ad)).toList by cases v <;> rfl] at hk
def gg_eI (Q : Int32 → gg_M → Prop) : Option Value → gg_M → Prop := fun v u => ∃ x, v = some (.int x) ∧ Q x u
def gg_eJ (Q : Int64 → gg_M → Prop) : Option Value → gg_M → Prop := fun v u => ∃ x, v = some (.long x) ∧ Q x u
def gg_eR (Q : Nat → gg_M → Prop) : Option Value → gg_M → Prop := fun v u => ∃ x, v = some (.ref x) ∧ Q x u
def gg_eV (Q : gg_M → Prop) : Option Value → gg_M → Prop := fun v u => v = none ∧ Q u
theorem gg_ki {Q : Int32 → gg_M → Prop} (k : ∀ x u1, Q x u1 → G pc L (.int x :: st) u1) : ∀ v u1, gg_eI Q v u1 → G pc L (v.toList ++ st) u1 := by
  rintro v u1 ⟨x, rfl, hq⟩
  exact k x u1 hq
theorem gg_kj {Q : Int64 → gg_M → Prop} (k : ∀ x u1, Q x u1 → G pc L (.long x :: st) u1) : ∀ v u1, gg_eJ Q v u1 → G pc L (v.toList ++ st) u1 := by
  rintro v u1 ⟨x, rfl, hq⟩
  exact k x u1 hq
theorem gg_kr {Q : Nat → gg_M → Prop} (k : ∀ x u1, Q x u1 → G pc L (.ref x :: st) u1) : ∀ v u1, gg_eR Q v u1 → G pc L (v.toList ++ st) u1 := by
  rintro v u1 ⟨x, rfl, hq⟩
  exact k x u1 hq
theorem gg_kv {Q : gg_M → Prop} (k : ∀ u1, Q u1 → G pc L st u1) : ∀ v u1, gg_eV Q v u1 → G pc L (v.toList ++ st) u1 := by
  rintro v u1 ⟨rfl, hq⟩
  exact k u1 hq
end GGR
end
