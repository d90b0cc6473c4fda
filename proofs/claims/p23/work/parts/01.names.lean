/-- a private method of a class that the tables say can be made, by its rows of tables_1 -/
def lw_okq (q : MethodName × Nat) : Prop := (q.1.cls ≠ "java/lang/invoke/MethodHandle" ∧ q.1.cls ≠ "java/lang/invoke/VarHandle") ∧ Cond.instantiable q.1.cls q.2 ∈ tables_1 ∧ Cond.privateMethod q.1 ∈ tables_1 ∧ Cond.instanceMethod q.1 ∈ tables_1
theorem lw_p0 : lw_okq (⟨"LineDispatcher", "carryOutCommands", "()I"⟩, 8) := ⟨⟨by decide +kernel, by decide +kernel⟩, List.mem_of_getElem? (i := 16) (by decide +kernel), List.mem_of_getElem? (i := 474) (by decide +kernel), List.mem_of_getElem? (i := 475) (by decide +kernel)⟩
theorem lw_p1 : lw_okq (⟨"LineDispatcherModel", "sortTrains", "()V"⟩, 19) := ⟨⟨by decide +kernel, by decide +kernel⟩, List.mem_of_getElem? (i := 872) (by decide +kernel), List.mem_of_getElem? (i := 940) (by decide +kernel), List.mem_of_getElem? (i := 941) (by decide +kernel)⟩
theorem lw_p2 : lw_okq (⟨"LineDispatcherModel", "at", "(II)I"⟩, 19) := ⟨⟨by decide +kernel, by decide +kernel⟩, List.mem_of_getElem? (i := 872) (by decide +kernel), List.mem_of_getElem? (i := 944) (by decide +kernel), List.mem_of_getElem? (i := 945) (by decide +kernel)⟩
theorem lw_p3 : lw_okq (⟨"LineDispatcherModel", "isAhead", "(II)Z"⟩, 19) := ⟨⟨by decide +kernel, by decide +kernel⟩, List.mem_of_getElem? (i := 872) (by decide +kernel), List.mem_of_getElem? (i := 948) (by decide +kernel), List.mem_of_getElem? (i := 949) (by decide +kernel)⟩
theorem lw_p4 : lw_okq (⟨"LineDispatcherModel", "minute", "()V"⟩, 19) := ⟨⟨by decide +kernel, by decide +kernel⟩, List.mem_of_getElem? (i := 872) (by decide +kernel), List.mem_of_getElem? (i := 959) (by decide +kernel), List.mem_of_getElem? (i := 960) (by decide +kernel)⟩
theorem lw_p5 : lw_okq (⟨"LineDispatcherModel", "account", "()V"⟩, 19) := ⟨⟨by decide +kernel, by decide +kernel⟩, List.mem_of_getElem? (i := 872) (by decide +kernel), List.mem_of_getElem? (i := 963) (by decide +kernel), List.mem_of_getElem? (i := 964) (by decide +kernel)⟩
theorem lw_p6 : lw_okq (⟨"LineDispatcherModel", "set", "(III)V"⟩, 19) := ⟨⟨by decide +kernel, by decide +kernel⟩, List.mem_of_getElem? (i := 872) (by decide +kernel), List.mem_of_getElem? (i := 967) (by decide +kernel), List.mem_of_getElem? (i := 968) (by decide +kernel)⟩
theorem lw_p7 : lw_okq (⟨"LineDispatcherModel", "arrive", "(I)V"⟩, 19) := ⟨⟨by decide +kernel, by decide +kernel⟩, List.mem_of_getElem? (i := 872) (by decide +kernel), List.mem_of_getElem? (i := 971) (by decide +kernel), List.mem_of_getElem? (i := 972) (by decide +kernel)⟩
theorem lw_p8 : lw_okq (⟨"LineDispatcherModel", "goal", "(I)I"⟩, 19) := ⟨⟨by decide +kernel, by decide +kernel⟩, List.mem_of_getElem? (i := 872) (by decide +kernel), List.mem_of_getElem? (i := 975) (by decide +kernel), List.mem_of_getElem? (i := 976) (by decide +kernel)⟩
theorem lw_p9 : lw_okq (⟨"LineDispatcherModel", "isUp", "(I)Z"⟩, 19) := ⟨⟨by decide +kernel, by decide +kernel⟩, List.mem_of_getElem? (i := 872) (by decide +kernel), List.mem_of_getElem? (i := 979) (by decide +kernel), List.mem_of_getElem? (i := 980) (by decide +kernel)⟩
theorem lw_p10 : lw_okq (⟨"LineDispatcherModel", "comeIn", "(II)V"⟩, 19) := ⟨⟨by decide +kernel, by decide +kernel⟩, List.mem_of_getElem? (i := 872) (by decide +kernel), List.mem_of_getElem? (i := 983) (by decide +kernel), List.mem_of_getElem? (i := 984) (by decide +kernel)⟩
theorem lw_p11 : lw_okq (⟨"LineDispatcherModel", "become", "(III)V"⟩, 19) := ⟨⟨by decide +kernel, by decide +kernel⟩, List.mem_of_getElem? (i := 872) (by decide +kernel), List.mem_of_getElem? (i := 987) (by decide +kernel), List.mem_of_getElem? (i := 988) (by decide +kernel)⟩
theorem lw_p12 : lw_okq (⟨"LineDispatcherModel", "hasTrack", "(I)Z"⟩, 19) := ⟨⟨by decide +kernel, by decide +kernel⟩, List.mem_of_getElem? (i := 872) (by decide +kernel), List.mem_of_getElem? (i := 991) (by decide +kernel), List.mem_of_getElem? (i := 992) (by decide +kernel)⟩
theorem lw_p13 : lw_okq (⟨"LineDispatcherModel", "taken", "(I)I"⟩, 19) := ⟨⟨by decide +kernel, by decide +kernel⟩, List.mem_of_getElem? (i := 872) (by decide +kernel), List.mem_of_getElem? (i := 995) (by decide +kernel), List.mem_of_getElem? (i := 996) (by decide +kernel)⟩
theorem lw_p14 : lw_okq (⟨"LineDispatcherModel", "isInStation", "(II)Z"⟩, 19) := ⟨⟨by decide +kernel, by decide +kernel⟩, List.mem_of_getElem? (i := 872) (by decide +kernel), List.mem_of_getElem? (i := 999) (by decide +kernel), List.mem_of_getElem? (i := 1000) (by decide +kernel)⟩
theorem lw_p15 : lw_okq (⟨"LineDispatcherModel", "mayRun", "(I)Z"⟩, 19) := ⟨⟨by decide +kernel, by decide +kernel⟩, List.mem_of_getElem? (i := 872) (by decide +kernel), List.mem_of_getElem? (i := 1003) (by decide +kernel), List.mem_of_getElem? (i := 1004) (by decide +kernel)⟩
def lw_privs_1 : List (MethodName × Nat) := [(⟨"LineDispatcher", "carryOutCommands", "()I"⟩, 8), (⟨"LineDispatcherModel", "sortTrains", "()V"⟩, 19), (⟨"LineDispatcherModel", "at", "(II)I"⟩, 19), (⟨"LineDispatcherModel", "isAhead", "(II)Z"⟩, 19), (⟨"LineDispatcherModel", "minute", "()V"⟩, 19), (⟨"LineDispatcherModel", "account", "()V"⟩, 19), (⟨"LineDispatcherModel", "set", "(III)V"⟩, 19), (⟨"LineDispatcherModel", "arrive", "(I)V"⟩, 19), (⟨"LineDispatcherModel", "goal", "(I)I"⟩, 19), (⟨"LineDispatcherModel", "isUp", "(I)Z"⟩, 19), (⟨"LineDispatcherModel", "comeIn", "(II)V"⟩, 19), (⟨"LineDispatcherModel", "become", "(III)V"⟩, 19), (⟨"LineDispatcherModel", "hasTrack", "(I)Z"⟩, 19), (⟨"LineDispatcherModel", "taken", "(I)I"⟩, 19), (⟨"LineDispatcherModel", "isInStation", "(II)Z"⟩, 19), (⟨"LineDispatcherModel", "mayRun", "(I)Z"⟩, 19)]
theorem lw_r1 : ∀ q ∈ lw_privs_1, lw_okq q := List.forall_mem_cons.mpr ⟨lw_p0, List.forall_mem_cons.mpr ⟨lw_p1, List.forall_mem_cons.mpr ⟨lw_p2, List.forall_mem_cons.mpr ⟨lw_p3, List.forall_mem_cons.mpr ⟨lw_p4, List.forall_mem_cons.mpr ⟨lw_p5, List.forall_mem_cons.mpr ⟨lw_p6, List.forall_mem_cons.mpr ⟨lw_p7, List.forall_mem_cons.mpr ⟨lw_p8, List.forall_mem_cons.mpr ⟨lw_p9, List.forall_mem_cons.mpr ⟨lw_p10, List.forall_mem_cons.mpr ⟨lw_p11, List.forall_mem_cons.mpr ⟨lw_p12, List.forall_mem_cons.mpr ⟨lw_p13, List.forall_mem_cons.mpr ⟨lw_p14, List.forall_mem_cons.mpr ⟨lw_p15, fun _ h => absurd h List.not_mem_nil⟩⟩⟩⟩⟩⟩⟩⟩⟩⟩⟩⟩⟩⟩⟩⟩
theorem lw_p16 : lw_okq (⟨"LineDispatcherModel", "isWayFree", "(I)Z"⟩, 19) := ⟨⟨by decide +kernel, by decide +kernel⟩, List.mem_of_getElem? (i := 872) (by decide +kernel), List.mem_of_getElem? (i := 1007) (by decide +kernel), List.mem_of_getElem? (i := 1008) (by decide +kernel)⟩
theorem lw_p17 : lw_okq (⟨"LineDispatcherModel", "stationBehind", "(II)I"⟩, 19) := ⟨⟨by decide +kernel, by decide +kernel⟩, List.mem_of_getElem? (i := 872) (by decide +kernel), List.mem_of_getElem? (i := 1011) (by decide +kernel), List.mem_of_getElem? (i := 1012) (by decide +kernel)⟩
theorem lw_p18 : lw_okq (⟨"LineDispatcherModel", "blockFrom", "(II)I"⟩, 19) := ⟨⟨by decide +kernel, by decide +kernel⟩, List.mem_of_getElem? (i := 872) (by decide +kernel), List.mem_of_getElem? (i := 1015) (by decide +kernel), List.mem_of_getElem? (i := 1016) (by decide +kernel)⟩
theorem lw_p19 : lw_okq (⟨"LineDispatcherModel", "trainIn", "(I)I"⟩, 19) := ⟨⟨by decide +kernel, by decide +kernel⟩, List.mem_of_getElem? (i := 872) (by decide +kernel), List.mem_of_getElem? (i := 1019) (by decide +kernel), List.mem_of_getElem? (i := 1020) (by decide +kernel)⟩
theorem lw_p20 : lw_okq (⟨"LineDispatcherModel", "overtime", "(I)I"⟩, 19) := ⟨⟨by decide +kernel, by decide +kernel⟩, List.mem_of_getElem? (i := 872) (by decide +kernel), List.mem_of_getElem? (i := 1023) (by decide +kernel), List.mem_of_getElem? (i := 1024) (by decide +kernel)⟩
theorem lw_p21 : lw_okq (⟨"LineDispatcherModel", "minutesFor", "(I)I"⟩, 19) := ⟨⟨by decide +kernel, by decide +kernel⟩, List.mem_of_getElem? (i := 872) (by decide +kernel), List.mem_of_getElem? (i := 1027) (by decide +kernel), List.mem_of_getElem? (i := 1028) (by decide +kernel)⟩
theorem lw_p22 : lw_okq (⟨"LineDispatcherModel", "slowness", "(I)I"⟩, 19) := ⟨⟨by decide +kernel, by decide +kernel⟩, List.mem_of_getElem? (i := 872) (by decide +kernel), List.mem_of_getElem? (i := 1031) (by decide +kernel), List.mem_of_getElem? (i := 1032) (by decide +kernel)⟩
theorem lw_p23 : lw_okq (⟨"LineDispatcherModel", "enter", "(I)V"⟩, 19) := ⟨⟨by decide +kernel, by decide +kernel⟩, List.mem_of_getElem? (i := 872) (by decide +kernel), List.mem_of_getElem? (i := 1035) (by decide +kernel), List.mem_of_getElem? (i := 1036) (by decide +kernel)⟩
theorem lw_p24 : lw_okq (⟨"LineDispatcherModel", "relieve", "(I)V"⟩, 19) := ⟨⟨by decide +kernel, by decide +kernel⟩, List.mem_of_getElem? (i := 872) (by decide +kernel), List.mem_of_getElem? (i := 1039) (by decide +kernel), List.mem_of_getElem? (i := 1040) (by decide +kernel)⟩
theorem lw_p25 : lw_okq (⟨"LineDispatcherModel", "refuse", "(II)V"⟩, 19) := ⟨⟨by decide +kernel, by decide +kernel⟩, List.mem_of_getElem? (i := 872) (by decide +kernel), List.mem_of_getElem? (i := 1051) (by decide +kernel), List.mem_of_getElem? (i := 1052) (by decide +kernel)⟩
theorem lw_p26 : lw_okq (⟨"LineDispatcherModel", "go", "(Z)V"⟩, 19) := ⟨⟨by decide +kernel, by decide +kernel⟩, List.mem_of_getElem? (i := 872) (by decide +kernel), List.mem_of_getElem? (i := 1055) (by decide +kernel), List.mem_of_getElem? (i := 1056) (by decide +kernel)⟩
theorem lw_p27 : lw_okq (⟨"LineDispatcherModel", "readCommand", "()V"⟩, 19) := ⟨⟨by decide +kernel, by decide +kernel⟩, List.mem_of_getElem? (i := 872) (by decide +kernel), List.mem_of_getElem? (i := 1059) (by decide +kernel), List.mem_of_getElem? (i := 1060) (by decide +kernel)⟩
theorem lw_p28 : lw_okq (⟨"LineDispatcherModel", "sign", "()I"⟩, 19) := ⟨⟨by decide +kernel, by decide +kernel⟩, List.mem_of_getElem? (i := 872) (by decide +kernel), List.mem_of_getElem? (i := 1063) (by decide +kernel), List.mem_of_getElem? (i := 1064) (by decide +kernel)⟩
theorem lw_p29 : lw_okq (⟨"LineDispatcherModel", "goes", "(C)Z"⟩, 19) := ⟨⟨by decide +kernel, by decide +kernel⟩, List.mem_of_getElem? (i := 872) (by decide +kernel), List.mem_of_getElem? (i := 1067) (by decide +kernel), List.mem_of_getElem? (i := 1068) (by decide +kernel)⟩
theorem lw_p30 : lw_okq (⟨"LineDispatcherModel", "readNumber", "()V"⟩, 19) := ⟨⟨by decide +kernel, by decide +kernel⟩, List.mem_of_getElem? (i := 872) (by decide +kernel), List.mem_of_getElem? (i := 1071) (by decide +kernel), List.mem_of_getElem? (i := 1072) (by decide +kernel)⟩
theorem lw_p31 : lw_okq (⟨"LineDispatcherModel", "faultHere", "()V"⟩, 19) := ⟨⟨by decide +kernel, by decide +kernel⟩, List.mem_of_getElem? (i := 872) (by decide +kernel), List.mem_of_getElem? (i := 1075) (by decide +kernel), List.mem_of_getElem? (i := 1076) (by decide +kernel)⟩
def lw_privs_2 : List (MethodName × Nat) := [(⟨"LineDispatcherModel", "isWayFree", "(I)Z"⟩, 19), (⟨"LineDispatcherModel", "stationBehind", "(II)I"⟩, 19), (⟨"LineDispatcherModel", "blockFrom", "(II)I"⟩, 19), (⟨"LineDispatcherModel", "trainIn", "(I)I"⟩, 19), (⟨"LineDispatcherModel", "overtime", "(I)I"⟩, 19), (⟨"LineDispatcherModel", "minutesFor", "(I)I"⟩, 19), (⟨"LineDispatcherModel", "slowness", "(I)I"⟩, 19), (⟨"LineDispatcherModel", "enter", "(I)V"⟩, 19), (⟨"LineDispatcherModel", "relieve", "(I)V"⟩, 19), (⟨"LineDispatcherModel", "refuse", "(II)V"⟩, 19), (⟨"LineDispatcherModel", "go", "(Z)V"⟩, 19), (⟨"LineDispatcherModel", "readCommand", "()V"⟩, 19), (⟨"LineDispatcherModel", "sign", "()I"⟩, 19), (⟨"LineDispatcherModel", "goes", "(C)Z"⟩, 19), (⟨"LineDispatcherModel", "readNumber", "()V"⟩, 19), (⟨"LineDispatcherModel", "faultHere", "()V"⟩, 19)]
theorem lw_r2 : ∀ q ∈ lw_privs_2, lw_okq q := List.forall_mem_cons.mpr ⟨lw_p16, List.forall_mem_cons.mpr ⟨lw_p17, List.forall_mem_cons.mpr ⟨lw_p18, List.forall_mem_cons.mpr ⟨lw_p19, List.forall_mem_cons.mpr ⟨lw_p20, List.forall_mem_cons.mpr ⟨lw_p21, List.forall_mem_cons.mpr ⟨lw_p22, List.forall_mem_cons.mpr ⟨lw_p23, List.forall_mem_cons.mpr ⟨lw_p24, List.forall_mem_cons.mpr ⟨lw_p25, List.forall_mem_cons.mpr ⟨lw_p26, List.forall_mem_cons.mpr ⟨lw_p27, List.forall_mem_cons.mpr ⟨lw_p28, List.forall_mem_cons.mpr ⟨lw_p29, List.forall_mem_cons.mpr ⟨lw_p30, List.forall_mem_cons.mpr ⟨lw_p31, fun _ h => absurd h List.not_mem_nil⟩⟩⟩⟩⟩⟩⟩⟩⟩⟩⟩⟩⟩⟩⟩⟩
theorem lw_p32 : lw_okq (⟨"LineDispatcherModel", "keepNumber", "(I)V"⟩, 19) := ⟨⟨by decide +kernel, by decide +kernel⟩, List.mem_of_getElem? (i := 872) (by decide +kernel), List.mem_of_getElem? (i := 1079) (by decide +kernel), List.mem_of_getElem? (i := 1080) (by decide +kernel)⟩
theorem lw_p33 : lw_okq (⟨"LineDispatcherModel", "digit", "(C)V"⟩, 19) := ⟨⟨by decide +kernel, by decide +kernel⟩, List.mem_of_getElem? (i := 872) (by decide +kernel), List.mem_of_getElem? (i := 1083) (by decide +kernel), List.mem_of_getElem? (i := 1084) (by decide +kernel)⟩
theorem lw_p34 : lw_okq (⟨"LineDispatcherModel", "must", "(C)V"⟩, 19) := ⟨⟨by decide +kernel, by decide +kernel⟩, List.mem_of_getElem? (i := 872) (by decide +kernel), List.mem_of_getElem? (i := 1087) (by decide +kernel), List.mem_of_getElem? (i := 1088) (by decide +kernel)⟩
theorem lw_p35 : lw_okq (⟨"LineDispatcherModel", "readRest", "()V"⟩, 19) := ⟨⟨by decide +kernel, by decide +kernel⟩, List.mem_of_getElem? (i := 872) (by decide +kernel), List.mem_of_getElem? (i := 1091) (by decide +kernel), List.mem_of_getElem? (i := 1092) (by decide +kernel)⟩
theorem lw_p36 : lw_okq (⟨"LineDispatcherModel", "carryOut", "()V"⟩, 19) := ⟨⟨by decide +kernel, by decide +kernel⟩, List.mem_of_getElem? (i := 872) (by decide +kernel), List.mem_of_getElem? (i := 1095) (by decide +kernel), List.mem_of_getElem? (i := 1096) (by decide +kernel)⟩
theorem lw_p37 : lw_okq (⟨"LineDispatcherModel", "makeLine", "()V"⟩, 19) := ⟨⟨by decide +kernel, by decide +kernel⟩, List.mem_of_getElem? (i := 872) (by decide +kernel), List.mem_of_getElem? (i := 1099) (by decide +kernel), List.mem_of_getElem? (i := 1100) (by decide +kernel)⟩
theorem lw_p38 : lw_okq (⟨"LineDispatcherModel", "equip", "()V"⟩, 19) := ⟨⟨by decide +kernel, by decide +kernel⟩, List.mem_of_getElem? (i := 872) (by decide +kernel), List.mem_of_getElem? (i := 1103) (by decide +kernel), List.mem_of_getElem? (i := 1104) (by decide +kernel)⟩
theorem lw_p39 : lw_okq (⟨"LineDispatcherModel", "isStation", "(I)Z"⟩, 19) := ⟨⟨by decide +kernel, by decide +kernel⟩, List.mem_of_getElem? (i := 872) (by decide +kernel), List.mem_of_getElem? (i := 1107) (by decide +kernel), List.mem_of_getElem? (i := 1108) (by decide +kernel)⟩
theorem lw_p40 : lw_okq (⟨"LineDispatcherModel", "bring", "()V"⟩, 19) := ⟨⟨by decide +kernel, by decide +kernel⟩, List.mem_of_getElem? (i := 872) (by decide +kernel), List.mem_of_getElem? (i := 1111) (by decide +kernel), List.mem_of_getElem? (i := 1112) (by decide +kernel)⟩
theorem lw_p41 : lw_okq (⟨"LineDispatcherModel", "bringTrain", "()V"⟩, 19) := ⟨⟨by decide +kernel, by decide +kernel⟩, List.mem_of_getElem? (i := 872) (by decide +kernel), List.mem_of_getElem? (i := 1115) (by decide +kernel), List.mem_of_getElem? (i := 1116) (by decide +kernel)⟩
theorem lw_p42 : lw_okq (⟨"LineDispatcherModel", "slow", "()V"⟩, 19) := ⟨⟨by decide +kernel, by decide +kernel⟩, List.mem_of_getElem? (i := 872) (by decide +kernel), List.mem_of_getElem? (i := 1119) (by decide +kernel), List.mem_of_getElem? (i := 1120) (by decide +kernel)⟩
theorem lw_p43 : lw_okq (⟨"LineDispatcherModel", "isBlock", "(I)Z"⟩, 19) := ⟨⟨by decide +kernel, by decide +kernel⟩, List.mem_of_getElem? (i := 872) (by decide +kernel), List.mem_of_getElem? (i := 1123) (by decide +kernel), List.mem_of_getElem? (i := 1124) (by decide +kernel)⟩
theorem lw_p44 : lw_okq (⟨"LineDispatcherModel", "bound", "()V"⟩, 19) := ⟨⟨by decide +kernel, by decide +kernel⟩, List.mem_of_getElem? (i := 872) (by decide +kernel), List.mem_of_getElem? (i := 1127) (by decide +kernel), List.mem_of_getElem? (i := 1128) (by decide +kernel)⟩
theorem lw_p45 : lw_okq (⟨"LineDispatcherModel", "isTrain", "(I)Z"⟩, 19) := ⟨⟨by decide +kernel, by decide +kernel⟩, List.mem_of_getElem? (i := 872) (by decide +kernel), List.mem_of_getElem? (i := 1146) (by decide +kernel), List.mem_of_getElem? (i := 1147) (by decide +kernel)⟩
theorem lw_p46 : lw_okq (⟨"LineDispatcherModel", "whyOutside", "(II)I"⟩, 19) := ⟨⟨by decide +kernel, by decide +kernel⟩, List.mem_of_getElem? (i := 872) (by decide +kernel), List.mem_of_getElem? (i := 1170) (by decide +kernel), List.mem_of_getElem? (i := 1171) (by decide +kernel)⟩
theorem lw_p47 : lw_okq (⟨"LineDispatcherModel", "whyStanding", "(II)I"⟩, 19) := ⟨⟨by decide +kernel, by decide +kernel⟩, List.mem_of_getElem? (i := 872) (by decide +kernel), List.mem_of_getElem? (i := 1174) (by decide +kernel), List.mem_of_getElem? (i := 1175) (by decide +kernel)⟩
def lw_privs_3 : List (MethodName × Nat) := [(⟨"LineDispatcherModel", "keepNumber", "(I)V"⟩, 19), (⟨"LineDispatcherModel", "digit", "(C)V"⟩, 19), (⟨"LineDispatcherModel", "must", "(C)V"⟩, 19), (⟨"LineDispatcherModel", "readRest", "()V"⟩, 19), (⟨"LineDispatcherModel", "carryOut", "()V"⟩, 19), (⟨"LineDispatcherModel", "makeLine", "()V"⟩, 19), (⟨"LineDispatcherModel", "equip", "()V"⟩, 19), (⟨"LineDispatcherModel", "isStation", "(I)Z"⟩, 19), (⟨"LineDispatcherModel", "bring", "()V"⟩, 19), (⟨"LineDispatcherModel", "bringTrain", "()V"⟩, 19), (⟨"LineDispatcherModel", "slow", "()V"⟩, 19), (⟨"LineDispatcherModel", "isBlock", "(I)Z"⟩, 19), (⟨"LineDispatcherModel", "bound", "()V"⟩, 19), (⟨"LineDispatcherModel", "isTrain", "(I)Z"⟩, 19), (⟨"LineDispatcherModel", "whyOutside", "(II)I"⟩, 19), (⟨"LineDispatcherModel", "whyStanding", "(II)I"⟩, 19)]
theorem lw_r3 : ∀ q ∈ lw_privs_3, lw_okq q := List.forall_mem_cons.mpr ⟨lw_p32, List.forall_mem_cons.mpr ⟨lw_p33, List.forall_mem_cons.mpr ⟨lw_p34, List.forall_mem_cons.mpr ⟨lw_p35, List.forall_mem_cons.mpr ⟨lw_p36, List.forall_mem_cons.mpr ⟨lw_p37, List.forall_mem_cons.mpr ⟨lw_p38, List.forall_mem_cons.mpr ⟨lw_p39, List.forall_mem_cons.mpr ⟨lw_p40, List.forall_mem_cons.mpr ⟨lw_p41, List.forall_mem_cons.mpr ⟨lw_p42, List.forall_mem_cons.mpr ⟨lw_p43, List.forall_mem_cons.mpr ⟨lw_p44, List.forall_mem_cons.mpr ⟨lw_p45, List.forall_mem_cons.mpr ⟨lw_p46, List.forall_mem_cons.mpr ⟨lw_p47, fun _ h => absurd h List.not_mem_nil⟩⟩⟩⟩⟩⟩⟩⟩⟩⟩⟩⟩⟩⟩⟩⟩
theorem lw_p48 : lw_okq (⟨"LineDispatcherModel", "firstAhead", "(I)I"⟩, 19) := ⟨⟨by decide +kernel, by decide +kernel⟩, List.mem_of_getElem? (i := 872) (by decide +kernel), List.mem_of_getElem? (i := 1178) (by decide +kernel), List.mem_of_getElem? (i := 1179) (by decide +kernel)⟩
theorem lw_p49 : lw_okq (⟨"LineDispatcherModel", "tryMinutes", "(I)V"⟩, 19) := ⟨⟨by decide +kernel, by decide +kernel⟩, List.mem_of_getElem? (i := 872) (by decide +kernel), List.mem_of_getElem? (i := 1187) (by decide +kernel), List.mem_of_getElem? (i := 1188) (by decide +kernel)⟩
theorem lw_p50 : lw_okq (⟨"LineDispatcherModel", "happened", "(II)I"⟩, 19) := ⟨⟨by decide +kernel, by decide +kernel⟩, List.mem_of_getElem? (i := 872) (by decide +kernel), List.mem_of_getElem? (i := 1191) (by decide +kernel), List.mem_of_getElem? (i := 1192) (by decide +kernel)⟩
theorem lw_p51 : lw_okq (⟨"LineDispatcherModel", "counted", "(I)I"⟩, 19) := ⟨⟨by decide +kernel, by decide +kernel⟩, List.mem_of_getElem? (i := 872) (by decide +kernel), List.mem_of_getElem? (i := 1208) (by decide +kernel), List.mem_of_getElem? (i := 1209) (by decide +kernel)⟩
theorem lw_p52 : lw_okq (⟨"LineDispatcherModel", "isStill", "()Z"⟩, 19) := ⟨⟨by decide +kernel, by decide +kernel⟩, List.mem_of_getElem? (i := 872) (by decide +kernel), List.mem_of_getElem? (i := 1212) (by decide +kernel), List.mem_of_getElem? (i := 1213) (by decide +kernel)⟩
theorem lw_p53 : lw_okq (⟨"LineDispatcherModel", "entered", "(II)I"⟩, 19) := ⟨⟨by decide +kernel, by decide +kernel⟩, List.mem_of_getElem? (i := 872) (by decide +kernel), List.mem_of_getElem? (i := 1220) (by decide +kernel), List.mem_of_getElem? (i := 1221) (by decide +kernel)⟩
theorem lw_p54 : lw_okq (⟨"LineDispatcherModel", "left", "(II)I"⟩, 19) := ⟨⟨by decide +kernel, by decide +kernel⟩, List.mem_of_getElem? (i := 872) (by decide +kernel), List.mem_of_getElem? (i := 1224) (by decide +kernel), List.mem_of_getElem? (i := 1225) (by decide +kernel)⟩
theorem lw_p55 : lw_okq (⟨"LineDispatcherModel", "needed", "(I)I"⟩, 19) := ⟨⟨by decide +kernel, by decide +kernel⟩, List.mem_of_getElem? (i := 872) (by decide +kernel), List.mem_of_getElem? (i := 1237) (by decide +kernel), List.mem_of_getElem? (i := 1238) (by decide +kernel)⟩
theorem lw_p56 : lw_okq (⟨"LineDispatcherModel", "longestStay", "()I"⟩, 19) := ⟨⟨by decide +kernel, by decide +kernel⟩, List.mem_of_getElem? (i := 872) (by decide +kernel), List.mem_of_getElem? (i := 1253) (by decide +kernel), List.mem_of_getElem? (i := 1254) (by decide +kernel)⟩
def lw_privs_4 : List (MethodName × Nat) := [(⟨"LineDispatcherModel", "firstAhead", "(I)I"⟩, 19), (⟨"LineDispatcherModel", "tryMinutes", "(I)V"⟩, 19), (⟨"LineDispatcherModel", "happened", "(II)I"⟩, 19), (⟨"LineDispatcherModel", "counted", "(I)I"⟩, 19), (⟨"LineDispatcherModel", "isStill", "()Z"⟩, 19), (⟨"LineDispatcherModel", "entered", "(II)I"⟩, 19), (⟨"LineDispatcherModel", "left", "(II)I"⟩, 19), (⟨"LineDispatcherModel", "needed", "(I)I"⟩, 19), (⟨"LineDispatcherModel", "longestStay", "()I"⟩, 19)]
theorem lw_r4 : ∀ q ∈ lw_privs_4, lw_okq q := List.forall_mem_cons.mpr ⟨lw_p48, List.forall_mem_cons.mpr ⟨lw_p49, List.forall_mem_cons.mpr ⟨lw_p50, List.forall_mem_cons.mpr ⟨lw_p51, List.forall_mem_cons.mpr ⟨lw_p52, List.forall_mem_cons.mpr ⟨lw_p53, List.forall_mem_cons.mpr ⟨lw_p54, List.forall_mem_cons.mpr ⟨lw_p55, List.forall_mem_cons.mpr ⟨lw_p56, fun _ h => absurd h List.not_mem_nil⟩⟩⟩⟩⟩⟩⟩⟩⟩
def lw_privs : List (MethodName × Nat) := lw_privs_1 ++ (lw_privs_2 ++ (lw_privs_3 ++ (lw_privs_4)))
def lw_tbl : List Cond := k2_sels lw_privs ++ tables_1
theorem lw_privs_ok : ∀ q ∈ lw_privs, lw_okq q := by
  show ∀ q ∈ lw_privs_1 ++ (lw_privs_2 ++ (lw_privs_3 ++ (lw_privs_4))), lw_okq q
  exact List.forall_mem_append.mpr ⟨lw_r1, List.forall_mem_append.mpr ⟨lw_r2, List.forall_mem_append.mpr ⟨lw_r3, lw_r4⟩⟩⟩
def RX0 : String := "LineDispatcher$Clerk"
def TX0 : u_T := fun k => match k with
  | 0 => ("LineDispatcher$Clerk", "reason", "I", false)
  | _ => ("LineDispatcher$Clerk", "told", "I", false)
def tyX0 : Nat → FieldType := fun k => match k with
  | 0 => .int
  | _ => .int
abbrev wsX00 : List Cond := u_ws RX0 TX0 2
theorem nmX0 : ∀ a, a < 2 → ∀ b, b < 2 → a ≠ b → (TX0 a).2.1 ≠ (TX0 b).2.1 := by decide +kernel
theorem tyX0_ok : ∀ k, k < 2 → parseFieldDescriptor (TX0 k).2.2.1 = some (tyX0 k) := by decide +kernel
abbrev cX0_init : ByteArray := prog_2_method_1_code
def yX0_init : MethodName := ⟨RX0, "<init>", "()V"⟩
abbrev cX0_refuses : ByteArray := prog_2_method_2_code
def yX0_refuses : MethodName := ⟨RX0, "refuses", "(LLineDispatcher$Line;LLineDispatcher$Command;)Z"⟩
abbrev cX0_refuse : ByteArray := prog_2_method_3_code
def yX0_refuse : MethodName := ⟨RX0, "refuse", "(II)Z"⟩
abbrev cX0_refusesLengths : ByteArray := prog_2_method_4_code
def yX0_refusesLengths : MethodName := ⟨RX0, "refusesLengths", "(LLineDispatcher$Command;)Z"⟩
abbrev cX0_refusesStation : ByteArray := prog_2_method_5_code
def yX0_refusesStation : MethodName := ⟨RX0, "refusesStation", "(LLineDispatcher$Line;LLineDispatcher$Command;)Z"⟩
abbrev cX0_refusesTrain : ByteArray := prog_2_method_6_code
def yX0_refusesTrain : MethodName := ⟨RX0, "refusesTrain", "(LLineDispatcher$Line;LLineDispatcher$Command;)Z"⟩
abbrev cX0_refusesOrder : ByteArray := prog_2_method_7_code
def yX0_refusesOrder : MethodName := ⟨RX0, "refusesOrder", "(LLineDispatcher$Line;LLineDispatcher$Command;)Z"⟩
abbrev cX0_carryOut : ByteArray := prog_2_method_8_code
def yX0_carryOut : MethodName := ⟨RX0, "carryOut", "(LLineDispatcher$Line;LLineDispatcher$Command;)V"⟩
abbrev cX0_makeLine : ByteArray := prog_2_method_9_code
def yX0_makeLine : MethodName := ⟨RX0, "makeLine", "(LLineDispatcher$Line;LLineDispatcher$Command;)V"⟩
abbrev cX0_changeStation : ByteArray := prog_2_method_10_code
def yX0_changeStation : MethodName := ⟨RX0, "changeStation", "(LLineDispatcher$Line;LLineDispatcher$Command;)V"⟩
abbrev cX0_addTrain : ByteArray := prog_2_method_11_code
def yX0_addTrain : MethodName := ⟨RX0, "addTrain", "(LLineDispatcher$Line;LLineDispatcher$Command;)V"⟩
abbrev cX0_addOrder : ByteArray := prog_2_method_12_code
def yX0_addOrder : MethodName := ⟨RX0, "addOrder", "(LLineDispatcher$Line;LLineDispatcher$Command;)V"⟩
def RX1 : String := "LineDispatcher$Command"
def TX1 : u_T := fun k => match k with
  | 0 => ("LineDispatcher$Command", "kind", "I", false)
  | 1 => ("LineDispatcher$Command", "place", "I", false)
  | 2 => ("LineDispatcher$Command", "goal", "I", false)
  | 3 => ("LineDispatcher$Command", "digit", "I", false)
  | 4 => ("LineDispatcher$Command", "minute", "I", false)
  | 5 => ("LineDispatcher$Command", "extra", "I", false)
  | 6 => ("LineDispatcher$Command", "hours", "I", false)
  | 7 => ("LineDispatcher$Command", "amount", "I", false)
  | 8 => ("LineDispatcher$Command", "end", "I", false)
  | 9 => ("LineDispatcher$Command", "givesRelief", "Z", false)
  | 10 => ("LineDispatcher$Command", "lengths", "[I", true)
  | _ => ("LineDispatcher$Command", "lengthCount", "I", false)
def tyX1 : Nat → FieldType := fun k => match k with
  | 0 => .int
  | 1 => .int
  | 2 => .int
  | 3 => .int
  | 4 => .int
  | 5 => .int
  | 6 => .int
  | 7 => .int
  | 8 => .int
  | 9 => .boolean
  | 10 => .array .int
  | _ => .int
abbrev wsX10 : List Cond := u_ws RX1 TX1 12
theorem nmX1 : ∀ a, a < 12 → ∀ b, b < 12 → a ≠ b → (TX1 a).2.1 ≠ (TX1 b).2.1 := by decide +kernel
theorem tyX1_ok : ∀ k, k < 12 → parseFieldDescriptor (TX1 k).2.2.1 = some (tyX1 k) := by decide +kernel
abbrev cX1_init : ByteArray := prog_3_method_1_code
def yX1_init : MethodName := ⟨RX1, "<init>", "()V"⟩
def RX2 : String := "LineDispatcher$Line"
def TX2 : u_T := fun k => match k with
  | 0 => ("LineDispatcher$Line", "time", "I", false)
  | 1 => ("LineDispatcher$Line", "bound", "I", false)
  | 2 => ("LineDispatcher$Line", "reliefMinutes", "I", false)
  | 3 => ("LineDispatcher$Line", "stationCount", "I", false)
  | 4 => ("LineDispatcher$Line", "trainCount", "I", false)
  | 5 => ("LineDispatcher$Line", "orderCount", "I", false)
  | 6 => ("LineDispatcher$Line", "stops", "[LLineDispatcher$Stop;", true)
  | 7 => ("LineDispatcher$Line", "sections", "[LLineDispatcher$Section;", true)
  | 8 => ("LineDispatcher$Line", "trains", "[LLineDispatcher$Train;", true)
  | 9 => ("LineDispatcher$Line", "orders", "[LLineDispatcher$SlowOrder;", true)
  | 10 => ("LineDispatcher$Line", "ranking", "[I", true)
  | _ => ("LineDispatcher$Line", "rankedCount", "I", false)
def tyX2 : Nat → FieldType := fun k => match k with
  | 0 => .int
  | 1 => .int
  | 2 => .int
  | 3 => .int
  | 4 => .int
  | 5 => .int
  | 6 => .array (.object "LineDispatcher$Stop")
  | 7 => .array (.object "LineDispatcher$Section")
  | 8 => .array (.object "LineDispatcher$Train")
  | 9 => .array (.object "LineDispatcher$SlowOrder")
  | 10 => .array .int
  | _ => .int
abbrev wsX20 : List Cond := u_ws RX2 TX2 12
theorem nmX2 : ∀ a, a < 12 → ∀ b, b < 12 → a ≠ b → (TX2 a).2.1 ≠ (TX2 b).2.1 := by decide +kernel
theorem tyX2_ok : ∀ k, k < 12 → parseFieldDescriptor (TX2 k).2.2.1 = some (tyX2 k) := by decide +kernel
abbrev cX2_init : ByteArray := prog_4_method_1_code
def yX2_init : MethodName := ⟨RX2, "<init>", "()V"⟩
abbrev cX2_copyFrom : ByteArray := prog_4_method_2_code
def yX2_copyFrom : MethodName := ⟨RX2, "copyFrom", "(LLineDispatcher$Line;)V"⟩
abbrev cX2_exists : ByteArray := prog_4_method_3_code
def yX2_exists : MethodName := ⟨RX2, "exists", "()Z"⟩
abbrev cX2_hasStation : ByteArray := prog_4_method_4_code
def yX2_hasStation : MethodName := ⟨RX2, "hasStation", "(I)Z"⟩
abbrev cX2_hasBlock : ByteArray := prog_4_method_5_code
def yX2_hasBlock : MethodName := ⟨RX2, "hasBlock", "(I)Z"⟩
abbrev cX2_trainWith : ByteArray := prog_4_method_6_code
def yX2_trainWith : MethodName := ⟨RX2, "trainWith", "(I)LLineDispatcher$Train;"⟩
abbrev cX2_removeOrder : ByteArray := prog_4_method_7_code
def yX2_removeOrder : MethodName := ⟨RX2, "removeOrder", "(I)V"⟩
abbrev cX2_advance : ByteArray := prog_4_method_8_code
def yX2_advance : MethodName := ⟨RX2, "advance", "(I)V"⟩
abbrev cX2_countMinute : ByteArray := prog_4_method_9_code
def yX2_countMinute : MethodName := ⟨RX2, "countMinute", "()V"⟩
abbrev cX2_endRuns : ByteArray := prog_4_method_10_code
def yX2_endRuns : MethodName := ⟨RX2, "endRuns", "()V"⟩
abbrev cX2_admitTrains : ByteArray := prog_4_method_11_code
def yX2_admitTrains : MethodName := ⟨RX2, "admitTrains", "()V"⟩
abbrev cX2_bringInto : ByteArray := prog_4_method_12_code
def yX2_bringInto : MethodName := ⟨RX2, "bringInto", "(LLineDispatcher$Train;I)V"⟩
abbrev cX2_endReliefs : ByteArray := prog_4_method_13_code
def yX2_endReliefs : MethodName := ⟨RX2, "endReliefs", "()V"⟩
abbrev cX2_dispatchTrains : ByteArray := prog_4_method_14_code
def yX2_dispatchTrains : MethodName := ⟨RX2, "dispatchTrains", "()V"⟩
abbrev cX2_enter : ByteArray := prog_4_method_15_code
def yX2_enter : MethodName := ⟨RX2, "enter", "(LLineDispatcher$Train;I)V"⟩
abbrev cX2_beginRelief : ByteArray := prog_4_method_16_code
def yX2_beginRelief : MethodName := ⟨RX2, "beginRelief", "(LLineDispatcher$Train;)V"⟩
abbrev cX2_rank : ByteArray := prog_4_method_17_code
def yX2_rank : MethodName := ⟨RX2, "rank", "()V"⟩
abbrev cX2_isAhead : ByteArray := prog_4_method_18_code
def yX2_isAhead : MethodName := ⟨RX2, "isAhead", "(LLineDispatcher$Train;LLineDispatcher$Train;)Z"⟩
abbrev cX2_obstacleOf : ByteArray := prog_4_method_19_code
def yX2_obstacleOf : MethodName := ⟨RX2, "obstacleOf", "(LLineDispatcher$Train;)I"⟩
abbrev cX2_isCrewAlone : ByteArray := prog_4_method_20_code
def yX2_isCrewAlone : MethodName := ⟨RX2, "isCrewAlone", "(LLineDispatcher$Train;I)Z"⟩
abbrev cX2_overHours : ByteArray := prog_4_method_21_code
def yX2_overHours : MethodName := ⟨RX2, "overHours", "(LLineDispatcher$Train;)I"⟩
abbrev cX2_minutesFor : ByteArray := prog_4_method_22_code
def yX2_minutesFor : MethodName := ⟨RX2, "minutesFor", "(LLineDispatcher$Train;I)I"⟩
abbrev cX2_slowMinutes : ByteArray := prog_4_method_23_code
def yX2_slowMinutes : MethodName := ⟨RX2, "slowMinutes", "(I)I"⟩
abbrev cX2_occupant : ByteArray := prog_4_method_24_code
def yX2_occupant : MethodName := ⟨RX2, "occupant", "(I)I"⟩
abbrev cX2_takenTracks : ByteArray := prog_4_method_25_code
def yX2_takenTracks : MethodName := ⟨RX2, "takenTracks", "(I)I"⟩
abbrev cX2_hasFreeTrack : ByteArray := prog_4_method_26_code
def yX2_hasFreeTrack : MethodName := ⟨RX2, "hasFreeTrack", "(I)Z"⟩
abbrev cX2_trainsIn : ByteArray := prog_4_method_27_code
def yX2_trainsIn : MethodName := ⟨RX2, "trainsIn", "(I)I"⟩
abbrev cX2_trainsThatAre : ByteArray := prog_4_method_28_code
def yX2_trainsThatAre : MethodName := ⟨RX2, "trainsThatAre", "(I)I"⟩
abbrev cX2_longestStay : ByteArray := prog_4_method_29_code
def yX2_longestStay : MethodName := ⟨RX2, "longestStay", "()I"⟩
abbrev cX2_allWaiting : ByteArray := prog_4_method_30_code
def yX2_allWaiting : MethodName := ⟨RX2, "allWaiting", "()I"⟩
abbrev cX2_isQuiet : ByteArray := prog_4_method_31_code
def yX2_isQuiet : MethodName := ⟨RX2, "isQuiet", "()Z"⟩
abbrev cX2_reasonFor : ByteArray := prog_4_method_32_code
def yX2_reasonFor : MethodName := ⟨RX2, "reasonFor", "(LLineDispatcher$Train;)I"⟩
abbrev cX2_numberFor : ByteArray := prog_4_method_33_code
def yX2_numberFor : MethodName := ⟨RX2, "numberFor", "(LLineDispatcher$Train;I)I"⟩
abbrev cX2_rivalOf : ByteArray := prog_4_method_34_code
def yX2_rivalOf : MethodName := ⟨RX2, "rivalOf", "(LLineDispatcher$Train;)I"⟩
abbrev cX2_holder : ByteArray := prog_4_method_35_code
def yX2_holder : MethodName := ⟨RX2, "holder", "(II)I"⟩
abbrev cX2_conflictsIn : ByteArray := prog_4_method_36_code
def yX2_conflictsIn : MethodName := ⟨RX2, "conflictsIn", "(I)I"⟩
abbrev cX2_isConflict : ByteArray := prog_4_method_37_code
def yX2_isConflict : MethodName := ⟨RX2, "isConflict", "(LLineDispatcher$Train;LLineDispatcher$Train;I)Z"⟩
abbrev cX2_minutesOfWay : ByteArray := prog_4_method_38_code
def yX2_minutesOfWay : MethodName := ⟨RX2, "minutesOfWay", "(LLineDispatcher$Train;)I"⟩
def RX3 : String := "LineDispatcher$Plan"
def TX3 : u_T := fun k => match k with
  | 0 => ("LineDispatcher$Plan", "isMade", "Z", false)
  | 1 => ("LineDispatcher$Plan", "madeAt", "I", false)
  | 2 => ("LineDispatcher$Plan", "lastMinute", "I", false)
  | _ => ("LineDispatcher$Plan", "rows", "[[I", true)
def tyX3 : Nat → FieldType := fun k => match k with
  | 0 => .boolean
  | 1 => .int
  | 2 => .int
  | _ => .array (.array .int)
abbrev wsX30 : List Cond := u_ws RX3 TX3 4
theorem nmX3 : ∀ a, a < 4 → ∀ b, b < 4 → a ≠ b → (TX3 a).2.1 ≠ (TX3 b).2.1 := by decide +kernel
theorem tyX3_ok : ∀ k, k < 4 → parseFieldDescriptor (TX3 k).2.2.1 = some (tyX3 k) := by decide +kernel
abbrev cX3_init : ByteArray := prog_5_method_1_code
def yX3_init : MethodName := ⟨RX3, "<init>", "()V"⟩
abbrev cX3_make : ByteArray := prog_5_method_2_code
def yX3_make : MethodName := ⟨RX3, "make", "(LLineDispatcher$Line;II)I"⟩
abbrev cX3_takeRow : ByteArray := prog_5_method_3_code
def yX3_takeRow : MethodName := ⟨RX3, "takeRow", "(LLineDispatcher$Train;II)I"⟩
abbrev cX3_minuteFor : ByteArray := prog_5_method_4_code
def yX3_minuteFor : MethodName := ⟨RX3, "minuteFor", "(III)I"⟩
abbrev cX3_deviations : ByteArray := prog_5_method_5_code
def yX3_deviations : MethodName := ⟨RX3, "deviations", "(LLineDispatcher$Line;)I"⟩
abbrev cX3_deviates : ByteArray := prog_5_method_6_code
def yX3_deviates : MethodName := ⟨RX3, "deviates", "(III)Z"⟩
def RX4 : String := "LineDispatcher$Refusal"
def TX4 : u_T := fun k => match k with
  | 0 => ("LineDispatcher$Refusal", "isKept", "Z", false)
  | _ => ("LineDispatcher$Refusal", "chain", "[I", true)
def tyX4 : Nat → FieldType := fun k => match k with
  | 0 => .boolean
  | _ => .array .int
abbrev wsX40 : List Cond := u_ws RX4 TX4 2
theorem nmX4 : ∀ a, a < 2 → ∀ b, b < 2 → a ≠ b → (TX4 a).2.1 ≠ (TX4 b).2.1 := by decide +kernel
theorem tyX4_ok : ∀ k, k < 2 → parseFieldDescriptor (TX4 k).2.2.1 = some (tyX4 k) := by decide +kernel
abbrev cX4_init : ByteArray := prog_6_method_1_code
def yX4_init : MethodName := ⟨RX4, "<init>", "()V"⟩
abbrev cX4_keep : ByteArray := prog_6_method_2_code
def yX4_keep : MethodName := ⟨RX4, "keep", "(III)V"⟩
abbrev cX4_numberAt : ByteArray := prog_6_method_3_code
def yX4_numberAt : MethodName := ⟨RX4, "numberAt", "(I)I"⟩
def RX5 : String := "LineDispatcher$Section"
def TX5 : u_T := fun k => match k with
  | 0 => ("LineDispatcher$Section", "length", "I", false)
  | 1 => ("LineDispatcher$Section", "takenMinutes", "I", false)
  | _ => ("LineDispatcher$Section", "entries", "I", false)
def tyX5 : Nat → FieldType := fun k => match k with
  | 0 => .int
  | 1 => .int
  | _ => .int
abbrev wsX50 : List Cond := u_ws RX5 TX5 3
theorem nmX5 : ∀ a, a < 3 → ∀ b, b < 3 → a ≠ b → (TX5 a).2.1 ≠ (TX5 b).2.1 := by decide +kernel
theorem tyX5_ok : ∀ k, k < 3 → parseFieldDescriptor (TX5 k).2.2.1 = some (tyX5 k) := by decide +kernel
abbrev cX5_init : ByteArray := prog_7_method_1_code
def yX5_init : MethodName := ⟨RX5, "<init>", "()V"⟩
abbrev cX5_copyFrom : ByteArray := prog_7_method_2_code
def yX5_copyFrom : MethodName := ⟨RX5, "copyFrom", "(LLineDispatcher$Section;)V"⟩
def RX6 : String := "LineDispatcher$SlowOrder"
def TX6 : u_T := fun k => match k with
  | 0 => ("LineDispatcher$SlowOrder", "block", "I", false)
  | 1 => ("LineDispatcher$SlowOrder", "minutes", "I", false)
  | 2 => ("LineDispatcher$SlowOrder", "begin", "I", false)
  | _ => ("LineDispatcher$SlowOrder", "end", "I", false)
def tyX6 : Nat → FieldType := fun k => match k with
  | 0 => .int
  | 1 => .int
  | 2 => .int
  | _ => .int
abbrev wsX60 : List Cond := u_ws RX6 TX6 4
theorem nmX6 : ∀ a, a < 4 → ∀ b, b < 4 → a ≠ b → (TX6 a).2.1 ≠ (TX6 b).2.1 := by decide +kernel
theorem tyX6_ok : ∀ k, k < 4 → parseFieldDescriptor (TX6 k).2.2.1 = some (tyX6 k) := by decide +kernel
abbrev cX6_init : ByteArray := prog_8_method_1_code
def yX6_init : MethodName := ⟨RX6, "<init>", "()V"⟩
abbrev cX6_copyFrom : ByteArray := prog_8_method_2_code
def yX6_copyFrom : MethodName := ⟨RX6, "copyFrom", "(LLineDispatcher$SlowOrder;)V"⟩
def RX7 : String := "LineDispatcher$Stop"
def TX7 : u_T := fun k => match k with
  | 0 => ("LineDispatcher$Stop", "tracks", "I", false)
  | 1 => ("LineDispatcher$Stop", "givesRelief", "Z", false)
  | _ => ("LineDispatcher$Stop", "comings", "I", false)
def tyX7 : Nat → FieldType := fun k => match k with
  | 0 => .int
  | 1 => .boolean
  | _ => .int
abbrev wsX70 : List Cond := u_ws RX7 TX7 3
theorem nmX7 : ∀ a, a < 3 → ∀ b, b < 3 → a ≠ b → (TX7 a).2.1 ≠ (TX7 b).2.1 := by decide +kernel
theorem tyX7_ok : ∀ k, k < 3 → parseFieldDescriptor (TX7 k).2.2.1 = some (tyX7 k) := by decide +kernel
abbrev cX7_init : ByteArray := prog_9_method_1_code
def yX7_init : MethodName := ⟨RX7, "<init>", "()V"⟩
abbrev cX7_copyFrom : ByteArray := prog_9_method_2_code
def yX7_copyFrom : MethodName := ⟨RX7, "copyFrom", "(LLineDispatcher$Stop;)V"⟩
def RX8 : String := "LineDispatcher$Tape"
def TX8 : u_T := fun k => match k with
  | 0 => ("LineDispatcher$Tape", "bytes", "[I", true)
  | 1 => ("LineDispatcher$Tape", "length", "I", false)
  | 2 => ("LineDispatcher$Tape", "commands", "[LLineDispatcher$Command;", true)
  | 3 => ("LineDispatcher$Tape", "commandCount", "I", false)
  | _ => ("LineDispatcher$Tape", "at", "I", false)
def tyX8 : Nat → FieldType := fun k => match k with
  | 0 => .array .int
  | 1 => .int
  | 2 => .array (.object "LineDispatcher$Command")
  | 3 => .int
  | _ => .int
abbrev wsX80 : List Cond := u_ws RX8 TX8 5
theorem nmX8 : ∀ a, a < 5 → ∀ b, b < 5 → a ≠ b → (TX8 a).2.1 ≠ (TX8 b).2.1 := by decide +kernel
theorem tyX8_ok : ∀ k, k < 5 → parseFieldDescriptor (TX8 k).2.2.1 = some (tyX8 k) := by decide +kernel
abbrev cX8_init : ByteArray := prog_10_method_1_code
def yX8_init : MethodName := ⟨RX8, "<init>", "()V"⟩
abbrev cX8_append : ByteArray := prog_10_method_2_code
def yX8_append : MethodName := ⟨RX8, "append", "(I)V"⟩
abbrev cX8_readText : ByteArray := prog_10_method_3_code
def yX8_readText : MethodName := ⟨RX8, "readText", "()Z"⟩
abbrev cX8_readCommand : ByteArray := prog_10_method_4_code
def yX8_readCommand : MethodName := ⟨RX8, "readCommand", "(LLineDispatcher$Command;)Z"⟩
abbrev cX8_readLengths : ByteArray := prog_10_method_5_code
def yX8_readLengths : MethodName := ⟨RX8, "readLengths", "(LLineDispatcher$Command;)Z"⟩
abbrev cX8_readStation : ByteArray := prog_10_method_6_code
def yX8_readStation : MethodName := ⟨RX8, "readStation", "(LLineDispatcher$Command;)Z"⟩
abbrev cX8_readTrain : ByteArray := prog_10_method_7_code
def yX8_readTrain : MethodName := ⟨RX8, "readTrain", "(LLineDispatcher$Command;)Z"⟩
abbrev cX8_readOrder : ByteArray := prog_10_method_8_code
def yX8_readOrder : MethodName := ⟨RX8, "readOrder", "(LLineDispatcher$Command;)Z"⟩
abbrev cX8_readBound : ByteArray := prog_10_method_9_code
def yX8_readBound : MethodName := ⟨RX8, "readBound", "(LLineDispatcher$Command;)Z"⟩
abbrev cX8_peek : ByteArray := prog_10_method_10_code
def yX8_peek : MethodName := ⟨RX8, "peek", "()I"⟩
abbrev cX8_take : ByteArray := prog_10_method_11_code
def yX8_take : MethodName := ⟨RX8, "take", "(I)Z"⟩
abbrev cX8_readDigit : ByteArray := prog_10_method_12_code
def yX8_readDigit : MethodName := ⟨RX8, "readDigit", "(I)I"⟩
abbrev cX8_readNumber : ByteArray := prog_10_method_13_code
def yX8_readNumber : MethodName := ⟨RX8, "readNumber", "()I"⟩
def RX9 : String := "LineDispatcher$Train"
def TX9 : u_T := fun k => match k with
  | 0 => ("LineDispatcher$Train", "number", "I", false)
  | 1 => ("LineDispatcher$Train", "state", "I", false)
  | 2 => ("LineDispatcher$Train", "first", "I", false)
  | 3 => ("LineDispatcher$Train", "last", "I", false)
  | 4 => ("LineDispatcher$Train", "priority", "I", false)
  | 5 => ("LineDispatcher$Train", "ready", "I", false)
  | 6 => ("LineDispatcher$Train", "extra", "I", false)
  | 7 => ("LineDispatcher$Train", "hours", "I", false)
  | 8 => ("LineDispatcher$Train", "reliefs", "I", false)
  | 9 => ("LineDispatcher$Train", "place", "I", false)
  | 10 => ("LineDispatcher$Train", "heading", "I", false)
  | 11 => ("LineDispatcher$Train", "since", "I", false)
  | 12 => ("LineDispatcher$Train", "until", "I", false)
  | 13 => ("LineDispatcher$Train", "cameIn", "I", false)
  | 14 => ("LineDispatcher$Train", "crewSince", "I", false)
  | 15 => ("LineDispatcher$Train", "spent", "[I", true)
  | _ => ("LineDispatcher$Train", "minutes", "[[I", true)
def tyX9 : Nat → FieldType := fun k => match k with
  | 0 => .int
  | 1 => .int
  | 2 => .int
  | 3 => .int
  | 4 => .int
  | 5 => .int
  | 6 => .int
  | 7 => .int
  | 8 => .int
  | 9 => .int
  | 10 => .int
  | 11 => .int
  | 12 => .int
  | 13 => .int
  | 14 => .int
  | 15 => .array .int
  | _ => .array (.array .int)
abbrev wsX90 : List Cond := u_ws RX9 TX9 17
theorem nmX9 : ∀ a, a < 17 → ∀ b, b < 17 → a ≠ b → (TX9 a).2.1 ≠ (TX9 b).2.1 := by decide +kernel
theorem tyX9_ok : ∀ k, k < 17 → parseFieldDescriptor (TX9 k).2.2.1 = some (tyX9 k) := by decide +kernel
abbrev cX9_init : ByteArray := prog_11_method_1_code
def yX9_init : MethodName := ⟨RX9, "<init>", "()V"⟩
abbrev cX9_begin : ByteArray := prog_11_method_2_code
def yX9_begin : MethodName := ⟨RX9, "begin", "(LLineDispatcher$Command;)V"⟩
abbrev cX9_changeTo : ByteArray := prog_11_method_3_code
def yX9_changeTo : MethodName := ⟨RX9, "changeTo", "(II)V"⟩
abbrev cX9_copyFrom : ByteArray := prog_11_method_4_code
def yX9_copyFrom : MethodName := ⟨RX9, "copyFrom", "(LLineDispatcher$Train;)V"⟩
abbrev cX9_property : ByteArray := prog_11_method_5_code
def yX9_property : MethodName := ⟨RX9, "property", "(I)I"⟩
abbrev cX9_isInStation : ByteArray := prog_11_method_6_code
def yX9_isInStation : MethodName := ⟨RX9, "isInStation", "()Z"⟩
abbrev cX9_isCounted : ByteArray := prog_11_method_7_code
def yX9_isCounted : MethodName := ⟨RX9, "isCounted", "(I)Z"⟩
abbrev cX9_nextBlock : ByteArray := prog_11_method_8_code
def yX9_nextBlock : MethodName := ⟨RX9, "nextBlock", "()I"⟩
abbrev cX9_nextStation : ByteArray := prog_11_method_9_code
def yX9_nextStation : MethodName := ⟨RX9, "nextStation", "()I"⟩
abbrev cX9_takesTrackOf : ByteArray := prog_11_method_10_code
def yX9_takesTrackOf : MethodName := ⟨RX9, "takesTrackOf", "(I)Z"⟩
abbrev cX9_entered : ByteArray := prog_11_method_11_code
def yX9_entered : MethodName := ⟨RX9, "entered", "(I)I"⟩
abbrev cX9_left : ByteArray := prog_11_method_12_code
def yX9_left : MethodName := ⟨RX9, "left", "(I)I"⟩
abbrev cX9_note : ByteArray := prog_11_method_13_code
def yX9_note : MethodName := ⟨RX9, "note", "(III)V"⟩
abbrev cX9_allSpent : ByteArray := prog_11_method_14_code
def yX9_allSpent : MethodName := ⟨RX9, "allSpent", "()I"⟩
def RX10 : String := "LineDispatcher"
def TX10 : u_T := fun k => match k with
  | 0 => ("LineDispatcher", "tape", "LLineDispatcher$Tape;", true)
  | 1 => ("LineDispatcher", "latest", "LLineDispatcher$Refusal;", true)
  | 2 => ("LineDispatcher", "clerk", "LLineDispatcher$Clerk;", true)
  | 3 => ("LineDispatcher", "planned", "LLineDispatcher$Plan;", true)
  | 4 => ("LineDispatcher", "now", "LLineDispatcher$Line;", true)
  | 5 => ("LineDispatcher", "saved", "LLineDispatcher$Line;", true)
  | 6 => ("LineDispatcher", "aside", "LLineDispatcher$Line;", true)
  | _ => ("LineDispatcher", "hasSaved", "Z", false)
def tyX10 : Nat → FieldType := fun k => match k with
  | 0 => .object "LineDispatcher$Tape"
  | 1 => .object "LineDispatcher$Refusal"
  | 2 => .object "LineDispatcher$Clerk"
  | 3 => .object "LineDispatcher$Plan"
  | 4 => .object "LineDispatcher$Line"
  | 5 => .object "LineDispatcher$Line"
  | 6 => .object "LineDispatcher$Line"
  | _ => .boolean
abbrev wsX100 : List Cond := u_ws RX10 TX10 8
theorem nmX10 : ∀ a, a < 8 → ∀ b, b < 8 → a ≠ b → (TX10 a).2.1 ≠ (TX10 b).2.1 := by decide +kernel
theorem tyX10_ok : ∀ k, k < 8 → parseFieldDescriptor (TX10 k).2.2.1 = some (tyX10 k) := by decide +kernel
abbrev cX10_init : ByteArray := prog_1_method_1_code
def yX10_init : MethodName := ⟨RX10, "<init>", "()V"⟩
abbrev cX10_feed : ByteArray := prog_1_method_2_code
def yX10_feed : MethodName := ⟨RX10, "feed", "(IIIIII)I"⟩
abbrev cX10_execute : ByteArray := prog_1_method_3_code
def yX10_execute : MethodName := ⟨RX10, "execute", "()I"⟩
abbrev cX10_refusal : ByteArray := prog_1_method_4_code
def yX10_refusal : MethodName := ⟨RX10, "refusal", "(I)I"⟩
abbrev cX10_relief : ByteArray := prog_1_method_5_code
def yX10_relief : MethodName := ⟨RX10, "relief", "(I)I"⟩
abbrev cX10_cancel : ByteArray := prog_1_method_6_code
def yX10_cancel : MethodName := ⟨RX10, "cancel", "(I)I"⟩
abbrev cX10_lift : ByteArray := prog_1_method_7_code
def yX10_lift : MethodName := ⟨RX10, "lift", "(I)I"⟩
abbrev cX10_pass : ByteArray := prog_1_method_8_code
def yX10_pass : MethodName := ⟨RX10, "pass", "(I)I"⟩
abbrev cX10_train : ByteArray := prog_1_method_9_code
def yX10_train : MethodName := ⟨RX10, "train", "(II)I"⟩
abbrev cX10_station : ByteArray := prog_1_method_10_code
def yX10_station : MethodName := ⟨RX10, "station", "(II)I"⟩
abbrev cX10_block : ByteArray := prog_1_method_11_code
def yX10_block : MethodName := ⟨RX10, "block", "(II)I"⟩
abbrev cX10_why : ByteArray := prog_1_method_12_code
def yX10_why : MethodName := ⟨RX10, "why", "(II)I"⟩
abbrev cX10_order : ByteArray := prog_1_method_13_code
def yX10_order : MethodName := ⟨RX10, "order", "(I)I"⟩
abbrev cX10_plan : ByteArray := prog_1_method_14_code
def yX10_plan : MethodName := ⟨RX10, "plan", "(I)I"⟩
abbrev cX10_timetable : ByteArray := prog_1_method_15_code
def yX10_timetable : MethodName := ⟨RX10, "timetable", "(III)I"⟩
abbrev cX10_drift : ByteArray := prog_1_method_16_code
def yX10_drift : MethodName := ⟨RX10, "drift", "()I"⟩
abbrev cX10_ahead : ByteArray := prog_1_method_17_code
def yX10_ahead : MethodName := ⟨RX10, "ahead", "(II)I"⟩
abbrev cX10_held : ByteArray := prog_1_method_18_code
def yX10_held : MethodName := ⟨RX10, "held", "(II)I"⟩
abbrev cX10_conflicts : ByteArray := prog_1_method_19_code
def yX10_conflicts : MethodName := ⟨RX10, "conflicts", "()I"⟩
abbrev cX10_account : ByteArray := prog_1_method_20_code
def yX10_account : MethodName := ⟨RX10, "account", "(II)I"⟩
abbrev cX10_image : ByteArray := prog_1_method_21_code
def yX10_image : MethodName := ⟨RX10, "image", "()I"⟩
abbrev cX10_undo : ByteArray := prog_1_method_22_code
def yX10_undo : MethodName := ⟨RX10, "undo", "()I"⟩
abbrev cX10_count : ByteArray := prog_1_method_23_code
def yX10_count : MethodName := ⟨RX10, "count", "(I)I"⟩
abbrev cX10_isByte : ByteArray := prog_1_method_24_code
def yX10_isByte : MethodName := ⟨RX10, "isByte", "(I)Z"⟩
abbrev cX10_isMinutes : ByteArray := prog_1_method_25_code
def yX10_isMinutes : MethodName := ⟨RX10, "isMinutes", "(I)Z"⟩
abbrev cX10_isKind : ByteArray := prog_1_method_26_code
def yX10_isKind : MethodName := ⟨RX10, "isKind", "(I)Z"⟩
abbrev cX10_carryOutCommands : ByteArray := prog_1_method_27_code
def yX10_carryOutCommands : MethodName := ⟨RX10, "carryOutCommands", "()I"⟩
def RX11 : String := "LineDispatcherModel"
def TX11 : u_T := fun k => match k with
  | 0 => ("LineDispatcherModel", "now", "[I", true)
  | 1 => ("LineDispatcherModel", "list", "[I", true)
  | 2 => ("LineDispatcherModel", "listed", "I", false)
  | 3 => ("LineDispatcherModel", "tape", "[I", true)
  | 4 => ("LineDispatcherModel", "length", "I", false)
  | 5 => ("LineDispatcherModel", "end", "I", false)
  | 6 => ("LineDispatcherModel", "cursor", "I", false)
  | 7 => ("LineDispatcherModel", "fault", "I", false)
  | 8 => ("LineDispatcherModel", "index", "I", false)
  | 9 => ("LineDispatcherModel", "before", "[I", true)
  | 10 => ("LineDispatcherModel", "numbers", "[I", true)
  | 11 => ("LineDispatcherModel", "numberMany", "I", false)
  | 12 => ("LineDispatcherModel", "told", "I", false)
  | 13 => ("LineDispatcherModel", "reason", "I", false)
  | 14 => ("LineDispatcherModel", "number", "I", false)
  | 15 => ("LineDispatcherModel", "letter", "I", false)
  | 16 => ("LineDispatcherModel", "held", "[I", true)
  | 17 => ("LineDispatcherModel", "image", "[I", true)
  | _ => ("LineDispatcherModel", "isImage", "Z", false)
def tyX11 : Nat → FieldType := fun k => match k with
  | 0 => .array .int
  | 1 => .array .int
  | 2 => .int
  | 3 => .array .int
  | 4 => .int
  | 5 => .int
  | 6 => .int
  | 7 => .int
  | 8 => .int
  | 9 => .array .int
  | 10 => .array .int
  | 11 => .int
  | 12 => .int
  | 13 => .int
  | 14 => .int
  | 15 => .int
  | 16 => .array .int
  | 17 => .array .int
  | _ => .boolean
abbrev wsX110 : List Cond := u_ws RX11 TX11 19
theorem nmX11 : ∀ a, a < 19 → ∀ b, b < 19 → a ≠ b → (TX11 a).2.1 ≠ (TX11 b).2.1 := by decide +kernel
theorem tyX11_ok : ∀ k, k < 19 → parseFieldDescriptor (TX11 k).2.2.1 = some (tyX11 k) := by decide +kernel
abbrev cX11_init : ByteArray := prog_13_method_1_code
def yX11_init : MethodName := ⟨RX11, "<init>", "()V"⟩
abbrev cX11_isIn : ByteArray := prog_13_method_2_code
def yX11_isIn : MethodName := ⟨RX11, "isIn", "(III)Z"⟩
abbrev cX11_isStation : ByteArray := prog_13_method_3_code
def yX11_isStation : MethodName := ⟨RX11, "isStation", "(I)Z"⟩
abbrev cX11_isBlock : ByteArray := prog_13_method_4_code
def yX11_isBlock : MethodName := ⟨RX11, "isBlock", "(I)Z"⟩
abbrev cX11_isTrain : ByteArray := prog_13_method_5_code
def yX11_isTrain : MethodName := ⟨RX11, "isTrain", "(I)Z"⟩
abbrev cX11_at : ByteArray := prog_13_method_6_code
def yX11_at : MethodName := ⟨RX11, "at", "(II)I"⟩
abbrev cX11_set : ByteArray := prog_13_method_7_code
def yX11_set : MethodName := ⟨RX11, "set", "(III)V"⟩
abbrev cX11_isUp : ByteArray := prog_13_method_8_code
def yX11_isUp : MethodName := ⟨RX11, "isUp", "(I)Z"⟩
abbrev cX11_blockFrom : ByteArray := prog_13_method_9_code
def yX11_blockFrom : MethodName := ⟨RX11, "blockFrom", "(II)I"⟩
abbrev cX11_stationBehind : ByteArray := prog_13_method_10_code
def yX11_stationBehind : MethodName := ⟨RX11, "stationBehind", "(II)I"⟩
abbrev cX11_isInStation : ByteArray := prog_13_method_11_code
def yX11_isInStation : MethodName := ⟨RX11, "isInStation", "(II)Z"⟩
abbrev cX11_goal : ByteArray := prog_13_method_12_code
def yX11_goal : MethodName := ⟨RX11, "goal", "(I)I"⟩
abbrev cX11_taken : ByteArray := prog_13_method_13_code
def yX11_taken : MethodName := ⟨RX11, "taken", "(I)I"⟩
abbrev cX11_hasTrack : ByteArray := prog_13_method_14_code
def yX11_hasTrack : MethodName := ⟨RX11, "hasTrack", "(I)Z"⟩
abbrev cX11_trainIn : ByteArray := prog_13_method_15_code
def yX11_trainIn : MethodName := ⟨RX11, "trainIn", "(I)I"⟩
abbrev cX11_slowness : ByteArray := prog_13_method_16_code
def yX11_slowness : MethodName := ⟨RX11, "slowness", "(I)I"⟩
abbrev cX11_minutesFor : ByteArray := prog_13_method_17_code
def yX11_minutesFor : MethodName := ⟨RX11, "minutesFor", "(I)I"⟩
abbrev cX11_isWayFree : ByteArray := prog_13_method_18_code
def yX11_isWayFree : MethodName := ⟨RX11, "isWayFree", "(I)Z"⟩
abbrev cX11_overtime : ByteArray := prog_13_method_19_code
def yX11_overtime : MethodName := ⟨RX11, "overtime", "(I)I"⟩
abbrev cX11_mayRun : ByteArray := prog_13_method_20_code
def yX11_mayRun : MethodName := ⟨RX11, "mayRun", "(I)Z"⟩
abbrev cX11_isAhead : ByteArray := prog_13_method_21_code
def yX11_isAhead : MethodName := ⟨RX11, "isAhead", "(II)Z"⟩
abbrev cX11_sortTrains : ByteArray := prog_13_method_22_code
def yX11_sortTrains : MethodName := ⟨RX11, "sortTrains", "()V"⟩
abbrev cX11_order : ByteArray := prog_13_method_23_code
def yX11_order : MethodName := ⟨RX11, "order", "(I)I"⟩
abbrev cX11_become : ByteArray := prog_13_method_24_code
def yX11_become : MethodName := ⟨RX11, "become", "(III)V"⟩
abbrev cX11_comeIn : ByteArray := prog_13_method_25_code
def yX11_comeIn : MethodName := ⟨RX11, "comeIn", "(II)V"⟩
abbrev cX11_account : ByteArray := prog_13_method_26_code
def yX11_account : MethodName := ⟨RX11, "account", "()V"⟩
abbrev cX11_arrive : ByteArray := prog_13_method_27_code
def yX11_arrive : MethodName := ⟨RX11, "arrive", "(I)V"⟩
abbrev cX11_enter : ByteArray := prog_13_method_28_code
def yX11_enter : MethodName := ⟨RX11, "enter", "(I)V"⟩
abbrev cX11_relieve : ByteArray := prog_13_method_29_code
def yX11_relieve : MethodName := ⟨RX11, "relieve", "(I)V"⟩
abbrev cX11_minute : ByteArray := prog_13_method_30_code
def yX11_minute : MethodName := ⟨RX11, "minute", "()V"⟩
abbrev cX11_pass : ByteArray := prog_13_method_31_code
def yX11_pass : MethodName := ⟨RX11, "pass", "(I)I"⟩
abbrev cX11_feed : ByteArray := prog_13_method_32_code
def yX11_feed : MethodName := ⟨RX11, "feed", "(IIIIII)I"⟩
abbrev cX11_sign : ByteArray := prog_13_method_33_code
def yX11_sign : MethodName := ⟨RX11, "sign", "()I"⟩
abbrev cX11_faultHere : ByteArray := prog_13_method_34_code
def yX11_faultHere : MethodName := ⟨RX11, "faultHere", "()V"⟩
abbrev cX11_goes : ByteArray := prog_13_method_35_code
def yX11_goes : MethodName := ⟨RX11, "goes", "(C)Z"⟩
abbrev cX11_must : ByteArray := prog_13_method_36_code
def yX11_must : MethodName := ⟨RX11, "must", "(C)V"⟩
abbrev cX11_keepNumber : ByteArray := prog_13_method_37_code
def yX11_keepNumber : MethodName := ⟨RX11, "keepNumber", "(I)V"⟩
abbrev cX11_digit : ByteArray := prog_13_method_38_code
def yX11_digit : MethodName := ⟨RX11, "digit", "(C)V"⟩
abbrev cX11_readNumber : ByteArray := prog_13_method_39_code
def yX11_readNumber : MethodName := ⟨RX11, "readNumber", "()V"⟩
abbrev cX11_readCommand : ByteArray := prog_13_method_40_code
def yX11_readCommand : MethodName := ⟨RX11, "readCommand", "()V"⟩
abbrev cX11_readRest : ByteArray := prog_13_method_41_code
def yX11_readRest : MethodName := ⟨RX11, "readRest", "()V"⟩
abbrev cX11_refuse : ByteArray := prog_13_method_42_code
def yX11_refuse : MethodName := ⟨RX11, "refuse", "(II)V"⟩
abbrev cX11_makeLine : ByteArray := prog_13_method_43_code
def yX11_makeLine : MethodName := ⟨RX11, "makeLine", "()V"⟩
abbrev cX11_equip : ByteArray := prog_13_method_44_code
def yX11_equip : MethodName := ⟨RX11, "equip", "()V"⟩
abbrev cX11_bring : ByteArray := prog_13_method_45_code
def yX11_bring : MethodName := ⟨RX11, "bring", "()V"⟩
abbrev cX11_bringTrain : ByteArray := prog_13_method_46_code
def yX11_bringTrain : MethodName := ⟨RX11, "bringTrain", "()V"⟩
abbrev cX11_slow : ByteArray := prog_13_method_47_code
def yX11_slow : MethodName := ⟨RX11, "slow", "()V"⟩
abbrev cX11_bound : ByteArray := prog_13_method_48_code
def yX11_bound : MethodName := ⟨RX11, "bound", "()V"⟩
abbrev cX11_carryOut : ByteArray := prog_13_method_49_code
def yX11_carryOut : MethodName := ⟨RX11, "carryOut", "()V"⟩
abbrev cX11_go : ByteArray := prog_13_method_50_code
def yX11_go : MethodName := ⟨RX11, "go", "(Z)V"⟩
abbrev cX11_execute : ByteArray := prog_13_method_51_code
def yX11_execute : MethodName := ⟨RX11, "execute", "()I"⟩
abbrev cX11_copy : ByteArray := prog_13_method_52_code
def yX11_copy : MethodName := ⟨RX11, "copy", "([I[I)V"⟩
abbrev cX11_refusal : ByteArray := prog_13_method_53_code
def yX11_refusal : MethodName := ⟨RX11, "refusal", "(I)I"⟩
abbrev cX11_relief : ByteArray := prog_13_method_54_code
def yX11_relief : MethodName := ⟨RX11, "relief", "(I)I"⟩
abbrev cX11_cancel : ByteArray := prog_13_method_55_code
def yX11_cancel : MethodName := ⟨RX11, "cancel", "(I)I"⟩
abbrev cX11_lift : ByteArray := prog_13_method_56_code
def yX11_lift : MethodName := ⟨RX11, "lift", "(I)I"⟩
abbrev cX11_train : ByteArray := prog_13_method_57_code
def yX11_train : MethodName := ⟨RX11, "train", "(II)I"⟩
abbrev cX11_station : ByteArray := prog_13_method_58_code
def yX11_station : MethodName := ⟨RX11, "station", "(II)I"⟩
abbrev cX11_block : ByteArray := prog_13_method_59_code
def yX11_block : MethodName := ⟨RX11, "block", "(II)I"⟩
abbrev cX11_whyOutside : ByteArray := prog_13_method_60_code
def yX11_whyOutside : MethodName := ⟨RX11, "whyOutside", "(II)I"⟩
abbrev cX11_firstAhead : ByteArray := prog_13_method_61_code
def yX11_firstAhead : MethodName := ⟨RX11, "firstAhead", "(I)I"⟩
abbrev cX11_whyStanding : ByteArray := prog_13_method_62_code
def yX11_whyStanding : MethodName := ⟨RX11, "whyStanding", "(II)I"⟩
abbrev cX11_why : ByteArray := prog_13_method_63_code
def yX11_why : MethodName := ⟨RX11, "why", "(II)I"⟩
abbrev cX11_tryMinutes : ByteArray := prog_13_method_64_code
def yX11_tryMinutes : MethodName := ⟨RX11, "tryMinutes", "(I)V"⟩
abbrev cX11_happened : ByteArray := prog_13_method_65_code
def yX11_happened : MethodName := ⟨RX11, "happened", "(II)I"⟩
abbrev cX11_plan : ByteArray := prog_13_method_66_code
def yX11_plan : MethodName := ⟨RX11, "plan", "(I)I"⟩
abbrev cX11_timetable : ByteArray := prog_13_method_67_code
def yX11_timetable : MethodName := ⟨RX11, "timetable", "(III)I"⟩
abbrev cX11_drift : ByteArray := prog_13_method_68_code
def yX11_drift : MethodName := ⟨RX11, "drift", "()I"⟩
abbrev cX11_counted : ByteArray := prog_13_method_69_code
def yX11_counted : MethodName := ⟨RX11, "counted", "(I)I"⟩
abbrev cX11_isStill : ByteArray := prog_13_method_70_code
def yX11_isStill : MethodName := ⟨RX11, "isStill", "()Z"⟩
abbrev cX11_ahead : ByteArray := prog_13_method_71_code
def yX11_ahead : MethodName := ⟨RX11, "ahead", "(II)I"⟩
abbrev cX11_entered : ByteArray := prog_13_method_72_code
def yX11_entered : MethodName := ⟨RX11, "entered", "(II)I"⟩
abbrev cX11_left : ByteArray := prog_13_method_73_code
def yX11_left : MethodName := ⟨RX11, "left", "(II)I"⟩
abbrev cX11_held : ByteArray := prog_13_method_74_code
def yX11_held : MethodName := ⟨RX11, "held", "(II)I"⟩
abbrev cX11_conflicts : ByteArray := prog_13_method_75_code
def yX11_conflicts : MethodName := ⟨RX11, "conflicts", "()I"⟩
abbrev cX11_needed : ByteArray := prog_13_method_76_code
def yX11_needed : MethodName := ⟨RX11, "needed", "(I)I"⟩
abbrev cX11_account_ : ByteArray := prog_13_method_77_code
def yX11_account_ : MethodName := ⟨RX11, "account", "(II)I"⟩
abbrev cX11_image : ByteArray := prog_13_method_78_code
def yX11_image : MethodName := ⟨RX11, "image", "()I"⟩
abbrev cX11_undo : ByteArray := prog_13_method_79_code
def yX11_undo : MethodName := ⟨RX11, "undo", "()I"⟩
abbrev cX11_longestStay : ByteArray := prog_13_method_80_code
def yX11_longestStay : MethodName := ⟨RX11, "longestStay", "()I"⟩
abbrev cX11_count : ByteArray := prog_13_method_81_code
def yX11_count : MethodName := ⟨RX11, "count", "(I)I"⟩
def RJ9 : String := "java/lang/Math"
abbrev cJ9_max_7cf53 : ByteArray := prog_14_method_65_code
def yJ9_max_7cf53 : MethodName := ⟨RJ9, "max", "(II)I"⟩
abbrev cJ9_min_7cf53 : ByteArray := prog_14_method_69_code
def yJ9_min_7cf53 : MethodName := ⟨RJ9, "min", "(II)I"⟩
def RJ10 : String := "java/lang/System"
def RL : String := "LineDispatcherLaw"
abbrev cL_law : ByteArray := code
def yL_law : MethodName := ⟨RL, "law", "([I)Z"⟩
abbrev vwCl : List vw_C := [(RX0, TX0, 2), (RX1, TX1, 12), (RX2, TX2, 12), (RX3, TX3, 4), (RX4, TX4, 2), (RX5, TX5, 3), (RX6, TX6, 4), (RX7, TX7, 3), (RX8, TX8, 5), (RX9, TX9, 17), (RX10, TX10, 8), (RX11, TX11, 19)]
theorem zx_wide : True := by
  have _h := @Jvm.Free.Multi.fill_facts
  trivial
