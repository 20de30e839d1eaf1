section
-- ===== PART A: goes FIRST, ahead of the names: the tables' words, and 'selects' of the private methods out of them =====
/-- a private method of a class that the tables say can be made, by its rows of tables_1 -/
def lw_okq (q : MethodName × Nat) : Prop := (q.1.cls ≠ "java/lang/invoke/MethodHandle" ∧ q.1.cls ≠ "java/lang/invoke/VarHandle") ∧ Cond.instantiable q.1.cls q.2 ∈ tables_1 ∧ Cond.privateMethod q.1 ∈ tables_1 ∧ Cond.instanceMethod q.1 ∈ tables_1
theorem lw_p0 : lw_okq (⟨"CapWallets$Rides", "findMates", "(LCapWallets$TapRow;I)V"⟩, 9) := ⟨⟨by decide +kernel, by decide +kernel⟩, List.mem_of_getElem? (i := 96) (by decide +kernel), List.mem_of_getElem? (i := 198) (by decide +kernel), List.mem_of_getElem? (i := 199) (by decide +kernel)⟩
theorem lw_p1 : lw_okq (⟨"CapWallets$Rides", "findFares", "(LCapWallets$TapRow;[I)V"⟩, 9) := ⟨⟨by decide +kernel, by decide +kernel⟩, List.mem_of_getElem? (i := 96) (by decide +kernel), List.mem_of_getElem? (i := 226) (by decide +kernel), List.mem_of_getElem? (i := 227) (by decide +kernel)⟩
theorem lw_p2 : lw_okq (⟨"CapWallets$Rides", "addUp", "(LCapWallets$TapRow;)V"⟩, 9) := ⟨⟨by decide +kernel, by decide +kernel⟩, List.mem_of_getElem? (i := 96) (by decide +kernel), List.mem_of_getElem? (i := 239) (by decide +kernel), List.mem_of_getElem? (i := 240) (by decide +kernel)⟩
theorem lw_p3 : lw_okq (⟨"CapWallets$TextReader", "takes", "(I)Z"⟩, 8) := ⟨⟨by decide +kernel, by decide +kernel⟩, List.mem_of_getElem? (i := 158) (by decide +kernel), List.mem_of_getElem? (i := 290) (by decide +kernel), List.mem_of_getElem? (i := 291) (by decide +kernel)⟩
theorem lw_p4 : lw_okq (⟨"CapWallets$TextReader", "goesOn", "(ZI)Z"⟩, 8) := ⟨⟨by decide +kernel, by decide +kernel⟩, List.mem_of_getElem? (i := 158) (by decide +kernel), List.mem_of_getElem? (i := 297) (by decide +kernel), List.mem_of_getElem? (i := 298) (by decide +kernel)⟩
theorem lw_p5 : lw_okq (⟨"CapWallets$TextReader", "startsNumber", "(II)Z"⟩, 8) := ⟨⟨by decide +kernel, by decide +kernel⟩, List.mem_of_getElem? (i := 158) (by decide +kernel), List.mem_of_getElem? (i := 301) (by decide +kernel), List.mem_of_getElem? (i := 302) (by decide +kernel)⟩
theorem lw_p6 : lw_okq (⟨"CapWallets$TextReader", "lengthensNumber", "(II)Z"⟩, 8) := ⟨⟨by decide +kernel, by decide +kernel⟩, List.mem_of_getElem? (i := 158) (by decide +kernel), List.mem_of_getElem? (i := 305) (by decide +kernel), List.mem_of_getElem? (i := 306) (by decide +kernel)⟩
theorem lw_p7 : lw_okq (⟨"CapWallets$TextReader", "endsTap", "(I)Z"⟩, 8) := ⟨⟨by decide +kernel, by decide +kernel⟩, List.mem_of_getElem? (i := 158) (by decide +kernel), List.mem_of_getElem? (i := 309) (by decide +kernel), List.mem_of_getElem? (i := 310) (by decide +kernel)⟩
theorem lw_p8 : lw_okq (⟨"CapWallets", "costOfAll", "()I"⟩, 8) := ⟨⟨by decide +kernel, by decide +kernel⟩, List.mem_of_getElem? (i := 19) (by decide +kernel), List.mem_of_getElem? (i := 351) (by decide +kernel), List.mem_of_getElem? (i := 352) (by decide +kernel)⟩
theorem lw_p9 : lw_okq (⟨"CapWallets", "countNumber", "(I)I"⟩, 8) := ⟨⟨by decide +kernel, by decide +kernel⟩, List.mem_of_getElem? (i := 19) (by decide +kernel), List.mem_of_getElem? (i := 360) (by decide +kernel), List.mem_of_getElem? (i := 361) (by decide +kernel)⟩
theorem lw_p10 : lw_okq (⟨"CapWallets", "weeksToSettleAnew", "()I"⟩, 8) := ⟨⟨by decide +kernel, by decide +kernel⟩, List.mem_of_getElem? (i := 19) (by decide +kernel), List.mem_of_getElem? (i := 364) (by decide +kernel), List.mem_of_getElem? (i := 365) (by decide +kernel)⟩
theorem lw_p11 : lw_okq (⟨"CapWallets", "tapProperty", "(II)I"⟩, 8) := ⟨⟨by decide +kernel, by decide +kernel⟩, List.mem_of_getElem? (i := 19) (by decide +kernel), List.mem_of_getElem? (i := 379) (by decide +kernel), List.mem_of_getElem? (i := 380) (by decide +kernel)⟩
theorem lw_p12 : lw_okq (⟨"CapWallets", "mixedWallet", "(JI)J"⟩, 8) := ⟨⟨by decide +kernel, by decide +kernel⟩, List.mem_of_getElem? (i := 19) (by decide +kernel), List.mem_of_getElem? (i := 392) (by decide +kernel), List.mem_of_getElem? (i := 393) (by decide +kernel)⟩
theorem lw_p13 : lw_okq (⟨"CapWallets", "dayNumber", "(III)I"⟩, 8) := ⟨⟨by decide +kernel, by decide +kernel⟩, List.mem_of_getElem? (i := 19) (by decide +kernel), List.mem_of_getElem? (i := 398) (by decide +kernel), List.mem_of_getElem? (i := 399) (by decide +kernel)⟩
theorem lw_p14 : lw_okq (⟨"CapWallets", "weekNumber", "(III)I"⟩, 8) := ⟨⟨by decide +kernel, by decide +kernel⟩, List.mem_of_getElem? (i := 19) (by decide +kernel), List.mem_of_getElem? (i := 404) (by decide +kernel), List.mem_of_getElem? (i := 405) (by decide +kernel)⟩
theorem lw_p15 : lw_okq (⟨"CapWallets", "raisedChange", "(I)I"⟩, 8) := ⟨⟨by decide +kernel, by decide +kernel⟩, List.mem_of_getElem? (i := 19) (by decide +kernel), List.mem_of_getElem? (i := 418) (by decide +kernel), List.mem_of_getElem? (i := 419) (by decide +kernel)⟩
def lw_privs_1 : List (MethodName × Nat) := [(⟨"CapWallets$Rides", "findMates", "(LCapWallets$TapRow;I)V"⟩, 9), (⟨"CapWallets$Rides", "findFares", "(LCapWallets$TapRow;[I)V"⟩, 9), (⟨"CapWallets$Rides", "addUp", "(LCapWallets$TapRow;)V"⟩, 9), (⟨"CapWallets$TextReader", "takes", "(I)Z"⟩, 8), (⟨"CapWallets$TextReader", "goesOn", "(ZI)Z"⟩, 8), (⟨"CapWallets$TextReader", "startsNumber", "(II)Z"⟩, 8), (⟨"CapWallets$TextReader", "lengthensNumber", "(II)Z"⟩, 8), (⟨"CapWallets$TextReader", "endsTap", "(I)Z"⟩, 8), (⟨"CapWallets", "costOfAll", "()I"⟩, 8), (⟨"CapWallets", "countNumber", "(I)I"⟩, 8), (⟨"CapWallets", "weeksToSettleAnew", "()I"⟩, 8), (⟨"CapWallets", "tapProperty", "(II)I"⟩, 8), (⟨"CapWallets", "mixedWallet", "(JI)J"⟩, 8), (⟨"CapWallets", "dayNumber", "(III)I"⟩, 8), (⟨"CapWallets", "weekNumber", "(III)I"⟩, 8), (⟨"CapWallets", "raisedChange", "(I)I"⟩, 8)]
theorem lw_r1 : ∀ q ∈ lw_privs_1, lw_okq q := List.forall_mem_cons.mpr ⟨lw_p0, List.forall_mem_cons.mpr ⟨lw_p1, List.forall_mem_cons.mpr ⟨lw_p2, List.forall_mem_cons.mpr ⟨lw_p3, List.forall_mem_cons.mpr ⟨lw_p4, List.forall_mem_cons.mpr ⟨lw_p5, List.forall_mem_cons.mpr ⟨lw_p6, List.forall_mem_cons.mpr ⟨lw_p7, List.forall_mem_cons.mpr ⟨lw_p8, List.forall_mem_cons.mpr ⟨lw_p9, List.forall_mem_cons.mpr ⟨lw_p10, List.forall_mem_cons.mpr ⟨lw_p11, List.forall_mem_cons.mpr ⟨lw_p12, List.forall_mem_cons.mpr ⟨lw_p13, List.forall_mem_cons.mpr ⟨lw_p14, List.forall_mem_cons.mpr ⟨lw_p15, fun _ h => absurd h List.not_mem_nil⟩⟩⟩⟩⟩⟩⟩⟩⟩⟩⟩⟩⟩⟩⟩⟩
theorem lw_p16 : lw_okq (⟨"CapWallets", "tryTap", "(I)I"⟩, 8) := ⟨⟨by decide +kernel, by decide +kernel⟩, List.mem_of_getElem? (i := 19) (by decide +kernel), List.mem_of_getElem? (i := 422) (by decide +kernel), List.mem_of_getElem? (i := 423) (by decide +kernel)⟩
theorem lw_p17 : lw_okq (⟨"java/lang/Throwable", "fillInStackTrace", "(I)Ljava/lang/Throwable;"⟩, 6) := ⟨⟨by decide +kernel, by decide +kernel⟩, List.mem_of_getElem? (i := 508) (by decide +kernel), List.mem_of_getElem? (i := 506) (by decide +kernel), List.mem_of_getElem? (i := 507) (by decide +kernel)⟩
theorem lw_p18 : lw_okq (⟨"CapWallets$Saves", "slot", "(I)LCapWallets$State;"⟩, 3) := ⟨⟨by decide +kernel, by decide +kernel⟩, List.mem_of_getElem? (i := 136) (by decide +kernel), List.mem_of_getElem? (i := 558) (by decide +kernel), List.mem_of_getElem? (i := 559) (by decide +kernel)⟩
theorem lw_p19 : lw_okq (⟨"CapWallets", "readRides", "()V"⟩, 8) := ⟨⟨by decide +kernel, by decide +kernel⟩, List.mem_of_getElem? (i := 19) (by decide +kernel), List.mem_of_getElem? (i := 568) (by decide +kernel), List.mem_of_getElem? (i := 569) (by decide +kernel)⟩
theorem lw_p20 : lw_okq (⟨"CapWallets", "isPlace", "(I)Z"⟩, 8) := ⟨⟨by decide +kernel, by decide +kernel⟩, List.mem_of_getElem? (i := 19) (by decide +kernel), List.mem_of_getElem? (i := 580) (by decide +kernel), List.mem_of_getElem? (i := 581) (by decide +kernel)⟩
theorem lw_p21 : lw_okq (⟨"CapWallets", "refusal", "(III)I"⟩, 8) := ⟨⟨by decide +kernel, by decide +kernel⟩, List.mem_of_getElem? (i := 19) (by decide +kernel), List.mem_of_getElem? (i := 612) (by decide +kernel), List.mem_of_getElem? (i := 613) (by decide +kernel)⟩
theorem lw_p22 : lw_okq (⟨"CapWallets", "wouldRideWith", "(II)Z"⟩, 8) := ⟨⟨by decide +kernel, by decide +kernel⟩, List.mem_of_getElem? (i := 19) (by decide +kernel), List.mem_of_getElem? (i := 622) (by decide +kernel), List.mem_of_getElem? (i := 623) (by decide +kernel)⟩
theorem lw_p23 : lw_okq (⟨"CapWallets", "fillIn", "(III)V"⟩, 8) := ⟨⟨by decide +kernel, by decide +kernel⟩, List.mem_of_getElem? (i := 19) (by decide +kernel), List.mem_of_getElem? (i := 626) (by decide +kernel), List.mem_of_getElem? (i := 627) (by decide +kernel)⟩
theorem lw_p24 : lw_okq (⟨"CapWalletsModel", "fails", "(I)I"⟩, 13) := ⟨⟨by decide +kernel, by decide +kernel⟩, List.mem_of_getElem? (i := 748) (by decide +kernel), List.mem_of_getElem? (i := 811) (by decide +kernel), List.mem_of_getElem? (i := 812) (by decide +kernel)⟩
theorem lw_p25 : lw_okq (⟨"CapWalletsModel", "saves", "()V"⟩, 13) := ⟨⟨by decide +kernel, by decide +kernel⟩, List.mem_of_getElem? (i := 748) (by decide +kernel), List.mem_of_getElem? (i := 815) (by decide +kernel), List.mem_of_getElem? (i := 816) (by decide +kernel)⟩
theorem lw_p26 : lw_okq (⟨"CapWalletsModel", "comes", "(IIIIII)I"⟩, 13) := ⟨⟨by decide +kernel, by decide +kernel⟩, List.mem_of_getElem? (i := 748) (by decide +kernel), List.mem_of_getElem? (i := 819) (by decide +kernel), List.mem_of_getElem? (i := 820) (by decide +kernel)⟩
theorem lw_p27 : lw_okq (⟨"CapWalletsModel", "timeOf", "(I)I"⟩, 13) := ⟨⟨by decide +kernel, by decide +kernel⟩, List.mem_of_getElem? (i := 748) (by decide +kernel), List.mem_of_getElem? (i := 823) (by decide +kernel), List.mem_of_getElem? (i := 824) (by decide +kernel)⟩
theorem lw_p28 : lw_okq (⟨"CapWalletsModel", "of", "(II)I"⟩, 13) := ⟨⟨by decide +kernel, by decide +kernel⟩, List.mem_of_getElem? (i := 748) (by decide +kernel), List.mem_of_getElem? (i := 827) (by decide +kernel), List.mem_of_getElem? (i := 828) (by decide +kernel)⟩
theorem lw_p29 : lw_okq (⟨"CapWalletsModel", "isTap", "(I)Z"⟩, 13) := ⟨⟨by decide +kernel, by decide +kernel⟩, List.mem_of_getElem? (i := 748) (by decide +kernel), List.mem_of_getElem? (i := 835) (by decide +kernel), List.mem_of_getElem? (i := 836) (by decide +kernel)⟩
theorem lw_p30 : lw_okq (⟨"CapWalletsModel", "putAside", "()V"⟩, 13) := ⟨⟨by decide +kernel, by decide +kernel⟩, List.mem_of_getElem? (i := 748) (by decide +kernel), List.mem_of_getElem? (i := 843) (by decide +kernel), List.mem_of_getElem? (i := 844) (by decide +kernel)⟩
theorem lw_p31 : lw_okq (⟨"CapWalletsModel", "refuses", "(III)I"⟩, 13) := ⟨⟨by decide +kernel, by decide +kernel⟩, List.mem_of_getElem? (i := 748) (by decide +kernel), List.mem_of_getElem? (i := 847) (by decide +kernel), List.mem_of_getElem? (i := 848) (by decide +kernel)⟩
def lw_privs_2 : List (MethodName × Nat) := [(⟨"CapWallets", "tryTap", "(I)I"⟩, 8), (⟨"java/lang/Throwable", "fillInStackTrace", "(I)Ljava/lang/Throwable;"⟩, 6), (⟨"CapWallets$Saves", "slot", "(I)LCapWallets$State;"⟩, 3), (⟨"CapWallets", "readRides", "()V"⟩, 8), (⟨"CapWallets", "isPlace", "(I)Z"⟩, 8), (⟨"CapWallets", "refusal", "(III)I"⟩, 8), (⟨"CapWallets", "wouldRideWith", "(II)Z"⟩, 8), (⟨"CapWallets", "fillIn", "(III)V"⟩, 8), (⟨"CapWalletsModel", "fails", "(I)I"⟩, 13), (⟨"CapWalletsModel", "saves", "()V"⟩, 13), (⟨"CapWalletsModel", "comes", "(IIIIII)I"⟩, 13), (⟨"CapWalletsModel", "timeOf", "(I)I"⟩, 13), (⟨"CapWalletsModel", "of", "(II)I"⟩, 13), (⟨"CapWalletsModel", "isTap", "(I)Z"⟩, 13), (⟨"CapWalletsModel", "putAside", "()V"⟩, 13), (⟨"CapWalletsModel", "refuses", "(III)I"⟩, 13)]
theorem lw_r2 : ∀ q ∈ lw_privs_2, lw_okq q := List.forall_mem_cons.mpr ⟨lw_p16, List.forall_mem_cons.mpr ⟨lw_p17, List.forall_mem_cons.mpr ⟨lw_p18, List.forall_mem_cons.mpr ⟨lw_p19, List.forall_mem_cons.mpr ⟨lw_p20, List.forall_mem_cons.mpr ⟨lw_p21, List.forall_mem_cons.mpr ⟨lw_p22, List.forall_mem_cons.mpr ⟨lw_p23, List.forall_mem_cons.mpr ⟨lw_p24, List.forall_mem_cons.mpr ⟨lw_p25, List.forall_mem_cons.mpr ⟨lw_p26, List.forall_mem_cons.mpr ⟨lw_p27, List.forall_mem_cons.mpr ⟨lw_p28, List.forall_mem_cons.mpr ⟨lw_p29, List.forall_mem_cons.mpr ⟨lw_p30, List.forall_mem_cons.mpr ⟨lw_p31, fun _ h => absurd h List.not_mem_nil⟩⟩⟩⟩⟩⟩⟩⟩⟩⟩⟩⟩⟩⟩⟩⟩
theorem lw_p32 : lw_okq (⟨"CapWalletsModel", "laysRides", "()V"⟩, 13) := ⟨⟨by decide +kernel, by decide +kernel⟩, List.mem_of_getElem? (i := 748) (by decide +kernel), List.mem_of_getElem? (i := 851) (by decide +kernel), List.mem_of_getElem? (i := 852) (by decide +kernel)⟩
theorem lw_p33 : lw_okq (⟨"CapWalletsModel", "nextOf", "(I)I"⟩, 13) := ⟨⟨by decide +kernel, by decide +kernel⟩, List.mem_of_getElem? (i := 748) (by decide +kernel), List.mem_of_getElem? (i := 855) (by decide +kernel), List.mem_of_getElem? (i := 856) (by decide +kernel)⟩
theorem lw_p34 : lw_okq (⟨"CapWalletsModel", "takeBack", "()V"⟩, 13) := ⟨⟨by decide +kernel, by decide +kernel⟩, List.mem_of_getElem? (i := 748) (by decide +kernel), List.mem_of_getElem? (i := 859) (by decide +kernel), List.mem_of_getElem? (i := 860) (by decide +kernel)⟩
theorem lw_p35 : lw_okq (⟨"CapWalletsModel", "costs", "(II)I"⟩, 13) := ⟨⟨by decide +kernel, by decide +kernel⟩, List.mem_of_getElem? (i := 748) (by decide +kernel), List.mem_of_getElem? (i := 867) (by decide +kernel), List.mem_of_getElem? (i := 868) (by decide +kernel)⟩
theorem lw_p36 : lw_okq (⟨"CapWalletsModel", "overDays", "(III)I"⟩, 13) := ⟨⟨by decide +kernel, by decide +kernel⟩, List.mem_of_getElem? (i := 748) (by decide +kernel), List.mem_of_getElem? (i := 871) (by decide +kernel), List.mem_of_getElem? (i := 872) (by decide +kernel)⟩
theorem lw_p37 : lw_okq (⟨"CapWalletsModel", "ofDay", "(III)I"⟩, 13) := ⟨⟨by decide +kernel, by decide +kernel⟩, List.mem_of_getElem? (i := 748) (by decide +kernel), List.mem_of_getElem? (i := 875) (by decide +kernel), List.mem_of_getElem? (i := 876) (by decide +kernel)⟩
theorem lw_p38 : lw_okq (⟨"CapWalletsModel", "begins", "(I)Z"⟩, 13) := ⟨⟨by decide +kernel, by decide +kernel⟩, List.mem_of_getElem? (i := 748) (by decide +kernel), List.mem_of_getElem? (i := 879) (by decide +kernel), List.mem_of_getElem? (i := 880) (by decide +kernel)⟩
theorem lw_p39 : lw_okq (⟨"CapWalletsModel", "fare", "(I)I"⟩, 13) := ⟨⟨by decide +kernel, by decide +kernel⟩, List.mem_of_getElem? (i := 748) (by decide +kernel), List.mem_of_getElem? (i := 883) (by decide +kernel), List.mem_of_getElem? (i := 884) (by decide +kernel)⟩
theorem lw_p40 : lw_okq (⟨"CapWalletsModel", "entersLedger", "(III)V"⟩, 13) := ⟨⟨by decide +kernel, by decide +kernel⟩, List.mem_of_getElem? (i := 748) (by decide +kernel), List.mem_of_getElem? (i := 887) (by decide +kernel), List.mem_of_getElem? (i := 888) (by decide +kernel)⟩
theorem lw_p41 : lw_okq (⟨"CapWalletsModel", "readsAll", "()V"⟩, 13) := ⟨⟨by decide +kernel, by decide +kernel⟩, List.mem_of_getElem? (i := 748) (by decide +kernel), List.mem_of_getElem? (i := 911) (by decide +kernel), List.mem_of_getElem? (i := 912) (by decide +kernel)⟩
theorem lw_p42 : lw_okq (⟨"CapWalletsModel", "readsTap", "()V"⟩, 13) := ⟨⟨by decide +kernel, by decide +kernel⟩, List.mem_of_getElem? (i := 748) (by decide +kernel), List.mem_of_getElem? (i := 915) (by decide +kernel), List.mem_of_getElem? (i := 916) (by decide +kernel)⟩
theorem lw_p43 : lw_okq (⟨"CapWalletsModel", "number", "(I)I"⟩, 13) := ⟨⟨by decide +kernel, by decide +kernel⟩, List.mem_of_getElem? (i := 748) (by decide +kernel), List.mem_of_getElem? (i := 919) (by decide +kernel), List.mem_of_getElem? (i := 920) (by decide +kernel)⟩
theorem lw_p44 : lw_okq (⟨"CapWalletsModel", "sign", "()I"⟩, 13) := ⟨⟨by decide +kernel, by decide +kernel⟩, List.mem_of_getElem? (i := 748) (by decide +kernel), List.mem_of_getElem? (i := 923) (by decide +kernel), List.mem_of_getElem? (i := 924) (by decide +kernel)⟩
theorem lw_p45 : lw_okq (⟨"CapWalletsModel", "wants", "(I)V"⟩, 13) := ⟨⟨by decide +kernel, by decide +kernel⟩, List.mem_of_getElem? (i := 748) (by decide +kernel), List.mem_of_getElem? (i := 927) (by decide +kernel), List.mem_of_getElem? (i := 928) (by decide +kernel)⟩
theorem lw_p46 : lw_okq (⟨"CapWalletsModel", "tellsTap", "(II)I"⟩, 13) := ⟨⟨by decide +kernel, by decide +kernel⟩, List.mem_of_getElem? (i := 748) (by decide +kernel), List.mem_of_getElem? (i := 943) (by decide +kernel), List.mem_of_getElem? (i := 944) (by decide +kernel)⟩
theorem lw_p47 : lw_okq (⟨"CapWalletsModel", "tellsWeek", "(III)I"⟩, 13) := ⟨⟨by decide +kernel, by decide +kernel⟩, List.mem_of_getElem? (i := 748) (by decide +kernel), List.mem_of_getElem? (i := 955) (by decide +kernel), List.mem_of_getElem? (i := 956) (by decide +kernel)⟩
def lw_privs_3 : List (MethodName × Nat) := [(⟨"CapWalletsModel", "laysRides", "()V"⟩, 13), (⟨"CapWalletsModel", "nextOf", "(I)I"⟩, 13), (⟨"CapWalletsModel", "takeBack", "()V"⟩, 13), (⟨"CapWalletsModel", "costs", "(II)I"⟩, 13), (⟨"CapWalletsModel", "overDays", "(III)I"⟩, 13), (⟨"CapWalletsModel", "ofDay", "(III)I"⟩, 13), (⟨"CapWalletsModel", "begins", "(I)Z"⟩, 13), (⟨"CapWalletsModel", "fare", "(I)I"⟩, 13), (⟨"CapWalletsModel", "entersLedger", "(III)V"⟩, 13), (⟨"CapWalletsModel", "readsAll", "()V"⟩, 13), (⟨"CapWalletsModel", "readsTap", "()V"⟩, 13), (⟨"CapWalletsModel", "number", "(I)I"⟩, 13), (⟨"CapWalletsModel", "sign", "()I"⟩, 13), (⟨"CapWalletsModel", "wants", "(I)V"⟩, 13), (⟨"CapWalletsModel", "tellsTap", "(II)I"⟩, 13), (⟨"CapWalletsModel", "tellsWeek", "(III)I"⟩, 13)]
theorem lw_r3 : ∀ q ∈ lw_privs_3, lw_okq q := List.forall_mem_cons.mpr ⟨lw_p32, List.forall_mem_cons.mpr ⟨lw_p33, List.forall_mem_cons.mpr ⟨lw_p34, List.forall_mem_cons.mpr ⟨lw_p35, List.forall_mem_cons.mpr ⟨lw_p36, List.forall_mem_cons.mpr ⟨lw_p37, List.forall_mem_cons.mpr ⟨lw_p38, List.forall_mem_cons.mpr ⟨lw_p39, List.forall_mem_cons.mpr ⟨lw_p40, List.forall_mem_cons.mpr ⟨lw_p41, List.forall_mem_cons.mpr ⟨lw_p42, List.forall_mem_cons.mpr ⟨lw_p43, List.forall_mem_cons.mpr ⟨lw_p44, List.forall_mem_cons.mpr ⟨lw_p45, List.forall_mem_cons.mpr ⟨lw_p46, List.forall_mem_cons.mpr ⟨lw_p47, fun _ h => absurd h List.not_mem_nil⟩⟩⟩⟩⟩⟩⟩⟩⟩⟩⟩⟩⟩⟩⟩⟩
theorem lw_p48 : lw_okq (⟨"CapWalletsModel", "counts", "(I)I"⟩, 13) := ⟨⟨by decide +kernel, by decide +kernel⟩, List.mem_of_getElem? (i := 748) (by decide +kernel), List.mem_of_getElem? (i := 963) (by decide +kernel), List.mem_of_getElem? (i := 964) (by decide +kernel)⟩
theorem lw_p49 : lw_okq (⟨"CapWalletsModel", "overWeeks", "(I)I"⟩, 13) := ⟨⟨by decide +kernel, by decide +kernel⟩, List.mem_of_getElem? (i := 748) (by decide +kernel), List.mem_of_getElem? (i := 967) (by decide +kernel), List.mem_of_getElem? (i := 968) (by decide +kernel)⟩
theorem lw_p50 : lw_okq (⟨"CapWalletsModel", "alone", "()I"⟩, 13) := ⟨⟨by decide +kernel, by decide +kernel⟩, List.mem_of_getElem? (i := 748) (by decide +kernel), List.mem_of_getElem? (i := 971) (by decide +kernel), List.mem_of_getElem? (i := 972) (by decide +kernel)⟩
theorem lw_p51 : lw_okq (⟨"CapWalletsModel", "unsettled", "()I"⟩, 13) := ⟨⟨by decide +kernel, by decide +kernel⟩, List.mem_of_getElem? (i := 748) (by decide +kernel), List.mem_of_getElem? (i := 975) (by decide +kernel), List.mem_of_getElem? (i := 976) (by decide +kernel)⟩
theorem lw_p52 : lw_okq (⟨"CapWalletsModel", "entry", "(III)I"⟩, 13) := ⟨⟨by decide +kernel, by decide +kernel⟩, List.mem_of_getElem? (i := 748) (by decide +kernel), List.mem_of_getElem? (i := 983) (by decide +kernel), List.mem_of_getElem? (i := 984) (by decide +kernel)⟩
theorem lw_p53 : lw_okq (⟨"CapWalletsModel", "would", "(IIIII)I"⟩, 13) := ⟨⟨by decide +kernel, by decide +kernel⟩, List.mem_of_getElem? (i := 748) (by decide +kernel), List.mem_of_getElem? (i := 991) (by decide +kernel), List.mem_of_getElem? (i := 992) (by decide +kernel)⟩
theorem lw_p54 : lw_okq (⟨"CapWalletsModel", "leakyOne", "()I"⟩, 13) := ⟨⟨by decide +kernel, by decide +kernel⟩, List.mem_of_getElem? (i := 748) (by decide +kernel), List.mem_of_getElem? (i := 1003) (by decide +kernel), List.mem_of_getElem? (i := 1004) (by decide +kernel)⟩
theorem lw_p55 : lw_okq (⟨"CapWalletsModel", "least", "()I"⟩, 13) := ⟨⟨by decide +kernel, by decide +kernel⟩, List.mem_of_getElem? (i := 748) (by decide +kernel), List.mem_of_getElem? (i := 1011) (by decide +kernel), List.mem_of_getElem? (i := 1012) (by decide +kernel)⟩
theorem lw_p56 : lw_okq (⟨"CapWalletsModel", "share", "()D"⟩, 13) := ⟨⟨by decide +kernel, by decide +kernel⟩, List.mem_of_getElem? (i := 748) (by decide +kernel), List.mem_of_getElem? (i := 1019) (by decide +kernel), List.mem_of_getElem? (i := 1020) (by decide +kernel)⟩
theorem lw_p57 : lw_okq (⟨"CapWalletsModel", "hashes", "(J)V"⟩, 13) := ⟨⟨by decide +kernel, by decide +kernel⟩, List.mem_of_getElem? (i := 748) (by decide +kernel), List.mem_of_getElem? (i := 1028) (by decide +kernel), List.mem_of_getElem? (i := 1029) (by decide +kernel)⟩
theorem lw_p58 : lw_okq (⟨"CapWalletsModel", "hashesWallet", "(I)V"⟩, 13) := ⟨⟨by decide +kernel, by decide +kernel⟩, List.mem_of_getElem? (i := 748) (by decide +kernel), List.mem_of_getElem? (i := 1033) (by decide +kernel), List.mem_of_getElem? (i := 1034) (by decide +kernel)⟩
theorem lw_p59 : lw_okq (⟨"CapWalletsModel", "hashesDay", "(II)V"⟩, 13) := ⟨⟨by decide +kernel, by decide +kernel⟩, List.mem_of_getElem? (i := 748) (by decide +kernel), List.mem_of_getElem? (i := 1037) (by decide +kernel), List.mem_of_getElem? (i := 1038) (by decide +kernel)⟩
def lw_privs_4 : List (MethodName × Nat) := [(⟨"CapWalletsModel", "counts", "(I)I"⟩, 13), (⟨"CapWalletsModel", "overWeeks", "(I)I"⟩, 13), (⟨"CapWalletsModel", "alone", "()I"⟩, 13), (⟨"CapWalletsModel", "unsettled", "()I"⟩, 13), (⟨"CapWalletsModel", "entry", "(III)I"⟩, 13), (⟨"CapWalletsModel", "would", "(IIIII)I"⟩, 13), (⟨"CapWalletsModel", "leakyOne", "()I"⟩, 13), (⟨"CapWalletsModel", "least", "()I"⟩, 13), (⟨"CapWalletsModel", "share", "()D"⟩, 13), (⟨"CapWalletsModel", "hashes", "(J)V"⟩, 13), (⟨"CapWalletsModel", "hashesWallet", "(I)V"⟩, 13), (⟨"CapWalletsModel", "hashesDay", "(II)V"⟩, 13)]
theorem lw_r4 : ∀ q ∈ lw_privs_4, lw_okq q := List.forall_mem_cons.mpr ⟨lw_p48, List.forall_mem_cons.mpr ⟨lw_p49, List.forall_mem_cons.mpr ⟨lw_p50, List.forall_mem_cons.mpr ⟨lw_p51, List.forall_mem_cons.mpr ⟨lw_p52, List.forall_mem_cons.mpr ⟨lw_p53, List.forall_mem_cons.mpr ⟨lw_p54, List.forall_mem_cons.mpr ⟨lw_p55, List.forall_mem_cons.mpr ⟨lw_p56, List.forall_mem_cons.mpr ⟨lw_p57, List.forall_mem_cons.mpr ⟨lw_p58, List.forall_mem_cons.mpr ⟨lw_p59, fun _ h => absurd h List.not_mem_nil⟩⟩⟩⟩⟩⟩⟩⟩⟩⟩⟩⟩
def lw_privs : List (MethodName × Nat) := lw_privs_1 ++ (lw_privs_2 ++ (lw_privs_3 ++ (lw_privs_4)))
def lw_tbl : List Cond := k2_sels lw_privs ++ tables_1
theorem lw_privs_ok : ∀ q ∈ lw_privs, lw_okq q := by
  show ∀ q ∈ lw_privs_1 ++ (lw_privs_2 ++ (lw_privs_3 ++ (lw_privs_4))), lw_okq q
  exact List.forall_mem_append.mpr ⟨lw_r1, List.forall_mem_append.mpr ⟨lw_r2, List.forall_mem_append.mpr ⟨lw_r3, lw_r4⟩⟩⟩
/-- the streams that the claim lets the run draw from -/
abbrev lw_cs : List Choice := [Jvm.Choice.named "NaN.bits"]
theorem lw_bits : nanBits ∈ lw_cs := by first | decide | exact List.mem_cons_self | simp [lw_cs, nanBits]
end
section
/-! ===== BEGIN words of one list among another's, by their places ===== -/
theorem goodIn_r {big : List Cond} (ws : List Cond) (ps : List Nat) (hp : ws = ps.filterMap (fun i => big[i]?)) (h : ws.all goodWord = true) : GoodIn big ws := by
  intro w hw
  have h1 := List.all_eq_true.mp h w hw
  rw [hp] at hw
  obtain ⟨i, -, hi⟩ := List.mem_filterMap.mp hw
  have hm : w ∈ big := by first | exact List.mem_of_getElem? hi | exact List.getElem?_mem hi
  exact ⟨hm, good_of_word h1⟩
theorem goodIn_app {big a b : List Cond} (ha : GoodIn big a) (hb : GoodIn big b) : GoodIn big (a ++ b) := fun w h => (List.mem_append.mp h).elim (ha w) (hb w)
theorem goodIn_ca {big a b : List Cond} {c : Cond} (ha : GoodIn big (c :: a)) (hb : GoodIn big b) : GoodIn big (c :: (a ++ b)) := fun w h => (List.mem_cons.mp h).elim (fun e => ha w (List.mem_cons.mpr (Or.inl e))) (fun h => (List.mem_append.mp h).elim (fun h => ha w (List.mem_cons.mpr (Or.inr h))) (hb w))
theorem goodIn_sub {big ws : List Cond} (hm : ∀ w ∈ ws, w ∈ big) (h : ws.all goodWord = true) : GoodIn big ws := fun w hw => ⟨hm w hw, good_of_word (List.all_eq_true.mp h w hw)⟩
/-! ===== END ===== -/

/-! ===== BEGIN exceptions that leave a method, and their catching by the caller (launches without stack traces) ===== -/
section VXA
/-! The laws vx_back, vx_callV, vx_callS, vx_callSW, vx_throw0, vx_throwS follow proofs of the library, with one case more: JvmDerived/Free/Laws.lean (Back.of_free), Shelf42/LK1.lean (callV, callS), Shelf/KitTraced.lean (throwNew0V, throwNewS). -/
/-- where a method has thrown q: the class by its name, the cell, what was written, the world -/
def vx_T (XC : String → State → State → Prop) (st : State) (q : Addr) (t : State) (mc ms : Nat) (free : Addr → Prop) : Prop :=
  ∃ (E : String) (ce : Cell) (L : List Loc), XC E st t ∧ t.heap[q]? = some ce ∧ ce.vm = .none ∧ st.vm.findClass E = some ce.cls ∧ st.WarmedH t.vm ∧ st.sameButNew ({ t with vm := st.vm } : State) L mc ms ∧ ∀ z ∈ L, free z.base
def vx_Q (Qc : Array Value → State → Outcome → State → Prop) (XC : String → State → State → Prop) (mc ms : Nat) (free : Addr → Prop) : Array Value → State → Outcome → State → Prop := fun a st o t =>
  (Qc a st o t ∧ ∃ L, FrameEnd st o t L mc ms ∧ ∀ q ∈ L, free q.base) ∨ ∃ q, o = .threw q ∧ vx_T XC st q t mc ms free
/-- a callee that returns or throws -/
def vx_Met (l : Launch) (y : MethodName) (ws : List Cond) (rm : Room) (Pc : Array Value → State → Prop) (Qc : Array Value → State → Outcome → State → Prop) (XC : String → State → State → Prop) (mc ms : Nat) (free : Addr → Prop) : Prop :=
  MetFree l y (headSpec ws rm) Pc (fun _ _ _ _ _ => True) (vx_Q Qc XC mc ms free)
def vx_Post (XC : String → State → State → Prop) (mc ms : Nat) (free : Addr → Prop) : Pt → Array Value → Addr → Pt → Prop := fun A a q B =>
  ∃ (g : JFrame) (mk : MethodId) (t : State) (L : List Loc) (E : String) (ce : Cell), B.U.heap = t.heap ∧ B.U.vm = t.vm ∧ XC E (A.U.calling g mk a) t ∧ t.heap[q]? = some ce ∧ ce.vm = .none ∧ A.U.vm.findClass E = some ce.cls ∧ B.locs = A.locs ++ L ∧ (∀ z ∈ L, free z.base) ∧ B.cells = A.cells + mc ∧ B.slots = A.slots + ms
def vx_Back (l : Launch) (R : Room) (p : Program) (e : Env) (below : List Frame) (s : State) (sargs : Array Value) (y : MethodName) (len W9 : Nat)
    (Pre : Pt → Array Value → Prop) (Post : Pt → Array Value → Option Value → Pt → Prop) (PostX : Pt → Array Value → Addr → Pt → Prop) : Prop :=
  ∀ (m : MethodId) (meth : Method) (c : Code) (A : Pt) (g : JFrame) (ig : Instr) (mk : MethodId) (a : Array Value),
    Stand p l e R s m sargs below meth c A.U A.locs A.cells A.slots → g.method = m → g.locals.size = c.maxLocals → decode c.code g.pc = .ok (ig, len) →
    2 * g.monitorRoom + (g.stack.map fun v => v.category).sum ≤ W9 → A.U.methodNamed? y = some mk → Pre A a →
    (∃ (v : Option Value) (B : Pt), Stand p l e R s m sargs below meth c B.U B.locs B.cells B.slots ∧ Post A a v B ∧
      Steps p.tables e below (doInvoke e (A.U.setTop g) [] mk a).1 (B.U.setTop { g with pc := g.pc + len, stack := v.toList ++ g.stack })) ∨
    (∃ (q : Addr) (B : Pt), Stand p l e R s m sargs below meth c B.U B.locs B.cells B.slots ∧ PostX A a q B ∧
      Steps p.tables e below (doInvoke e (A.U.setTop g) [] mk a).1 ((B.U.setTop g).pushFrame (.throwing q)))
section Payer
variable {l : Launch} {R : Room} {p : Program} {e : Env} {below : List Frame} {s : State} {sargs : Array Value} {y : MethodName} {len W9 : Nat}
theorem vx_back {ws : List Cond} {rm : Room} {Pc : Array Value → State → Prop} {Qc : Array Value → State → Outcome → State → Prop} {XC : String → State → State → Prop} {mc ms : Nat} {free : Addr → Prop} {bytes : ByteArray} {maxL : Nat} {ret : Option FieldType}
    (hM : vx_Met l y ws rm Pc Qc XC mc ms free) (hblind : FrameBlind Pc) (hrc : rm.cells = mc) (hrs : rm.slots = ms)
    (hframes : rm.frames + 1 ≤ R.frames) (hlocals : W9 + (maxL + 11) + rm.locals ≤ R.locals)
    (hws : ∀ w ∈ ws, ∀ a' U, s.WarmedH U.vm → w.before a' U = true) (hcode : Cond.code y bytes maxL ret ∈ ws) (hinit : ∀ a' U, s.WarmedH U.vm → (Cond.initialized y.cls).before a' U = true) :
    vx_Back l R p e below s sargs y len W9 (PreOf R mc ms Pc) (PostOf Qc mc ms free) (vx_Post XC mc ms free) := by
  intro m meth c A g ig mk a X hg hsize hdg hW hn hp
  have h1 : (headSpec ws rm).pre.before a A.U = true := atoms_intro fun w hw => hws w hw _ _ X.warmed
  have h2 : (Cond.code y bytes maxL ret).before a A.U = true := hws _ hcode _ _ X.warmed
  have h3 : (Cond.initialized y.cls).before a A.U = true := hinit _ _ X.warmed
  have h4 : A.cells + (headSpec ws rm).room.cells ≤ R.cells := by rw [show (headSpec ws rm).room.cells = mc from hrc]; exact hp.1
  have h5 : A.slots + (headSpec ws rm).room.slots ≤ R.slots := by rw [show (headSpec ws rm).room.slots = ms from hrs]; exact hp.2.1
  have hPc : Pc a (A.U.calling g mk a) := hblind _ _ _ _ hp.2.2
  obtain ⟨U, Ls, c0, s0⟩ := A
  dsimp only [Pt.U, Pt.locs, Pt.cells, Pt.slots] at h1 h2 h3 h4 h5 X hn hPc ⊢
  obtain ⟨methY, cY, hmY, hcY, -, hlY, -, -, -, -⟩ := Cond.code_spec hn h2
  obtain ⟨kY, hkY, -⟩ := className_of_methodNamed hn
  have hinitY : kY.init = .initialized := Cond.initialized_spec (findClass_of_methodNamed hn) hkY h3
  have h : At U g.method c below := by rw [hg]; exact X.here
  have hlocals9 : W9 + (maxL + 11) + (headSpec ws rm).room.locals ≤ R.locals := hlocals
  have happ : (headSpec ws rm).appliesLoose y e.platform (U.calling g mk a) = true :=
    Spec.appliesLoose_calling (g := g) h hdg hn hkY hinitY
      (X.room_calling (g := g) (R' := (headSpec ws rm).room) hsize hmY hcY hframes (by rw [hlY]; omega) h4 h5) h1
  obtain ⟨mid, hmid⟩ := h.above
  have hfr : (U.setTop g).frames = (.java g :: mid) ++ below := by rw [State.frames_setTop' g h.top, hmid]; rfl
  obtain ⟨o, s₂, hsteps, -, hend, hq⟩ := Steps.callFree hM p X.admits X.cas X.clock (acts := []) hfr happ hPc trivial
  have hq' : vx_Q Qc XC mc ms free a (U.calling g mk a) o s₂ := hq
  rw [State.frames_setTop' g h.top] at hend
  obtain ⟨g₀, hg0⟩ := Option.isSome_iff_exists.mp h.top
  obtain ⟨r, hr⟩ := State.topJava?_eq_some.mp hg0
  have hr' : (({ U with heap := s₂.heap, slotsUsed := s₂.slotsUsed } : State).setVm s₂.vm).frames = .java g₀ :: r := hr
  rcases hq' with ⟨hqc, L, hfe, hL⟩ | ⟨q, rfl, E, ce, L, hx, hce, hcv, hcl, hW₂, hsm, hL⟩
  · obtain ⟨⟨v, rfl⟩, hW₂, e2, q2, q3, q4, q5, q6⟩ := id hfe
    have e3 : s₂ = ({ (U.calling g mk a).setFrames s₂.frames with heap := s₂.heap, slotsUsed := s₂.slotsUsed } : State).setVm s₂.vm := by
      have : s₂ = ({ s₂ with vm := (U.calling g mk a).vm } : State).setVm s₂.vm := rfl
      rw [e2] at this
      exact this
    obtain ⟨c₂, i₂, len₂, hc₂, hd₂, hf₂⟩ := hend
    have hW' : U.WarmedH s₂.vm := hW₂
    have hcc : c₂ = c := by
      have h1 : s₂.code? g.method = U.code? g.method := by
        rw [State.code?_eq, State.code?_eq, hW'.alike.method?]
      exact Option.some.inj (hc₂.symm.trans (h1.trans h.code))
    subst hcc
    have hlen : len₂ = len := by rw [hdg] at hd₂; cases hd₂; rfl
    subst hlen
    have hs₂ : s₂ = (({ U with heap := s₂.heap, slotsUsed := s₂.slotsUsed } : State).setVm s₂.vm).setTop { g with pc := g.pc + len₂, stack := v.toList ++ g.stack } := by
      refine e3.trans ?_
      rw [hf₂, State.calling_eq h.top, State.setFrames_setFrames, State.setTop_of_frames _ hr', hr]
      rfl
    have hsame : U.sameButNew ({ U with heap := s₂.heap, slotsUsed := s₂.slotsUsed } : State) L mc ms := by
      refine ⟨?_, q2, q3, q4, q5, q6⟩
      obtain ⟨t, ht, -⟩ := State.frames_cons hr
      show ({ U with heap := s₂.heap, slotsUsed := s₂.slotsUsed } : State) = { U.setFrames U.frames with heap := s₂.heap, slotsUsed := s₂.slotsUsed }
      rw [State.setFrames_self ht]
    subst hg
    refine Or.inl ⟨v, ⟨(({ U with heap := s₂.heap, slotsUsed := s₂.slotsUsed } : State).setVm s₂.vm), Ls ++ L, c0 + mc, s0 + ms⟩,
      ⟨X.admits, X.cas, X.clock, X.frames, X.room, X.hears, X.method, X.code, (X.here.setHeapUsed s₂.heap s₂.slotsUsed).setVm hW'.alike, X.tail, State.WarmedH.trans X.warmed hW', X.limits, X.bytes, X.same.trans (hsame.setVm s.vm)⟩,
      ⟨g, mk, s₂, L, rfl, rfl, hqc, rfl, hL, rfl, rfl⟩, ?_⟩
    show Steps p.tables e below _ ((({ U with heap := s₂.heap, slotsUsed := s₂.slotsUsed } : State).setVm s₂.vm).setTop { g with pc := g.pc + len₂, stack := v.toList ++ g.stack })
    rw [← hs₂]
    exact hsteps
  · obtain ⟨e2, q2, q3, q4, q5, q6⟩ := id hsm
    have e3 : s₂ = ({ (U.calling g mk a).setFrames s₂.frames with heap := s₂.heap, slotsUsed := s₂.slotsUsed } : State).setVm s₂.vm := by
      have : s₂ = ({ s₂ with vm := (U.calling g mk a).vm } : State).setVm s₂.vm := rfl
      rw [e2] at this
      exact this
    have hf₂ : s₂.frames = .throwing q :: .java g :: U.frames.tail := hend
    have hW' : U.WarmedH s₂.vm := hW₂
    have hs₂ : s₂ = ((({ U with heap := s₂.heap, slotsUsed := s₂.slotsUsed } : State).setVm s₂.vm).setTop g).pushFrame (.throwing q) := by
      refine e3.trans ?_
      rw [hf₂, State.calling_eq h.top, State.setFrames_setFrames, State.pushFrame, State.frames_setTop _ hr', State.setTop_of_frames _ hr', State.setFrames_setFrames, hr]
      rfl
    have hsame : U.sameButNew ({ U with heap := s₂.heap, slotsUsed := s₂.slotsUsed } : State) L mc ms := by
      refine ⟨?_, q2, q3, q4, q5, q6⟩
      obtain ⟨t, ht, -⟩ := State.frames_cons hr
      show ({ U with heap := s₂.heap, slotsUsed := s₂.slotsUsed } : State) = { U.setFrames U.frames with heap := s₂.heap, slotsUsed := s₂.slotsUsed }
      rw [State.setFrames_self ht]
    subst hg
    refine Or.inr ⟨q, ⟨(({ U with heap := s₂.heap, slotsUsed := s₂.slotsUsed } : State).setVm s₂.vm), Ls ++ L, c0 + mc, s0 + ms⟩,
      ⟨X.admits, X.cas, X.clock, X.frames, X.room, X.hears, X.method, X.code, (X.here.setHeapUsed s₂.heap s₂.slotsUsed).setVm hW'.alike, X.tail, State.WarmedH.trans X.warmed hW', X.limits, X.bytes, X.same.trans (hsame.setVm s.vm)⟩,
      ⟨g, mk, s₂, L, E, ce, rfl, rfl, hx, hce, hcv, hcl, rfl, hL, rfl, rfl⟩, ?_⟩
    show Steps p.tables e below _ (((({ U with heap := s₂.heap, slotsUsed := s₂.slotsUsed } : State).setVm s₂.vm).setTop g).pushFrame (.throwing q))
    rw [← hs₂]
    exact hsteps
end Payer
section Calls
variable {p : Program} {l : Launch} {e : Env} {R : Room} {s : State} {m : MethodId} {args : Array Value} {below : List Frame} {meth : Method} {c : Code} {T : State} {locs : List Loc} {cells slots : Nat}
theorem vx_callV (X : Stand p l e R s m args below meth c T locs cells slots) (hexec : p.tables.exec = Jvm.exec) {own C : String} {index : Nat} {y : MethodName} {bytes : ByteArray} {maxL : Nat} {ret : Option FieldType}
    (hown : s.vm.findClass own = some m.cls) (hlink : (Cond.methodLink own index y).before args s = true) (hinst : (Cond.instanceMethod y).before args s = true) (hsel : (Cond.selects C y y).before args s = true)
    (hcode : (Cond.code y bytes maxL ret).before args s = true) (hy : y.cls ≠ "java/lang/invoke/MethodHandle" ∧ y.cls ≠ "java/lang/invoke/VarHandle")
    {W9 : Nat} {Pre : Pt → Array Value → Prop} {Post : Pt → Array Value → Option Value → Pt → Prop} {PostX : Pt → Array Value → Addr → Pt → Prop} (hK : vx_Back l R p e below s args y 3 W9 Pre Post PostX)
    {b : Addr} {cellB : Cell} (hcell : T.heap[b]? = some cellB) (hobj : cellB.vm.isStatics = false) (hcls : s.vm.findClass C = some cellB.cls)
    {g : JFrame} (hg : g.method = m) (hsize : g.locals.size = c.maxLocals) {argsL rest : List Value} (hlen : ∀ sig, parseMethodDescriptor y.desc = some sig → argsL.length = sig.parameters.length)
    (hstack : g.stack = argsL.reverse ++ .ref b :: rest) (hW : 2 * g.monitorRoom + (rest.map fun v => v.category).sum ≤ W9) (hdg : decode c.code g.pc = .ok (.invokevirtual index, 3))
    (hpre : ∀ vm₁, s.WarmedH vm₁ → Pre ⟨T.setVm vm₁, locs, cells, slots⟩ (Value.ref b :: argsL).toArray) :
    (∃ (v : Option Value) (vm₁ : Vm) (B : Pt), s.WarmedH vm₁ ∧ Stand p l e R s m args below meth c B.U B.locs B.cells B.slots ∧ Post ⟨T.setVm vm₁, locs, cells, slots⟩ (Value.ref b :: argsL).toArray v B ∧
      ∀ target, Steps p.tables e below (B.U.setTop { g with pc := g.pc + 3, stack := v.toList ++ rest }) target → Steps p.tables e below (T.setTop g) target) ∨
    (∃ (q : Addr) (vm₁ : Vm) (B : Pt), s.WarmedH vm₁ ∧ Stand p l e R s m args below meth c B.U B.locs B.cells B.slots ∧ PostX ⟨T.setVm vm₁, locs, cells, slots⟩ (Value.ref b :: argsL).toArray q B ∧
      Steps p.tables e below (T.setTop g) ((B.U.setTop { g with stack := rest }).pushFrame (.throwing q))) := by
  obtain ⟨mk, methM, hnamed, hmethM, hstM, habM⟩ := Cond.instanceMethod_spec hinst
  obtain ⟨methM', cM, hmethM', -, -, -, -, -, -, hsigM⟩ := Cond.code_spec hnamed hcode
  cases hmethM.symm.trans hmethM'
  obtain ⟨c2, r2, m2, q1, q2, q3, q4, kP, hkP, hkPi⟩ := Cond.selects_spec hsel
  cases hcls.symm.trans q1
  cases (State.methodFound?_of_named hnamed hy).symm.trans q2
  cases hnamed.symm.trans q3
  have hselP : selectMethod e.platform s.vm cellB.cls mk = .method mk := by rw [Launch.admits_selectMethod X.admits]; exact q4
  obtain ⟨vm₁, X₁, hstep₁⟩ := X.invokevirtual hexec hown hlink hnamed hmethM hstM hkP hkPi hy (a := b) (cell := cellB) hcell
    (fun z h => by rw [h] at hobj; cases hobj) hselP hmethM habM hkP hkPi (g := g) hg (argsL := argsL) (rest := rest) (hlen _ hsigM) hstack hdg
  rcases hK m meth c ⟨T.setVm vm₁, locs, cells, slots⟩ { g with stack := rest } (.invokevirtual index) mk (Value.ref b :: argsL).toArray X₁ hg hsize hdg hW (X₁.named hnamed) (hpre vm₁ X₁.warmed) with ⟨v, B, X', hpost, hsteps⟩ | ⟨q, B, X', hpost, hsteps⟩
  · exact Or.inl ⟨v, vm₁, B, X₁.warmed, X', hpost, fun target h => hstep₁ _ fun acts => by rw [doInvoke_state]; exact hsteps.trans h⟩
  · exact Or.inr ⟨q, vm₁, B, X₁.warmed, X', hpost, hstep₁ _ fun acts => by rw [doInvoke_state]; exact hsteps⟩
theorem vx_callS (X : Stand p l e R s m args below meth c T locs cells slots) (hexec : p.tables.exec = Jvm.exec) {own : String} {index : Nat} {y : MethodName} {bytes : ByteArray} {maxL : Nat} {ret : Option FieldType}
    (hown : s.vm.findClass own = some m.cls) (hlink : (Cond.methodLink own index y).before args s = true) (hstat : (Cond.static y).before args s = true) (hinit : (Cond.initialized y.cls).before args s = true)
    (hcode : (Cond.code y bytes maxL ret).before args s = true) (hy : y.cls ≠ "java/lang/invoke/MethodHandle" ∧ y.cls ≠ "java/lang/invoke/VarHandle")
    {W9 : Nat} {Pre : Pt → Array Value → Prop} {Post : Pt → Array Value → Option Value → Pt → Prop} {PostX : Pt → Array Value → Addr → Pt → Prop} (hK : vx_Back l R p e below s args y 3 W9 Pre Post PostX)
    {g : JFrame} (hg : g.method = m) (hsize : g.locals.size = c.maxLocals) {argsL rest : List Value} (hlen : ∀ sig, parseMethodDescriptor y.desc = some sig → argsL.length = sig.parameters.length)
    (hstack : g.stack = argsL.reverse ++ rest) (hW : 2 * g.monitorRoom + (rest.map fun v => v.category).sum ≤ W9) (hdg : decode c.code g.pc = .ok (.invokestatic index, 3))
    (hpre : ∀ vm₁, s.WarmedH vm₁ → Pre ⟨T.setVm vm₁, locs, cells, slots⟩ argsL.toArray) :
    (∃ (v : Option Value) (vm₁ : Vm) (B : Pt), s.WarmedH vm₁ ∧ Stand p l e R s m args below meth c B.U B.locs B.cells B.slots ∧ Post ⟨T.setVm vm₁, locs, cells, slots⟩ argsL.toArray v B ∧
      ∀ target, Steps p.tables e below (B.U.setTop { g with pc := g.pc + 3, stack := v.toList ++ rest }) target → Steps p.tables e below (T.setTop g) target) ∨
    (∃ (q : Addr) (vm₁ : Vm) (B : Pt), s.WarmedH vm₁ ∧ Stand p l e R s m args below meth c B.U B.locs B.cells B.slots ∧ PostX ⟨T.setVm vm₁, locs, cells, slots⟩ argsL.toArray q B ∧
      Steps p.tables e below (T.setTop g) ((B.U.setTop { g with stack := rest }).pushFrame (.throwing q))) := by
  obtain ⟨mk, hnamed⟩ := Cond.code_named hcode
  obtain ⟨methM, cM, hmethM, -, -, -, -, -, -, hsigM⟩ := Cond.code_spec hnamed hcode
  have hstatic : methM.isStatic = true := Cond.static_spec hnamed hmethM hstat
  obtain ⟨kP, hkP, -⟩ := className_of_methodNamed hnamed
  have hinitP : kP.init = .initialized := Cond.initialized_spec (findClass_of_methodNamed hnamed) hkP hinit
  obtain ⟨vm₁, X₁, hstep₁⟩ := X.invokestatic hexec hown hlink hnamed hmethM hstatic hkP hinitP hy (g := g) hg (argsL := argsL) (rest := rest) (hlen _ hsigM) hstack hdg
  rcases hK m meth c ⟨T.setVm vm₁, locs, cells, slots⟩ { g with stack := rest } (.invokestatic index) mk argsL.toArray X₁ hg hsize hdg hW (X₁.named hnamed) (hpre vm₁ X₁.warmed) with ⟨v, B, X', hpost, hsteps⟩ | ⟨q, B, X', hpost, hsteps⟩
  · exact Or.inl ⟨v, vm₁, B, X₁.warmed, X', hpost, fun target h => hstep₁ _ fun acts => by rw [doInvoke_state]; exact hsteps.trans h⟩
  · exact Or.inr ⟨q, vm₁, B, X₁.warmed, X', hpost, hstep₁ _ fun acts => by rw [doInvoke_state]; exact hsteps⟩
end Calls
theorem vx_cls {s : State} {T : State} {vm₁ : Vm} {E : String} {k : ClassId} (hW : s.WarmedH vm₁) (h : (T.setVm vm₁).vm.findClass E = some k) : s.vm.findClass E = some k := by
  have h1 : vm₁.findClass E = some k := h
  rw [hW.alike.findClass] at h1
  exact h1
/-- the method's frame g, with q thrown over it -/
def vx_W (p : Program) (l : Launch) (e : Env) (R : Room) (s : State) (m : MethodId) (args : Array Value) (below : List Frame) (meth : Method) (c : Code) (H : Heap) (locs : List Loc) (cells slots : Nat) (Q : State → Prop) (g : JFrame) (q : Addr) : Prop :=
  ∀ T : State, T.heap = H → Stand p l e R s m args below meth c T locs cells slots → ∃ t, Steps p.tables e below ((T.setTop g).pushFrame (.throwing q)) t ∧ Q t
def vx_Run (p : Program) (l : Launch) (e : Env) (R : Room) (s : State) (m : MethodId) (args : Array Value) (below : List Frame) (meth : Method) (c : Code) (H : Heap) (locs : List Loc) (cells slots mc ms : Nat) (g : JFrame) (rest : List Value) (Qa : State → Outcome → State → Prop) (XC : String → State → State → Prop) (free : Addr → Prop) : Prop :=
  ∀ T : State, T.heap = H → Stand p l e R s m args below meth c T locs cells slots →
    (∃ (v : Option Value) (st₀ t T' : State) (L : List Loc), st₀.heap = H ∧ Stand p l e R s m args below meth c T' (locs ++ L) (cells + mc) (slots + ms) ∧ (∀ q ∈ L, free q.base) ∧ T'.heap = t.heap ∧ T'.vm = t.vm ∧ Qa st₀ (.returned v) t ∧
      Goes p e below T g T' { g with pc := g.pc + 3, stack := v.toList ++ rest }) ∨
    (∃ (q : Addr) (st₀ t T' : State) (L : List Loc) (E : String) (ce : Cell), st₀.heap = H ∧ Stand p l e R s m args below meth c T' (locs ++ L) (cells + mc) (slots + ms) ∧ (∀ z ∈ L, free z.base) ∧ T'.heap = t.heap ∧ T'.vm = t.vm ∧ XC E st₀ t ∧ t.heap[q]? = some ce ∧ ce.vm = .none ∧ s.vm.findClass E = some ce.cls ∧
      Steps p.tables e below (T.setTop g) ((T'.setTop { g with stack := rest }).pushFrame (.throwing q)))
def vx_X {S : Type} (px : S → Prop) (B : String → S → State → Prop) (A : Nat → Prop) : String → State → State → Prop := fun E st t => ∃ u : S, px u ∧ B E u t ∧ va_F A st t
section Runs
variable {p : Program} {l : Launch} {e : Env} {R : Room} {s : State} {m : MethodId} {args : Array Value} {below : List Frame} {meth : Method} {c : Code} {H : Heap} {locs : List Loc} {cells slots : Nat}
variable {y : MethodName} {bytes cc : ByteArray} {maxL nL mc ms n index : Nat} {ret : Option FieldType} {ws : List Cond} {rm : Room} {Pc : Array Value → State → Prop} {Qc : Array Value → State → Outcome → State → Prop} {XC : String → State → State → Prop} {free : Addr → Prop} {Ts : List Cond} {own C : String} {b : Addr} {As rest : List Value} {g : JFrame}
theorem vx_callBack (cb : CallB R s args own index y bytes maxL ret ws rm mc ms n) (hM : vx_Met l y ws rm Pc Qc XC mc ms free) (hbl : FrameBlind Pc) : vx_Back l R p e below s args y 3 8 (PreOf R mc ms Pc) (PostOf Qc mc ms free) (vx_Post XC mc ms free) := by
  obtain ⟨hrc, hrs, hfr, hlo, hws, hcw, -, hini, -⟩ := cb
  exact vx_back (bytes := bytes) (maxL := maxL) (ret := ret) hM hbl hrc hrs hfr hlo hws hcw (fun a' U hW => word_at hW (Or.inl (by first | rfl | simp [Cond.onTables, Cond.keeps, Cond.steady])) hini)
theorem vx_runV (S : CallFix p m c cc nL s args Ts own) (hM : vx_Met l y ws rm Pc Qc XC mc ms free) (cw : CallW R s args own C index y bytes maxL ret ws rm mc ms n) (hp : PreV s H C b Pc As)
    (hg : g.method = m) (hn : As.length = n) (hsize : g.locals.size = nL) (hstack : g.stack = As.reverse ++ .ref b :: rest) (hW : 2 * g.monitorRoom + (rest.map fun v => v.category).sum ≤ 8) (hdg : decode cc g.pc = .ok (.invokevirtual index, 3)) (hf : cells + mc ≤ R.cells ∧ slots + ms ≤ R.slots) :
    vx_Run p l e R s m args below meth c H locs cells slots mc ms g rest (Qc (Value.ref b :: As).toArray) XC free := by
  have hK : vx_Back l R p e below s args y 3 8 (PreOf R mc ms Pc) (PostOf Qc mc ms free) (vx_Post XC mc ms free) := vx_callBack cw.1 hM hp.1
  obtain ⟨⟨-, -, -, -, -, -, hcode, -, hy, hlen, hl⟩, hin, hse⟩ := cw
  obtain ⟨hx, hb, hml, ho, -⟩ := S
  obtain ⟨-, ⟨cellB, hcB, hoB, hclB⟩, hPc⟩ := hp
  intro T hT X
  rcases vx_callV X hx (C := C) (bytes := bytes) (maxL := maxL) (ret := ret) ho hl hin hse hcode hy hK (by rw [hT]; exact hcB) hoB hclB hg (hsize.trans hml.symm) (argsL := As) (rest := rest) (fun sig h => hn.trans (hlen sig h)) hstack hW (by rw [hb]; exact hdg)
    (fun vm₁ hW₁ => ⟨hf.1, hf.2, hPc (T.setVm vm₁) hT hW₁⟩) with ⟨v, vm₁, ⟨U', l2, c2, s2⟩, hW₁, X', ⟨g', mk, t, L, e1, e2, hq, h1, hL, h2, h3⟩, st⟩ | ⟨q, vm₁, ⟨U', l2, c2, s2⟩, hW₁, X', ⟨g', mk, t, L, E, ce, e1, e2, hq, hce, hcv, hcl, h1, hL, h2, h3⟩, st⟩
  · dsimp only [Pt.U, Pt.locs, Pt.cells, Pt.slots] at X' e1 e2 h1 h2 h3 st
    subst h1; subst h2; subst h3
    exact Or.inl ⟨v, (T.setVm vm₁).calling g' mk (Value.ref b :: As).toArray, t, U', L, hT, X', hL, e1, e2, hq, st⟩
  · dsimp only [Pt.U, Pt.locs, Pt.cells, Pt.slots] at X' e1 e2 h1 h2 h3 st hcl
    subst h1; subst h2; subst h3
    exact Or.inr ⟨q, (T.setVm vm₁).calling g' mk (Value.ref b :: As).toArray, t, U', L, E, ce, hT, X', hL, e1, e2, hq, hce, hcv, vx_cls hW₁ hcl, st⟩
theorem vx_runS (S : CallFix p m c cc nL s args Ts own) (hM : vx_Met l y ws rm Pc Qc XC mc ms free) (cw : CallB R s args own index y bytes maxL ret ws rm mc ms n ∧ (Cond.static y).before args s = true) (hp : PreS s H Pc As)
    (hg : g.method = m) (hn : As.length = n) (hsize : g.locals.size = nL) (hstack : g.stack = As.reverse ++ rest) (hW : 2 * g.monitorRoom + (rest.map fun v => v.category).sum ≤ 8) (hdg : decode cc g.pc = .ok (.invokestatic index, 3)) (hf : cells + mc ≤ R.cells ∧ slots + ms ≤ R.slots) :
    vx_Run p l e R s m args below meth c H locs cells slots mc ms g rest (Qc As.toArray) XC free := by
  have hK : vx_Back l R p e below s args y 3 8 (PreOf R mc ms Pc) (PostOf Qc mc ms free) (vx_Post XC mc ms free) := vx_callBack cw.1 hM hp.1
  obtain ⟨⟨-, -, -, -, -, -, hcode, hini, hy, hlen, hl⟩, hstt⟩ := cw
  obtain ⟨hx, hb, hml, ho, -⟩ := S
  intro T hT X
  rcases vx_callS X hx (bytes := bytes) (maxL := maxL) (ret := ret) ho hl hstt hini hcode hy hK hg (hsize.trans hml.symm) (argsL := As) (rest := rest) (fun sig h => hn.trans (hlen sig h)) hstack hW (by rw [hb]; exact hdg)
    (fun vm₁ hW₁ => ⟨hf.1, hf.2, hp.2 (T.setVm vm₁) hT hW₁⟩) with ⟨v, vm₁, ⟨U', l2, c2, s2⟩, hW₁, X', ⟨g', mk, t, L, e1, e2, hq, h1, hL, h2, h3⟩, st⟩ | ⟨q, vm₁, ⟨U', l2, c2, s2⟩, hW₁, X', ⟨g', mk, t, L, E, ce, e1, e2, hq, hce, hcv, hcl, h1, hL, h2, h3⟩, st⟩
  · dsimp only [Pt.U, Pt.locs, Pt.cells, Pt.slots] at X' e1 e2 h1 h2 h3 st
    subst h1; subst h2; subst h3
    exact Or.inl ⟨v, (T.setVm vm₁).calling g' mk As.toArray, t, U', L, hT, X', hL, e1, e2, hq, st⟩
  · dsimp only [Pt.U, Pt.locs, Pt.cells, Pt.slots] at X' e1 e2 h1 h2 h3 st hcl
    subst h1; subst h2; subst h3
    exact Or.inr ⟨q, (T.setVm vm₁).calling g' mk As.toArray, t, U', L, E, ce, hT, X', hL, e1, e2, hq, hce, hcv, vx_cls hW₁ hcl, st⟩
end Runs
section Rows
variable {p : Program} {l : Launch} {e : Env} {R : Room} {s : State} {m : MethodId} {args : Array Value} {below : List Frame} {meth : Method} {c : Code} {H : Heap} {locs : List Loc} {cells slots : Nat} {Q : State → Prop}
variable {mc ms : Nat} {free : Addr → Prop} {A0 A1 : Nat → Prop} {H0 : Heap} {a : Array Value} {pc : Nat} {ls : Array Slot} {st0 rest : List Value}
theorem vx_keep {st₀ t T' : State} {L : List Loc} (h0 : st₀.heap = H) (e1 : T'.heap = t.heap) (hS : va_S A0 H0 H locs) (hA : ∀ q, q < H.size → A1 q → A0 q) (hf : ∀ q, free q → A0 q) (hL : ∀ q ∈ L, free q.base) (hF : va_F A1 st₀ t) :
    H.size ≤ T'.heap.size ∧ (∀ q : Nat, q < H.size → ¬ A1 q → T'.heap[q]? = H[q]?) ∧ va_S A0 H0 T'.heap (locs ++ L) := by
  obtain ⟨hz, hk⟩ := hF
  rw [h0] at hz hk
  exact ⟨by rw [e1]; exact hz, fun q h1 h2 => by rw [e1]; exact hk q h1 h2,
    ⟨Nat.le_trans hS.1 (by rw [e1]; exact hz), fun q h1 h2 => by rw [e1, hk q (Nat.lt_of_lt_of_le h1 hS.1) (fun z => h2 (hA q (Nat.lt_of_lt_of_le h1 hS.1) z))]; exact hS.2.1 q h1 h2, fun q hq => by
      rcases List.mem_append.mp hq with h | h
      · exact hS.2.2 q h
      · exact hf _ (hL q h)⟩⟩
theorem vx_calli {S SX : Type} {post : Int32 → S → Prop} {px : SX → Prop} {B : S → State → Prop} {BX : String → SX → State → Prop} {AX : Nat → Prop} (hr : vx_Run p l e R s m args below meth c H locs cells slots mc ms (F0 m pc ls st0) rest (va_Qi post B A1 a) (vx_X px BX AX) free) (hS : va_S A0 H0 H locs) (hA : ∀ q, q < H.size → A1 q → A0 q) (hf : ∀ q, free q → A0 q) (hAX : ∀ q, q < H.size → AX q → A0 q)
    (kx : ∀ (E : String) (ce : Cell) (q9 : Addr) (u : SX) (t : State) (H1 : Heap) (locs1 : List Loc), t.heap = H1 → s.vm.Alike t.vm → px u → BX E u t → H.size ≤ H1.size → (∀ q : Nat, q < H.size → ¬ AX q → H1[q]? = H[q]?) → va_S A0 H0 H1 locs1 → H1[q9]? = some ce → ce.vm = .none → s.vm.findClass E = some ce.cls → vx_W p l e R s m args below meth c H1 locs1 (cells + mc) (slots + ms) Q (F0 m pc ls rest) q9)
    (kk : ∀ (r : Int32) (u : S) (t : State) (H1 : Heap) (locs1 : List Loc), t.heap = H1 → s.vm.Alike t.vm → post r u → B u t → H.size ≤ H1.size → (∀ q : Nat, q < H.size → ¬ A1 q → H1[q]? = H[q]?) → va_S A0 H0 H1 locs1 → W p l e R s m args below meth c H1 locs1 (cells + mc) (slots + ms) Q (F0 m (pc + 3) ls (.int r :: rest))) : W p l e R s m args below meth c H locs cells slots Q (F0 m pc ls st0) := by
  intro T hT X
  rcases hr T hT X with ⟨v, st₀, t, T', L, h0, X', hL, e1, e2, ⟨⟨r, u, hv, hp, hb⟩, hF⟩, st⟩ | ⟨q, st₀, t, T', L, E, ce, h0, X', hL, e1, e2, ⟨u, hp, hb, hF⟩, hce, hcv, hcl, st⟩
  · cases hv
    obtain ⟨k1, k2, k3⟩ := vx_keep h0 e1 hS hA hf hL hF
    obtain ⟨t2, a1, b1⟩ := kk r u t T'.heap (locs ++ L) e1.symm (by rw [← e2]; exact X'.warmed.alike) hp hb k1 k2 k3 T' rfl X'
    exact ⟨t2, st t2 a1, b1⟩
  · obtain ⟨k1, k2, k3⟩ := vx_keep h0 e1 hS hAX hf hL hF
    obtain ⟨t2, a1, b1⟩ := kx E ce q u t T'.heap (locs ++ L) e1.symm (by rw [← e2]; exact X'.warmed.alike) hp hb k1 k2 k3 (by rw [e1]; exact hce) hcv hcl T' rfl X'
    exact ⟨t2, st.trans a1, b1⟩
theorem vx_calll {S SX : Type} {post : Int64 → S → Prop} {px : SX → Prop} {B : S → State → Prop} {BX : String → SX → State → Prop} {AX : Nat → Prop} (hr : vx_Run p l e R s m args below meth c H locs cells slots mc ms (F0 m pc ls st0) rest (va_Ql post B A1 a) (vx_X px BX AX) free) (hS : va_S A0 H0 H locs) (hA : ∀ q, q < H.size → A1 q → A0 q) (hf : ∀ q, free q → A0 q) (hAX : ∀ q, q < H.size → AX q → A0 q)
    (kx : ∀ (E : String) (ce : Cell) (q9 : Addr) (u : SX) (t : State) (H1 : Heap) (locs1 : List Loc), t.heap = H1 → s.vm.Alike t.vm → px u → BX E u t → H.size ≤ H1.size → (∀ q : Nat, q < H.size → ¬ AX q → H1[q]? = H[q]?) → va_S A0 H0 H1 locs1 → H1[q9]? = some ce → ce.vm = .none → s.vm.findClass E = some ce.cls → vx_W p l e R s m args below meth c H1 locs1 (cells + mc) (slots + ms) Q (F0 m pc ls rest) q9)
    (kk : ∀ (r : Int64) (u : S) (t : State) (H1 : Heap) (locs1 : List Loc), t.heap = H1 → s.vm.Alike t.vm → post r u → B u t → H.size ≤ H1.size → (∀ q : Nat, q < H.size → ¬ A1 q → H1[q]? = H[q]?) → va_S A0 H0 H1 locs1 → W p l e R s m args below meth c H1 locs1 (cells + mc) (slots + ms) Q (F0 m (pc + 3) ls (.long r :: rest))) : W p l e R s m args below meth c H locs cells slots Q (F0 m pc ls st0) := by
  intro T hT X
  rcases hr T hT X with ⟨v, st₀, t, T', L, h0, X', hL, e1, e2, ⟨⟨r, u, hv, hp, hb⟩, hF⟩, st⟩ | ⟨q, st₀, t, T', L, E, ce, h0, X', hL, e1, e2, ⟨u, hp, hb, hF⟩, hce, hcv, hcl, st⟩
  · cases hv
    obtain ⟨k1, k2, k3⟩ := vx_keep h0 e1 hS hA hf hL hF
    obtain ⟨t2, a1, b1⟩ := kk r u t T'.heap (locs ++ L) e1.symm (by rw [← e2]; exact X'.warmed.alike) hp hb k1 k2 k3 T' rfl X'
    exact ⟨t2, st t2 a1, b1⟩
  · obtain ⟨k1, k2, k3⟩ := vx_keep h0 e1 hS hAX hf hL hF
    obtain ⟨t2, a1, b1⟩ := kx E ce q u t T'.heap (locs ++ L) e1.symm (by rw [← e2]; exact X'.warmed.alike) hp hb k1 k2 k3 (by rw [e1]; exact hce) hcv hcl T' rfl X'
    exact ⟨t2, st.trans a1, b1⟩
theorem vx_callf {S SX : Type} {post : UInt32 → S → Prop} {px : SX → Prop} {B : S → State → Prop} {BX : String → SX → State → Prop} {AX : Nat → Prop} (hr : vx_Run p l e R s m args below meth c H locs cells slots mc ms (F0 m pc ls st0) rest (va_Qf post B A1 a) (vx_X px BX AX) free) (hS : va_S A0 H0 H locs) (hA : ∀ q, q < H.size → A1 q → A0 q) (hf : ∀ q, free q → A0 q) (hAX : ∀ q, q < H.size → AX q → A0 q)
    (kx : ∀ (E : String) (ce : Cell) (q9 : Addr) (u : SX) (t : State) (H1 : Heap) (locs1 : List Loc), t.heap = H1 → s.vm.Alike t.vm → px u → BX E u t → H.size ≤ H1.size → (∀ q : Nat, q < H.size → ¬ AX q → H1[q]? = H[q]?) → va_S A0 H0 H1 locs1 → H1[q9]? = some ce → ce.vm = .none → s.vm.findClass E = some ce.cls → vx_W p l e R s m args below meth c H1 locs1 (cells + mc) (slots + ms) Q (F0 m pc ls rest) q9)
    (kk : ∀ (r : UInt32) (u : S) (t : State) (H1 : Heap) (locs1 : List Loc), t.heap = H1 → s.vm.Alike t.vm → post r u → B u t → H.size ≤ H1.size → (∀ q : Nat, q < H.size → ¬ A1 q → H1[q]? = H[q]?) → va_S A0 H0 H1 locs1 → W p l e R s m args below meth c H1 locs1 (cells + mc) (slots + ms) Q (F0 m (pc + 3) ls (.float r :: rest))) : W p l e R s m args below meth c H locs cells slots Q (F0 m pc ls st0) := by
  intro T hT X
  rcases hr T hT X with ⟨v, st₀, t, T', L, h0, X', hL, e1, e2, ⟨⟨r, u, hv, hp, hb⟩, hF⟩, st⟩ | ⟨q, st₀, t, T', L, E, ce, h0, X', hL, e1, e2, ⟨u, hp, hb, hF⟩, hce, hcv, hcl, st⟩
  · cases hv
    obtain ⟨k1, k2, k3⟩ := vx_keep h0 e1 hS hA hf hL hF
    obtain ⟨t2, a1, b1⟩ := kk r u t T'.heap (locs ++ L) e1.symm (by rw [← e2]; exact X'.warmed.alike) hp hb k1 k2 k3 T' rfl X'
    exact ⟨t2, st t2 a1, b1⟩
  · obtain ⟨k1, k2, k3⟩ := vx_keep h0 e1 hS hAX hf hL hF
    obtain ⟨t2, a1, b1⟩ := kx E ce q u t T'.heap (locs ++ L) e1.symm (by rw [← e2]; exact X'.warmed.alike) hp hb k1 k2 k3 (by rw [e1]; exact hce) hcv hcl T' rfl X'
    exact ⟨t2, st.trans a1, b1⟩
theorem vx_calld {S SX : Type} {post : UInt64 → S → Prop} {px : SX → Prop} {B : S → State → Prop} {BX : String → SX → State → Prop} {AX : Nat → Prop} (hr : vx_Run p l e R s m args below meth c H locs cells slots mc ms (F0 m pc ls st0) rest (va_Qd post B A1 a) (vx_X px BX AX) free) (hS : va_S A0 H0 H locs) (hA : ∀ q, q < H.size → A1 q → A0 q) (hf : ∀ q, free q → A0 q) (hAX : ∀ q, q < H.size → AX q → A0 q)
    (kx : ∀ (E : String) (ce : Cell) (q9 : Addr) (u : SX) (t : State) (H1 : Heap) (locs1 : List Loc), t.heap = H1 → s.vm.Alike t.vm → px u → BX E u t → H.size ≤ H1.size → (∀ q : Nat, q < H.size → ¬ AX q → H1[q]? = H[q]?) → va_S A0 H0 H1 locs1 → H1[q9]? = some ce → ce.vm = .none → s.vm.findClass E = some ce.cls → vx_W p l e R s m args below meth c H1 locs1 (cells + mc) (slots + ms) Q (F0 m pc ls rest) q9)
    (kk : ∀ (r : UInt64) (u : S) (t : State) (H1 : Heap) (locs1 : List Loc), t.heap = H1 → s.vm.Alike t.vm → post r u → B u t → H.size ≤ H1.size → (∀ q : Nat, q < H.size → ¬ A1 q → H1[q]? = H[q]?) → va_S A0 H0 H1 locs1 → W p l e R s m args below meth c H1 locs1 (cells + mc) (slots + ms) Q (F0 m (pc + 3) ls (.double r :: rest))) : W p l e R s m args below meth c H locs cells slots Q (F0 m pc ls st0) := by
  intro T hT X
  rcases hr T hT X with ⟨v, st₀, t, T', L, h0, X', hL, e1, e2, ⟨⟨r, u, hv, hp, hb⟩, hF⟩, st⟩ | ⟨q, st₀, t, T', L, E, ce, h0, X', hL, e1, e2, ⟨u, hp, hb, hF⟩, hce, hcv, hcl, st⟩
  · cases hv
    obtain ⟨k1, k2, k3⟩ := vx_keep h0 e1 hS hA hf hL hF
    obtain ⟨t2, a1, b1⟩ := kk r u t T'.heap (locs ++ L) e1.symm (by rw [← e2]; exact X'.warmed.alike) hp hb k1 k2 k3 T' rfl X'
    exact ⟨t2, st t2 a1, b1⟩
  · obtain ⟨k1, k2, k3⟩ := vx_keep h0 e1 hS hAX hf hL hF
    obtain ⟨t2, a1, b1⟩ := kx E ce q u t T'.heap (locs ++ L) e1.symm (by rw [← e2]; exact X'.warmed.alike) hp hb k1 k2 k3 (by rw [e1]; exact hce) hcv hcl T' rfl X'
    exact ⟨t2, st.trans a1, b1⟩
theorem vx_callv {S SX : Type} {post : S → Prop} {px : SX → Prop} {B : S → State → Prop} {BX : String → SX → State → Prop} {AX : Nat → Prop} (hr : vx_Run p l e R s m args below meth c H locs cells slots mc ms (F0 m pc ls st0) rest (va_Qv post B A1 a) (vx_X px BX AX) free) (hS : va_S A0 H0 H locs) (hA : ∀ q, q < H.size → A1 q → A0 q) (hf : ∀ q, free q → A0 q) (hAX : ∀ q, q < H.size → AX q → A0 q)
    (kx : ∀ (E : String) (ce : Cell) (q9 : Addr) (u : SX) (t : State) (H1 : Heap) (locs1 : List Loc), t.heap = H1 → s.vm.Alike t.vm → px u → BX E u t → H.size ≤ H1.size → (∀ q : Nat, q < H.size → ¬ AX q → H1[q]? = H[q]?) → va_S A0 H0 H1 locs1 → H1[q9]? = some ce → ce.vm = .none → s.vm.findClass E = some ce.cls → vx_W p l e R s m args below meth c H1 locs1 (cells + mc) (slots + ms) Q (F0 m pc ls rest) q9)
    (kk : ∀ (u : S) (t : State) (H1 : Heap) (locs1 : List Loc), t.heap = H1 → s.vm.Alike t.vm → post u → B u t → H.size ≤ H1.size → (∀ q : Nat, q < H.size → ¬ A1 q → H1[q]? = H[q]?) → va_S A0 H0 H1 locs1 → W p l e R s m args below meth c H1 locs1 (cells + mc) (slots + ms) Q (F0 m (pc + 3) ls (rest))) : W p l e R s m args below meth c H locs cells slots Q (F0 m pc ls st0) := by
  intro T hT X
  rcases hr T hT X with ⟨v, st₀, t, T', L, h0, X', hL, e1, e2, ⟨⟨u, hv, hp, hb⟩, hF⟩, st⟩ | ⟨q, st₀, t, T', L, E, ce, h0, X', hL, e1, e2, ⟨u, hp, hb, hF⟩, hce, hcv, hcl, st⟩
  · cases hv
    obtain ⟨k1, k2, k3⟩ := vx_keep h0 e1 hS hA hf hL hF
    obtain ⟨t2, a1, b1⟩ := kk u t T'.heap (locs ++ L) e1.symm (by rw [← e2]; exact X'.warmed.alike) hp hb k1 k2 k3 T' rfl X'
    exact ⟨t2, st t2 a1, b1⟩
  · obtain ⟨k1, k2, k3⟩ := vx_keep h0 e1 hS hAX hf hL hF
    obtain ⟨t2, a1, b1⟩ := kx E ce q u t T'.heap (locs ++ L) e1.symm (by rw [← e2]; exact X'.warmed.alike) hp hb k1 k2 k3 (by rw [e1]; exact hce) hcv hcl T' rfl X'
    exact ⟨t2, st.trans a1, b1⟩
/-- caught by the row x of this method's table; the rows ahead don't take it -/
theorem vx_catch {own name : String} {E : String} {ce : Cell} {q : Addr} (hown : s.vm.findClass own = some m.cls) (pre : List ExceptionTableEntry) (x : ExceptionTableEntry) (suf : List ExceptionTableEntry) (hsplit : c.exceptionTable.toList = pre ++ x :: suf)
    (hpass : ∀ z ∈ pre, covers z pc = false ∨ (z.catchType ≠ 0 ∧ ∃ nm : String, (Cond.classLink own z.catchType nm).before args s = true ∧ va_Nc E nm s)) (hx : covers x pc = true) (h0 : x.catchType ≠ 0)
    (hlink : (Cond.classLink own x.catchType name).before args s = true) (hcast : (Cond.castable E name).before args s = true) (hcell : H[q]? = some ce) (hv : ce.vm = .none) (hcl : s.vm.findClass E = some ce.cls)
    (kk : W p l e R s m args below meth c H locs cells slots Q (F0 m x.handlerPc ls [.ref q])) : vx_W p l e R s m args below meth c H locs cells slots Q (F0 m pc ls rest) q := by
  intro T hT X
  have hpl : e.platform.magicAccessors = ({} : Platform).magicAccessors := by rw [X.admits.platform]
  obtain ⟨c3, c4, hc3, hc4, hasg⟩ := Cond.castable_spec hcast
  cases Option.some.inj (hc3.symm.trans hcl)
  obtain ⟨c5, hc5, hcl5⟩ := Cond.classLink_spec hown hlink e.platform hpl
  cases Option.some.inj (hc4.symm.trans hc5)
  obtain ⟨vm', X', st⟩ := X.thenCaughtThrough q (g := F0 m pc ls rest) rfl (Steps.refl _) (by rw [hT]; exact hcell) (by rw [hv]; rfl) (by obtain ⟨k9, h9, -⟩ := Vm.findClass_spec hcl; exact ⟨k9, h9⟩) pre x suf hsplit
    (fun z hz => by
      rcases hpass z hz with h | ⟨hz0, nm, hl1, hn1⟩
      · exact Or.inl h
      · obtain ⟨c6, hc6, hcl6⟩ := Cond.classLink_spec hown hl1 e.platform hpl
        obtain ⟨a8, b8, h1, h2, h3⟩ := hn1
        cases Option.some.inj (h1.symm.trans hcl)
        cases Option.some.inj (h2.symm.trans hc6)
        exact Or.inr ⟨hz0, _, hcl6, h3⟩) hx (Or.inr ⟨h0, c4, hcl5, hasg⟩)
  obtain ⟨t, a1, b1⟩ := kk (T.setVm vm') hT X'
  exact ⟨t, st.trans a1, b1⟩
end Rows
section Ends
variable {p : Program} {l : Launch} {e : Env} {R : Room} {s : State} {m : MethodId} {args : Array Value} {below : List Frame} {meth : Method} {c : Code} {H : Heap} {locs : List Loc} {cells slots : Nat} {Q : State → Prop}
variable {mc ms : Nat} {free : Addr → Prop} {A0 A1 : Nat → Prop} {H0 : Heap} {a : Array Value} {ls : Array Slot} {st0 rest : List Value}
variable {Qc : Array Value → State → Outcome → State → Prop} {XC : String → State → State → Prop}
/-- what a body that may throw owes at its end -/
def vx_MQ (below : List Frame) (Qc : Array Value → State → Outcome → State → Prop) (XC : String → State → State → Prop) (a : Array Value) (s : State) (mc ms : Nat) (free : Addr → Prop) : State → Prop := fun t =>
  ∃ o, t.status = .running ∧ Ended t below o ∧ vx_Q Qc XC mc ms free a s o t
theorem vx_ret {g : JFrame} {mc ms : Nat} (k : W p l e R s m args below meth c H locs cells slots (MQ below Qc args s mc ms free) g) : W p l e R s m args below meth c H locs cells slots (vx_MQ below Qc XC args s mc ms free) g := by
  intro T hT X
  obtain ⟨t, a1, o, b1, b2, b3, b4⟩ := k T hT X
  exact ⟨t, a1, o, b1, b2, Or.inl ⟨b3, b4⟩⟩
/-- not caught here: it goes on to the caller -/
theorem vx_widen {g : JFrame} {q : Addr} {k n : Nat} (h1 : cells ≤ k) (h2 : slots ≤ n) (kk : vx_W p l e R s m args below meth c H locs k n Q g q) : vx_W p l e R s m args below meth c H locs cells slots Q g q := fun T hT X => kk T hT (stand_widen X h1 h2)
theorem vx_out {pc : Nat} {E : String} {ce : Cell} {q : Addr} {mc ms : Nat} (hout : ∀ x ∈ c.exceptionTable.toList, covers x pc = false) (hlocks : meth.locks = false) (hcell : H[q]? = some ce) (hv : ce.vm = .none) (hcl : s.vm.findClass E = some ce.cls)
    (hx : ∀ t : State, t.heap = H → s.vm.Alike t.vm → XC E s t) (hf : ∀ z ∈ locs, free z.base) (hc : cells ≤ mc) (hs : slots ≤ ms) :
    vx_W p l e R s m args below meth c H locs cells slots (vx_MQ below Qc XC args s mc ms free) (F0 m pc ls rest) q := by
  intro T hT X
  obtain ⟨st1, hrun, hend, hW, hsm⟩ := X.leaveThrown q (g := F0 m pc ls rest) rfl rfl rfl hout hlocks
  have hcell9 : (T.setFrames (.throwing q :: below)).heap[q]? = some ce := by
    show T.heap[q]? = some ce
    rw [hT]; exact hcell
  exact ⟨_, st1, .threw q, hrun, hend, Or.inr ⟨q, rfl, E, ce, locs, hx _ hT hW.alike, hcell9, hv, hcl, hW, hsm.mono hc hs, hf⟩⟩
theorem vx_frame {U : State} {k n : Nat} (h : s.sameButNew ({ U with vm := s.vm } : State) locs k n) : s.heap.size ≤ U.heap.size ∧ ∀ q : Nat, q < s.heap.size → (∀ z ∈ locs, z.base ≠ q) → U.heap[q]? = s.heap[q]? := by
  obtain ⟨-, h2, -, -, -, h6⟩ := h
  refine ⟨h2, fun q hq hz => ?_⟩
  obtain ⟨c9, e1, e2, e3, e4⟩ := h6 q _ (Array.getElem?_eq_getElem hq)
  have hs : c9.slots = (s.heap[q]).slots := Array.ext_getElem? fun i => e4 i fun hm => hz _ hm rfl
  have h9 : c9 = s.heap[q] := by
    rw [hs] at e2
    exact e2
  have e5 : U.heap[q]? = some c9 := e1
  rw [e5, h9, Array.getElem?_eq_getElem hq]
/-- the words of a throw but the four that speak of the heap -/
def vx_no (w : Cond) : Bool := decide (w ≠ .isRef (.static Bundle.tN "UNASSIGNED_STACK" Bundle.steD)) && decide (w ≠ .isRef (.static Bundle.tN "SUPPRESSED_SENTINEL" Bundle.listD)) && decide (w ≠ .laysStatic Bundle.tN "UNASSIGNED_STACK" Bundle.steD) && decide (w ≠ .laysStatic Bundle.tN "SUPPRESSED_SENTINEL" Bundle.listD)
def vx_at0 (own : String) (ic : Nat) (X : String) (names : List String) : List Cond := (Bundle.ownAtoms0 own ic X names).filter vx_no
def vx_atS (own : String) (ic : Nat) (X : String) (names : List String) : List Cond := (Bundle.ownAtoms own ic X names).filter vx_no
/-- a word that the tables alone decide, or a good one -/
def vx_ot (w : Cond) : Bool := w.onTables || goodWord w
theorem vx_ot_at {args a' : Array Value} {s U : State} {w : Cond} (hW : s.WarmedH U.vm) (hvm : s.vm = U.vm) (hg : vx_ot w = true) (h : w.before args s = true) : w.before a' U = true := by
  simp only [vx_ot, Bool.or_eq_true] at hg
  rcases hg with hg | hg
  · exact va_tabs hg hvm h
  · exact word_at hW (good_of_word hg) h
/-- a list's words: the good ones out of the method's own list, the others by premises of their own -/
theorem vx_hat {args : Array Value} {s : State} {L B : List Cond} (h1 : ∀ w ∈ L.filter goodWord, w.before args s = true) (h2 : ∀ w ∈ L.filter (fun w => !goodWord w), w ∈ B) (h3 : ∀ w ∈ B, w.before args s = true) : ∀ w ∈ L, w.before args s = true := by
  intro w hw
  by_cases g : goodWord w = true
  · exact h1 w (List.mem_filter.mpr ⟨hw, g⟩)
  · refine h3 w (h2 w (List.mem_filter.mpr ⟨hw, ?_⟩))
    show (!goodWord w) = true
    cases hgw : goodWord w
    · rfl
    · exact absurd hgw g
theorem vx_c {args : Array Value} {s : State} {w : Cond} {B : List Cond} (h : w.before args s = true) (t : ∀ w ∈ B, w.before args s = true) : ∀ w' ∈ w :: B, w'.before args s = true := fun w' h' => (List.mem_cons.mp h').elim (fun e => by rw [e]; exact h) (t w')
theorem vx_n {args : Array Value} {s : State} : ∀ w ∈ ([] : List Cond), w.before args s = true := fun _ h => nomatch h
theorem vx_own {args : Array Value} {s : State} {L : List Cond} (h1 : ∀ w ∈ L.filter vx_no, w.before args s = true)
    (hU : (Cond.isRef (.static Bundle.tN "UNASSIGNED_STACK" Bundle.steD)).before args s = true) (hN : (Cond.isRef (.static Bundle.tN "SUPPRESSED_SENTINEL" Bundle.listD)).before args s = true)
    (lU : (Cond.laysStatic Bundle.tN "UNASSIGNED_STACK" Bundle.steD).before args s = true) (lN : (Cond.laysStatic Bundle.tN "SUPPRESSED_SENTINEL" Bundle.listD).before args s = true) : ∀ w ∈ L, w.before args s = true := by
  intro w hw
  by_cases e1 : w = .isRef (.static Bundle.tN "UNASSIGNED_STACK" Bundle.steD)
  · rw [e1]; exact hU
  · by_cases e2 : w = .isRef (.static Bundle.tN "SUPPRESSED_SENTINEL" Bundle.listD)
    · rw [e2]; exact hN
    · by_cases e3 : w = .laysStatic Bundle.tN "UNASSIGNED_STACK" Bundle.steD
      · rw [e3]; exact lU
      · by_cases e4 : w = .laysStatic Bundle.tN "SUPPRESSED_SENTINEL" Bundle.listD
        · rw [e4]; exact lN
        · exact h1 w (List.mem_filter.mpr ⟨hw, by unfold vx_no; rw [decide_eq_true e1, decide_eq_true e2, decide_eq_true e3, decide_eq_true e4]; rfl⟩)
/-- where a static field lies, its class's statics cell in H -/
def vx_L (C n d : String) (A : Nat → Prop) (U : State) (H : Heap) : Prop := ∃ (c : ClassId) (k : Class) (i : Nat) (f : Field) (a : Nat) (cell : Cell), U.vm.findClass C = some c ∧ U.fieldFound? C n d = some (c, k, i, f) ∧ f.isStatic = true ∧ k.statics = some a ∧ H[a]? = some cell ∧ cell.vm.isStatics = true ∧ cell.cls = c ∧ f.slot < cell.slots.size ∧ k.staticTypes[f.slot]? = some f.type ∧ ¬ A a
theorem vx_L.moved {C n d : String} {A : Nat → Prop} {u U : State} {H : Heap} (hvm : u.vm.Alike U.vm) (h : vx_L C n d A u H) : vx_L C n d A U H := by
  obtain ⟨c, k, i, f, a, cell, h1, h2, h3, h4, h5, h6, h7, h8, h9, h10⟩ := h
  obtain ⟨k', hi', he⟩ := State.fieldFound?_setVm hvm h2
  exact ⟨c, k', i, f, a, cell, by rw [hvm.findClass]; exact h1, hi', h3, by rw [he]; exact h4, h5, h6, h7, h8, by rw [he]; exact h9, h10⟩
theorem vx_L.kept {C n d : String} {A : Nat → Prop} {U : State} {H H1 : Heap} (h : vx_L C n d A U H) (hq : ∀ a : Nat, a < H.size → ¬ A a → H1[a]? = H[a]?) : vx_L C n d A U H1 := by
  obtain ⟨c, k, i, f, a, cell, h1, h2, h3, h4, h5, h6, h7, h8, h9, h10⟩ := h
  exact ⟨c, k, i, f, a, cell, h1, h2, h3, h4, by rw [hq a (Array.getElem?_eq_some_iff.mp h5).1 h10]; exact h5, h6, h7, h8, h9, h10⟩
theorem vx_L.narrow {C n d : String} {A B : Nat → Prop} {U : State} {H : Heap} (h : vx_L C n d A U H) (hAB : ∀ q, B q → A q) : vx_L C n d B U H := by
  obtain ⟨c, k, i, f, a, cell, h1, h2, h3, h4, h5, h6, h7, h8, h9, h10⟩ := h
  exact ⟨c, k, i, f, a, cell, h1, h2, h3, h4, h5, h6, h7, h8, h9, fun z => h10 (hAB _ z)⟩
theorem vx_L.word {C n d : String} {A : Nat → Prop} {s : State} {args : Array Value} (h : vx_L C n d A s s.heap) : (Cond.laysStatic C n d).before args s = true := by
  obtain ⟨c, k, i, f, a, cell, h1, h2, h3, h4, h5, h6, h7, h8, h9, -⟩ := h
  show (Cond.laysStatic C n d).holds args s none s [] = true
  exact Cond.laysStatic_of h1 h2 h3 h4 h5 h6 h7 h8 h9
/-- .. and what it holds: null or some reference -/
def vx_Zq (C n d : String) (A : Nat → Prop) (U : State) (H : Heap) : Prop := va_Zq C n d A U H ∧ vx_L C n d A U H
theorem vx_Zq.moved {C n d : String} {A : Nat → Prop} {u U : State} {H : Heap} (hvm : u.vm.Alike U.vm) (h : vx_Zq C n d A u H) : vx_Zq C n d A U H := ⟨va_Zq.moved hvm h.1, vx_L.moved hvm h.2⟩
theorem vx_Zq.kept {C n d : String} {A : Nat → Prop} {U : State} {H H1 : Heap} (h : vx_Zq C n d A U H) (hq : ∀ a : Nat, a < H.size → ¬ A a → H1[a]? = H[a]?) : vx_Zq C n d A U H1 := ⟨va_Zq.kept h.1 hq, vx_L.kept h.2 hq⟩
theorem vx_Zq.narrow {C n d : String} {A B : Nat → Prop} {U : State} {H : Heap} (h : vx_Zq C n d A U H) (hAB : ∀ q, B q → A q) : vx_Zq C n d B U H := ⟨va_Zq.narrow h.1 hAB, vx_L.narrow h.2 hAB⟩
theorem vx_Zqof {args : Array Value} {s : State} {C n d : String} {A : Nat → Prop} (hl : (Cond.laysStatic C n d).before args s = true) (hini : (Cond.initialized C).before args s = true) (h : (Cond.isRef (.static C n d)).before args s = true) (hA : ∀ a : Nat, a < s.heap.size → ¬ A a) : vx_Zq C n d A s s.heap := by
  refine ⟨va_Zqof hl hini h hA, ?_⟩
  obtain ⟨c, k, i, f, a, cell, h1, h2, h3, h4, h5, h6, h7, h8, h9⟩ := Cond.laysStatic_spec hl
  exact ⟨c, k, i, f, a, cell, h1, h2, h3, h4, h5, h6, h7, h8, h9, hA a (Array.getElem?_eq_some_iff.mp h5).1⟩
theorem vx_isRef {C n d : String} {v : Value} {A : Nat → Prop} {s : State} {args : Array Value} (h : va_Z C n d v A s s.heap) (hv : v.isRef = true) : (Cond.isRef (.static C n d)).before args s = true := by
  obtain ⟨cf, kf, fi, f, a, cell, h1, h2, h3, h4, h5, h6, h7, -⟩ := h
  have he : (Term.static C n d).eval args s none [] s = some v := by
    simp [Term.eval, State.fieldNamed?, h1, h2, h4, h5, h6, h7]
  simp only [Cond.before, Cond.holds, Cond.value, he]
  cases v <;> simp_all [Value.isRef]
theorem vx_isRefq {C n d : String} {A : Nat → Prop} {s : State} {args : Array Value} (h : va_Zq C n d A s s.heap) : (Cond.isRef (.static C n d)).before args s = true := by
  rcases h with h | ⟨t, h⟩
  · exact vx_isRef h rfl
  · exact vx_isRef h rfl
/-- the same frame, seen from here: as if the method were called anew in this heap -/
theorem vx_rebase {T : State} (X : Stand p l e R s m args below meth c T locs cells slots) {R' : Room} (hf : R'.frames ≤ R.frames) (hl : R'.locals ≤ R.locals) (hc : cells + R'.cells ≤ R.cells) (hs : slots + R'.slots ≤ R.slots) :
    Stand p l e R' ((T.setVm s.vm).setFrames (.invoking m args :: below)) m args below meth c T [] 0 0 := by
  have htop : (T.setVm s.vm).topJava?.isSome := X.here.top
  have hF : ((T.setVm s.vm).setFrames (.invoking m args :: below)).frames = .invoking m args :: below := State.frames_setFrames _ (State.cur_lt_of_top htop)
  obtain ⟨g₀, hg0⟩ := Option.isSome_iff_exists.mp htop
  obtain ⟨r, hr⟩ := State.topJava?_eq_some.mp hg0
  have hl9 : e.platform.stackLimits (T.setVm s.vm).me = e.platform.stackLimits s.me := X.limits
  have hb9 : (T.setVm s.vm).me.stackBytes = s.me.stackBytes := X.bytes
  refine ⟨X.admits, X.cas, X.clock, hF, ?_, X.hears, X.method, X.code, X.here, X.tail, X.warmed, ?_, ?_, ?_⟩
  · have h := X.room
    have hU : ((T.setVm s.vm).setFrames (.invoking m args :: below)).localsInUse = s.localsInUse := by
      rw [State.localsInUse_invoking hF (meth := meth) (c := c) X.method X.code, State.localsInUse_invoking X.frames X.method X.code]
    simp only [State.hasRoom, Bool.and_eq_true, decide_eq_true_eq] at h ⊢
    obtain ⟨⟨⟨⟨h1, h2, h3, h4, h5, h6⟩, h7⟩, h8⟩, h9⟩ := h
    rw [X.frames, List.length_cons] at h2 h3
    have q1 := X.heapSize
    have q2 := X.used
    simp only [hF, hU, List.length_cons, State.stackLimits_setFrames, State.stackBytes_setFrames, hl9, hb9]
    refine ⟨⟨⟨⟨by omega, by omega, by omega, by omega, by omega, h6⟩, ?_⟩, ?_⟩, X.book⟩
    · show T.heap.size + R'.cells ≤ e.platform.maxCells
      omega
    · show T.slotsUsed + R'.slots ≤ e.platform.maxSlots
      omega
  · rw [State.stackLimits_setFrames]; rfl
  · rw [State.stackBytes_setFrames]; rfl
  · refine ⟨?_, Nat.le_refl _, Nat.le_refl _, ?_, ?_, fun a c9 h9 => ⟨c9, h9, rfl, rfl, fun _ _ => rfl⟩⟩
    · obtain ⟨t, ht, -⟩ := State.frames_cons hr
      show T.setVm s.vm = { ((T.setVm s.vm).setFrames (.invoking m args :: below)).setFrames (T.setVm s.vm).frames with heap := T.heap, slotsUsed := T.slotsUsed }
      rw [State.setFrames_setFrames, State.setFrames_self ht]
      rfl
    · show T.slotsUsed = T.slotsUsed + ((T.heap.toList.drop T.heap.size).map (·.slots.size)).sum
      rw [List.drop_eq_nil_of_le (Nat.le_of_eq Array.length_toList)]
      rfl
    · show ((T.heap.toList.drop T.heap.size).map (·.slots.size)).sum ≤ 0
      rw [List.drop_eq_nil_of_le (Nat.le_of_eq Array.length_toList)]
      exact Nat.le_refl _
/-- 'throw new E()': new; dup; invokespecial; athrow -/
theorem vx_throw0 {cc : ByteArray} {pc : Nat} (hexec : p.tables.exec = Jvm.exec) (hb : c.code = cc) (hl : l.stackTraces = false) {own cls : String} {names : List String} {ik ic mc ms : Nat} {A : Nat → Prop}
    (hown : s.vm.findClass own = some m.cls) (hcls : Bundle.fit cls = true) (hnames : ∀ n ∈ names, Bundle.fit n = true)
    (hk : (Cond.classLink own ik cls).before args s = true) (hini : (Cond.initialized cls).before args s = true) (hat : ∀ w ∈ vx_at0 own ic cls names, w.before args s = true)
    (hgood : ∀ w ∈ Cond.classLink own ik cls :: Cond.initialized cls :: vx_at0 own ic cls names, vx_ot w = true)
    (hU : vx_Zq Bundle.tN "UNASSIGNED_STACK" Bundle.steD A s s.heap) (hN : vx_Zq Bundle.tN "SUPPRESSED_SENTINEL" Bundle.listD A s s.heap) (hS : va_S A s.heap H locs) (hsize : ls.size = c.maxLocals)
    (d0 : decode cc pc = .ok (.new ik, 3)) (d3 : decode cc (pc + 3) = .ok (.dup, 1)) (d4 : decode cc (pc + 4) = .ok (.invokespecial ic, 3)) (d7 : decode cc (pc + 7) = .ok (.athrow, 1))
    (hout : ∀ x ∈ c.exceptionTable.toList, covers x (pc + 7) = false)
    (hRframes : names.length + 3 < R.frames) (hRlocals : (rest.map fun v => v.category).sum + (13 * (names.length + 1) + 42) ≤ R.locals) (hRcells : cells + 1 ≤ R.cells) (hRslots : slots + 6 ≤ R.slots) (hlocks : meth.locks = false)
    (hx : ∀ t : State, s.vm.Alike t.vm → H.size ≤ t.heap.size → (∀ q : Nat, q < H.size → t.heap[q]? = H[q]?) → XC cls s t)
    (hf : ∀ z ∈ locs, free z.base) (hc : cells + 1 ≤ mc) (hs : slots + 6 ≤ ms) :
    W p l e R s m args below meth c H locs cells slots (vx_MQ below Qc XC args s mc ms free) (F0 m pc ls rest) := by
  intro T hT X
  have htr : e.platform.stackTraces = false := (show e.platform.stackTraces = l.stackTraces by rw [X.admits.platform]).trans hl
  have Y := vx_rebase X (R' := { frames := R.frames, locals := R.locals, cells := 1, slots := 6 }) (Nat.le_refl _) (Nat.le_refl _) hRcells hRslots
  obtain ⟨s', hA⟩ : ∃ z, z = (T.setVm s.vm).setFrames (.invoking m args :: below) := ⟨_, rfl⟩
  rw [← hA] at Y
  have hvm : s'.vm = s.vm := by rw [hA]; rfl
  have hhp : s'.heap = H := by rw [hA]; exact hT
  have hW0 : s.WarmedH s'.vm := by rw [hvm]; exact State.WarmedH.refl s
  have hat' : ∀ w ∈ vx_at0 own ic cls names, w.before args s' = true := fun w hw => vx_ot_at hW0 hvm.symm (hgood w (List.mem_cons_of_mem _ (List.mem_cons_of_mem _ hw))) (hat w hw)
  have hk' : (Cond.classLink own ik cls).before args s' = true := vx_ot_at hW0 hvm.symm (hgood _ List.mem_cons_self) hk
  have hini' : (Cond.initialized cls).before args s' = true := vx_ot_at hW0 hvm.symm (hgood _ (List.mem_cons_of_mem _ List.mem_cons_self)) hini
  have hU' : vx_Zq Bundle.tN "UNASSIGNED_STACK" Bundle.steD A s' s'.heap := by rw [hhp]; exact vx_Zq.moved hW0.alike (hU.kept hS.2.1)
  have hN' : vx_Zq Bundle.tN "SUPPRESSED_SENTINEL" Bundle.listD A s' s'.heap := by rw [hhp]; exact vx_Zq.moved hW0.alike (hN.kept hS.2.1)
  have h : ∀ w ∈ Bundle.ownAtoms0 own ic cls names, w.before args s' = true := vx_own hat' (vx_isRefq hU'.1) (vx_isRefq hN'.1) hU'.2.word hN'.2.word
  have hown' : s'.vm.findClass own = some m.cls := by rw [hvm]; exact hown
  have hins : (Cond.instantiable cls 6).before args s' = true := h _ (by simp [Bundle.ownAtoms0])
  obtain ⟨vm₁, cX, kX, hfX, hkX, -, -, X₁, st1⟩ := Y.newCold hexec (own := own) (C := cls) (index := ik) (n := 6) hown' hk' hins hini'
    (g := F0 m pc ls rest) rfl (by rw [hb]; exact d0) (Nat.le_refl _) (Nat.le_refl _)
  generalize hT1 : (T.setVm vm₁).pushCell { cls := cX, slots := kX.instanceTypes.map defaultValue, vm := .none } = T1 at X₁ st1
  have hcat : (Value.ref T.heap.size).category = 1 := rfl
  have hcellA : T1.heap[T.heap.size]? = some (freshCell cX kX) := by rw [← hT1]; exact State.heap_pushCell_size _ _
  have d3' : decode c.code (pc + 3) = .ok (.dup, 1) := by rw [hb]; exact d3
  obtain ⟨U, hsteps, hrun, hend, hW, hsame, ce, hce, hO⟩ := X₁.ctorThrow0 hexec htr (own := own) (cls := cls) (names := names) (ic := ic) hown' hcls hnames h (fun x hx => nomatch hx) hfX hkX hcellA (by rw [hhp, hT]; exact Nat.le_refl _)
    (g := { method := m, pc := pc + 4, locals := ls, stack := .ref T.heap.size :: .ref T.heap.size :: rest, locked := none }) rfl hsize rfl rfl (rest := rest) rfl
    (by rw [hb]; exact d4) (by rw [hb]; exact d7) hout hRframes (by simp only [List.map_cons, List.sum_cons, hcat]; omega) hlocks
  obtain ⟨f1, f2⟩ := vx_frame hsame
  rw [hhp] at f1 f2
  have hWs : s.WarmedH U.vm := State.WarmedH.trans hW0 hW
  have hcl : s.vm.findClass cls = some ce.cls := by
    have h9 := hO.cls
    rw [hvm] at h9
    exact h9
  have hall : s.sameButNew ({ U with vm := s.vm } : State) locs mc ms := by
    subst hA
    obtain ⟨e1, e2⟩ := hsame
    rw [State.setFrames_setFrames] at e1
    have h2 : (T.setVm s.vm).sameButNew ({ U with vm := s.vm } : State) [] (0 + 1) (0 + 6) := ⟨e1, e2⟩
    have h3 := X.same.trans h2
    rw [List.append_nil] at h3
    exact h3.mono hc hs
  refine ⟨U, ?_, .threw T.heap.size, hrun, hend, Or.inr ⟨T.heap.size, rfl, cls, ce, locs, hx U hWs.alike f1 (fun q hq => f2 q hq (fun z hz => nomatch hz)), hce, hO.vm, hcl, hWs, hall, hf⟩⟩
  refine st1 _ ?_
  show Steps p.tables e below (T1.setTop { method := m, pc := pc + 3, locals := ls, stack := .ref T.heap.size :: rest, locked := none }) _
  jvm_step X₁.here [X₁.here.top, hexec, d3', Value.category]
  exact hsteps
/-- 'throw new E("text")': new; dup; ldc; invokespecial; athrow -/
theorem vx_throwS {cc : ByteArray} {pc : Nat} (hexec : p.tables.exec = Jvm.exec) (hb : c.code = cc) (hl : l.stackTraces = false) {own cls text : String} {names : List String} {ik is ic mc ms sa : Nat} {A : Nat → Prop}
    (hown : s.vm.findClass own = some m.cls) (hcls : Bundle.fit cls = true) (hnames : ∀ n ∈ names, Bundle.fit n = true)
    (hk : (Cond.classLink own ik cls).before args s = true) (hini : (Cond.initialized cls).before args s = true) (hstr : vk_R own is text sa s) (hat : ∀ w ∈ vx_atS own ic cls names, w.before args s = true)
    (hgood : ∀ w ∈ Cond.classLink own ik cls :: Cond.initialized cls :: vx_atS own ic cls names, vx_ot w = true)
    (hU : vx_Zq Bundle.tN "UNASSIGNED_STACK" Bundle.steD A s s.heap) (hN : vx_Zq Bundle.tN "SUPPRESSED_SENTINEL" Bundle.listD A s s.heap) (hS : va_S A s.heap H locs) (hsize : ls.size = c.maxLocals)
    (d0 : decode cc pc = .ok (.new ik, 3)) (d3 : decode cc (pc + 3) = .ok (.dup, 1)) (d4 : decode cc (pc + 4) = .ok (.ldc is, 2)) (d6 : decode cc (pc + 6) = .ok (.invokespecial ic, 3)) (d9 : decode cc (pc + 9) = .ok (.athrow, 1))
    (hout : ∀ x ∈ c.exceptionTable.toList, covers x (pc + 9) = false)
    (hRframes : names.length + 3 < R.frames) (hRlocals : (rest.map fun v => v.category).sum + (13 * (names.length + 1) + 43) ≤ R.locals) (hRcells : cells + 1 ≤ R.cells) (hRslots : slots + 6 ≤ R.slots) (hlocks : meth.locks = false)
    (hx : ∀ t : State, s.vm.Alike t.vm → H.size ≤ t.heap.size → (∀ q : Nat, q < H.size → t.heap[q]? = H[q]?) → XC cls s t)
    (hf : ∀ z ∈ locs, free z.base) (hc : cells + 1 ≤ mc) (hs : slots + 6 ≤ ms) :
    W p l e R s m args below meth c H locs cells slots (vx_MQ below Qc XC args s mc ms free) (F0 m pc ls rest) := by
  intro T hT X
  have htr : e.platform.stackTraces = false := (show e.platform.stackTraces = l.stackTraces by rw [X.admits.platform]).trans hl
  have Y := vx_rebase X (R' := { frames := R.frames, locals := R.locals, cells := 1, slots := 6 }) (Nat.le_refl _) (Nat.le_refl _) hRcells hRslots
  obtain ⟨s', hA⟩ : ∃ z, z = (T.setVm s.vm).setFrames (.invoking m args :: below) := ⟨_, rfl⟩
  rw [← hA] at Y
  have hvm : s'.vm = s.vm := by rw [hA]; rfl
  have hhp : s'.heap = H := by rw [hA]; exact hT
  have hW0 : s.WarmedH s'.vm := by rw [hvm]; exact State.WarmedH.refl s
  have hat' : ∀ w ∈ vx_atS own ic cls names, w.before args s' = true := fun w hw => vx_ot_at hW0 hvm.symm (hgood w (List.mem_cons_of_mem _ (List.mem_cons_of_mem _ hw))) (hat w hw)
  have hk' : (Cond.classLink own ik cls).before args s' = true := vx_ot_at hW0 hvm.symm (hgood _ List.mem_cons_self) hk
  have hini' : (Cond.initialized cls).before args s' = true := vx_ot_at hW0 hvm.symm (hgood _ (List.mem_cons_of_mem _ List.mem_cons_self)) hini
  have hU' : vx_Zq Bundle.tN "UNASSIGNED_STACK" Bundle.steD A s' s'.heap := by rw [hhp]; exact vx_Zq.moved hW0.alike (hU.kept hS.2.1)
  have hN' : vx_Zq Bundle.tN "SUPPRESSED_SENTINEL" Bundle.listD A s' s'.heap := by rw [hhp]; exact vx_Zq.moved hW0.alike (hN.kept hS.2.1)
  have h : ∀ w ∈ Bundle.ownAtoms own ic cls names, w.before args s' = true := vx_own hat' (vx_isRefq hU'.1) (vx_isRefq hN'.1) hU'.2.word hN'.2.word
  have hown' : s'.vm.findClass own = some m.cls := by rw [hvm]; exact hown
  have hins : (Cond.instantiable cls 6).before args s' = true := h _ (by simp [Bundle.ownAtoms])
  obtain ⟨vm₁, cX, kX, hfX, hkX, -, -, X₁, st1⟩ := Y.newCold hexec (own := own) (C := cls) (index := ik) (n := 6) hown' hk' hins hini'
    (g := F0 m pc ls rest) rfl (by rw [hb]; exact d0) (Nat.le_refl _) (Nat.le_refl _)
  generalize hT1 : (T.setVm vm₁).pushCell { cls := cX, slots := kX.instanceTypes.map defaultValue, vm := .none } = T1 at X₁ st1
  have hcat : (Value.ref T.heap.size).category = 1 := rfl
  have hcellA : T1.heap[T.heap.size]? = some (freshCell cX kX) := by rw [← hT1]; exact State.heap_pushCell_size _ _
  have d3' : decode c.code (pc + 3) = .ok (.dup, 1) := by rw [hb]; exact d3
  have d4' : decode c.code (pc + 4) = .ok (.ldc is, 2) := by rw [hb]; exact d4
  have hstr' : vk_R own is text sa s' := vk_R.warm hW0 hstr
  obtain ⟨U, hsteps, hrun, hend, hW, hsame, ce, hce, hO⟩ := X₁.ctorThrowS hexec htr (own := own) (cls := cls) (names := names) (ic := ic) hown' hcls hnames h (fun x hx => nomatch hx) hfX hkX hcellA (by rw [hhp, hT]; exact Nat.le_refl _) (msg := .ref sa) rfl
    (g := { method := m, pc := pc + 6, locals := ls, stack := .ref sa :: .ref T.heap.size :: .ref T.heap.size :: rest, locked := none }) rfl hsize rfl rfl (rest := rest) rfl
    (by rw [hb]; exact d6) (by rw [hb]; exact d9) hout hRframes (by simp only [List.map_cons, List.sum_cons, hcat]; omega) hlocks
  obtain ⟨f1, f2⟩ := vx_frame hsame
  rw [hhp] at f1 f2
  have hWs : s.WarmedH U.vm := State.WarmedH.trans hW0 hW
  have hcl : s.vm.findClass cls = some ce.cls := by
    have h9 := hO.cls
    rw [hvm] at h9
    exact h9
  have hall : s.sameButNew ({ U with vm := s.vm } : State) locs mc ms := by
    subst hA
    obtain ⟨e1, e2⟩ := hsame
    rw [State.setFrames_setFrames] at e1
    have h2 : (T.setVm s.vm).sameButNew ({ U with vm := s.vm } : State) [] (0 + 1) (0 + 6) := ⟨e1, e2⟩
    have h3 := X.same.trans h2
    rw [List.append_nil] at h3
    exact h3.mono hc hs
  refine ⟨U, ?_, .threw T.heap.size, hrun, hend, Or.inr ⟨T.heap.size, rfl, cls, ce, locs, hx U hWs.alike f1 (fun q hq => f2 q hq (fun z hz => nomatch hz)), hce, hO.vm, hcl, hWs, hall, hf⟩⟩
  refine st1 _ ?_
  show Steps p.tables e below (T1.setTop { method := m, pc := pc + 3, locals := ls, stack := .ref T.heap.size :: rest, locked := none }) _
  jvm_step X₁.here [X₁.here.top, hexec, d3', Value.category]
  exact X₁.ldcString hexec (own := own) (text := text) (index := is) (a := sa) hown' hstr'.1 hstr'.2
    (g := { method := m, pc := pc + 4, locals := ls, stack := .ref T.heap.size :: .ref T.heap.size :: rest, locked := none }) rfl d4' _ hsteps
/-- 'throw new E("text")', the text by a wide index -/
theorem vx_throwSW {cc : ByteArray} {pc : Nat} (hexec : p.tables.exec = Jvm.exec) (hb : c.code = cc) (hl : l.stackTraces = false) {own cls text : String} {names : List String} {ik is ic mc ms sa : Nat} {A : Nat → Prop}
    (hown : s.vm.findClass own = some m.cls) (hcls : Bundle.fit cls = true) (hnames : ∀ n ∈ names, Bundle.fit n = true)
    (hk : (Cond.classLink own ik cls).before args s = true) (hini : (Cond.initialized cls).before args s = true) (hstr : vk_R own is text sa s) (hat : ∀ w ∈ vx_atS own ic cls names, w.before args s = true)
    (hgood : ∀ w ∈ Cond.classLink own ik cls :: Cond.initialized cls :: vx_atS own ic cls names, vx_ot w = true)
    (hU : vx_Zq Bundle.tN "UNASSIGNED_STACK" Bundle.steD A s s.heap) (hN : vx_Zq Bundle.tN "SUPPRESSED_SENTINEL" Bundle.listD A s s.heap) (hS : va_S A s.heap H locs) (hsize : ls.size = c.maxLocals)
    (d0 : decode cc pc = .ok (.new ik, 3)) (d3 : decode cc (pc + 3) = .ok (.dup, 1)) (d4 : decode cc (pc + 4) = .ok (.ldc_w is, 3)) (d7 : decode cc (pc + 7) = .ok (.invokespecial ic, 3)) (d10 : decode cc (pc + 10) = .ok (.athrow, 1))
    (hout : ∀ x ∈ c.exceptionTable.toList, covers x (pc + 10) = false)
    (hRframes : names.length + 3 < R.frames) (hRlocals : (rest.map fun v => v.category).sum + (13 * (names.length + 1) + 43) ≤ R.locals) (hRcells : cells + 1 ≤ R.cells) (hRslots : slots + 6 ≤ R.slots) (hlocks : meth.locks = false)
    (hx : ∀ t : State, s.vm.Alike t.vm → H.size ≤ t.heap.size → (∀ q : Nat, q < H.size → t.heap[q]? = H[q]?) → XC cls s t)
    (hf : ∀ z ∈ locs, free z.base) (hc : cells + 1 ≤ mc) (hs : slots + 6 ≤ ms) :
    W p l e R s m args below meth c H locs cells slots (vx_MQ below Qc XC args s mc ms free) (F0 m pc ls rest) := by
  intro T hT X
  have htr : e.platform.stackTraces = false := (show e.platform.stackTraces = l.stackTraces by rw [X.admits.platform]).trans hl
  have Y := vx_rebase X (R' := { frames := R.frames, locals := R.locals, cells := 1, slots := 6 }) (Nat.le_refl _) (Nat.le_refl _) hRcells hRslots
  obtain ⟨s', hA⟩ : ∃ z, z = (T.setVm s.vm).setFrames (.invoking m args :: below) := ⟨_, rfl⟩
  rw [← hA] at Y
  have hvm : s'.vm = s.vm := by rw [hA]; rfl
  have hhp : s'.heap = H := by rw [hA]; exact hT
  have hW0 : s.WarmedH s'.vm := by rw [hvm]; exact State.WarmedH.refl s
  have hat' : ∀ w ∈ vx_atS own ic cls names, w.before args s' = true := fun w hw => vx_ot_at hW0 hvm.symm (hgood w (List.mem_cons_of_mem _ (List.mem_cons_of_mem _ hw))) (hat w hw)
  have hk' : (Cond.classLink own ik cls).before args s' = true := vx_ot_at hW0 hvm.symm (hgood _ List.mem_cons_self) hk
  have hini' : (Cond.initialized cls).before args s' = true := vx_ot_at hW0 hvm.symm (hgood _ (List.mem_cons_of_mem _ List.mem_cons_self)) hini
  have hU' : vx_Zq Bundle.tN "UNASSIGNED_STACK" Bundle.steD A s' s'.heap := by rw [hhp]; exact vx_Zq.moved hW0.alike (hU.kept hS.2.1)
  have hN' : vx_Zq Bundle.tN "SUPPRESSED_SENTINEL" Bundle.listD A s' s'.heap := by rw [hhp]; exact vx_Zq.moved hW0.alike (hN.kept hS.2.1)
  have h : ∀ w ∈ Bundle.ownAtoms own ic cls names, w.before args s' = true := vx_own hat' (vx_isRefq hU'.1) (vx_isRefq hN'.1) hU'.2.word hN'.2.word
  have hown' : s'.vm.findClass own = some m.cls := by rw [hvm]; exact hown
  have hins : (Cond.instantiable cls 6).before args s' = true := h _ (by simp [Bundle.ownAtoms])
  obtain ⟨vm₁, cX, kX, hfX, hkX, -, -, X₁, st1⟩ := Y.newCold hexec (own := own) (C := cls) (index := ik) (n := 6) hown' hk' hins hini'
    (g := F0 m pc ls rest) rfl (by rw [hb]; exact d0) (Nat.le_refl _) (Nat.le_refl _)
  generalize hT1 : (T.setVm vm₁).pushCell { cls := cX, slots := kX.instanceTypes.map defaultValue, vm := .none } = T1 at X₁ st1
  have hcat : (Value.ref T.heap.size).category = 1 := rfl
  have hcellA : T1.heap[T.heap.size]? = some (freshCell cX kX) := by rw [← hT1]; exact State.heap_pushCell_size _ _
  have d3' : decode c.code (pc + 3) = .ok (.dup, 1) := by rw [hb]; exact d3
  have d4' : decode c.code (pc + 4) = .ok (.ldc_w is, 3) := by rw [hb]; exact d4
  have hstr' : vk_R own is text sa s' := vk_R.warm hW0 hstr
  obtain ⟨U, hsteps, hrun, hend, hW, hsame, ce, hce, hO⟩ := X₁.ctorThrowS hexec htr (own := own) (cls := cls) (names := names) (ic := ic) hown' hcls hnames h (fun x hx => nomatch hx) hfX hkX hcellA (by rw [hhp, hT]; exact Nat.le_refl _) (msg := .ref sa) rfl
    (g := { method := m, pc := pc + 7, locals := ls, stack := .ref sa :: .ref T.heap.size :: .ref T.heap.size :: rest, locked := none }) rfl hsize rfl rfl (rest := rest) rfl
    (by rw [hb]; exact d7) (by rw [hb]; exact d10) hout hRframes (by simp only [List.map_cons, List.sum_cons, hcat]; omega) hlocks
  obtain ⟨f1, f2⟩ := vx_frame hsame
  rw [hhp] at f1 f2
  have hWs : s.WarmedH U.vm := State.WarmedH.trans hW0 hW
  have hcl : s.vm.findClass cls = some ce.cls := by
    have h9 := hO.cls
    rw [hvm] at h9
    exact h9
  have hall : s.sameButNew ({ U with vm := s.vm } : State) locs mc ms := by
    subst hA
    obtain ⟨e1, e2⟩ := hsame
    rw [State.setFrames_setFrames] at e1
    have h2 : (T.setVm s.vm).sameButNew ({ U with vm := s.vm } : State) [] (0 + 1) (0 + 6) := ⟨e1, e2⟩
    have h3 := X.same.trans h2
    rw [List.append_nil] at h3
    exact h3.mono hc hs
  refine ⟨U, ?_, .threw T.heap.size, hrun, hend, Or.inr ⟨T.heap.size, rfl, cls, ce, locs, hx U hWs.alike f1 (fun q hq => f2 q hq (fun z hz => nomatch hz)), hce, hO.vm, hcl, hWs, hall, hf⟩⟩
  refine st1 _ ?_
  show Steps p.tables e below (T1.setTop { method := m, pc := pc + 3, locals := ls, stack := .ref T.heap.size :: rest, locked := none }) _
  jvm_step X₁.here [X₁.here.top, hexec, d3', Value.category]
  exact X₁.ldcStringW hexec (own := own) (text := text) (index := is) (a := sa) hown' hstr'.1 hstr'.2
    (g := { method := m, pc := pc + 4, locals := ls, stack := .ref T.heap.size :: .ref T.heap.size :: rest, locked := none }) rfl d4' _ hsteps
end Ends
section Bodies
variable {l : Launch}
theorem vx_ofW {y : MethodName} {ws ws' : List Cond} {rm : Room} {Pc : Array Value → State → Prop} {Qc : Array Value → State → Outcome → State → Prop} {XC : String → State → State → Prop} {mc ms : Nat} {free : Addr → Prop} {cc : ByteArray} {maxL : Nat} {ret : Option FieldType}
    (hy : plainName y.cls = true) (hw : ws = Cond.code y cc maxL ret :: ws')
    (body : ∀ p e s m args below meth c s₁, BodyLoose p l y (headSpec ws rm) cc maxL ret e s m args below meth c s₁ → c.maxLocals = maxL → (∀ x ∈ c.exceptionTable.toList, False) → Pc args s →
      W p l e (headSpec ws rm).room s m args below meth c s.heap [] 0 0 (vx_MQ below Qc XC args s mc ms free) (entryFrame m args maxL)) : vx_Met l y ws rm Pc Qc XC mc ms free := by
  refine MetFree.of_bodyS (code := cc) (maxLocals := maxL) (ret := ret) hy ?_ ?_
  · intro args s m h hn
    obtain ⟨meth, c, h1, h2, h3, h4, h5, h6, -, -⟩ := Cond.code_spec hn (atoms_spec (ws := ws) h _ (by rw [hw]; exact List.mem_cons_self))
    exact ⟨meth, c, h1, h2, h3, h4, h5, h6⟩
  · intro p e s m args below meth c s₁ B hml hP _
    have hh0 : s₁.heap = s.heap := by rw [B.state]; rfl
    have ht : ∀ x ∈ c.exceptionTable.toList, False := by
      obtain ⟨meth9, c9, h1, h2, -, -, -, -, h7, -⟩ := Cond.code_spec B.named (atoms_spec (ws := ws) B.pre _ (by rw [hw]; exact List.mem_cons_self))
      cases Option.some.inj (h1.symm.trans B.method)
      cases Option.some.inj (h2.symm.trans (Stand.of_body B).code)
      intro x hx
      rw [Array.isEmpty_iff.mp h7] at hx
      cases hx
    obtain ⟨t, a1, o, b1, b2, b3⟩ := body p e s m args below meth c s₁ B hml ht hP s₁ hh0 (Stand.of_body B)
    exact ⟨t, o, a1, b1, b2, b3⟩
/-- the table of a body with handlers -/
theorem vx_table {p : Program} {x y : MethodName} {S : Spec} {cc bytes : ByteArray} {maxL maxL' : Nat} {ret ret' : Option FieldType} {e : Env} {s s₁ : State} {m : MethodId} {args : Array Value} {below : List Frame} {meth : Method} {c : Code} {hh : List (Nat × Nat × Nat × Nat)}
    (B : BodyLoose p l y S cc maxL ret e s m args below meth c s₁) (h : (Cond.codeWith y bytes maxL' ret' hh).before args s = true) : c.exceptionTable.toList = tableOf hh := by
  obtain ⟨m9, meth9, c9, hn9, h1, h2, -, -, h6, -⟩ := Cond.codeWith_spec h
  cases Option.some.inj (hn9.symm.trans B.named)
  cases Option.some.inj (h1.symm.trans B.method)
  cases Option.some.inj (h2.symm.trans (Stand.of_body B).code)
  rw [← h6, table_eq]
end Bodies
end VXA
/-! ===== END ===== -/
/-! ===== BEGIN a static call of a method with an exception table ===== -/
section VXS
variable {p : Program} {l : Launch} {e : Env} {R : Room} {s : State} {m : MethodId} {args : Array Value} {below : List Frame} {meth : Method} {c : Code} {T : State} {H : Heap} {locs : List Loc} {cells slots : Nat}
abbrev vx_CSW (R : Room) (s : State) (args : Array Value) (own : String) (index : Nat) (y : MethodName) (bytes : ByteArray) (maxL : Nat) (ret : Option FieldType) (hh : List (Nat × Nat × Nat × Nat)) (ws : List Cond) (rm : Room) (mc ms n : Nat) : Prop :=
  (rm.cells = mc ∧ rm.slots = ms ∧ rm.frames + 1 ≤ R.frames ∧ 8 + (maxL + 11) + rm.locals ≤ R.locals ∧ (∀ w ∈ ws, ∀ (a' : Array Value) (U : State), s.WarmedH U.vm → w.before a' U = true) ∧ Cond.codeWith y bytes maxL ret hh ∈ ws) ∧
  (Cond.codeWith y bytes maxL ret hh).before args s = true ∧ (Cond.initialized y.cls).before args s = true ∧ (y.cls ≠ "java/lang/invoke/MethodHandle" ∧ y.cls ≠ "java/lang/invoke/VarHandle") ∧
  (∀ sig, parseMethodDescriptor y.desc = some sig → n = sig.parameters.length) ∧ (Cond.methodLink own index y).before args s = true ∧ (Cond.static y).before args s = true
theorem vx_cwSW {own : String} {index maxL mc ms : Nat} {y : MethodName} {bytes : ByteArray} {ret : Option FieldType} {hh : List (Nat × Nat × Nat × Nat)} {Ts ws ws' : List Cond} {rm : Room} (n : Nat) (ht : ∀ w ∈ Ts, w.before args s = true) (hT : GoodIn Ts (va_wsS own index y ws)) (hw : ws = Cond.codeWith y bytes maxL ret hh :: ws') (hrc : rm.cells = mc) (hrs : rm.slots = ms)
    (hd : y.cls ≠ "java/lang/invoke/MethodHandle" ∧ y.cls ≠ "java/lang/invoke/VarHandle" ∧ (parseMethodDescriptor y.desc).map (fun d => d.parameters.length) = some n) (hR : rm.frames + 1 ≤ R.frames ∧ 8 + (maxL + 11) + rm.locals ≤ R.locals) :
    vx_CSW R s args own index y bytes maxL ret hh ws rm mc ms n := by
  have ok : ∀ w ∈ va_wsS own index y ws, w.before args s = true := fun w h => ht w (hT w h).1
  have hG : GoodIn Ts ws := fun w h => hT w (by unfold va_wsS; exact List.mem_append_right _ h)
  have hc : Cond.codeWith y bytes maxL ret hh ∈ ws := by rw [hw]; exact List.mem_cons_self
  refine ⟨⟨hrc, hrs, hR.1, hR.2, pay_in ht hG, hc⟩, ht _ (hG _ hc).1, ok _ (by simp [va_wsS]), ⟨hd.1, hd.2.1⟩, fun sig h => ?_, ok _ (by simp [va_wsS]), ok _ (by simp [va_wsS])⟩
  have h2 := hd.2.2
  rw [h] at h2
  exact (Option.some.inj h2).symm
theorem vx_callSW (X : Stand p l e R s m args below meth c T locs cells slots) (hexec : p.tables.exec = Jvm.exec) {own : String} {index : Nat} {y : MethodName} {bytes : ByteArray} {maxL : Nat} {ret : Option FieldType} {hh : List (Nat × Nat × Nat × Nat)}
    (hown : s.vm.findClass own = some m.cls) (hlink : (Cond.methodLink own index y).before args s = true) (hstat : (Cond.static y).before args s = true) (hinit : (Cond.initialized y.cls).before args s = true)
    (hcode : (Cond.codeWith y bytes maxL ret hh).before args s = true) (hy : y.cls ≠ "java/lang/invoke/MethodHandle" ∧ y.cls ≠ "java/lang/invoke/VarHandle")
    {W9 : Nat} {Pre : Pt → Array Value → Prop} {Post : Pt → Array Value → Option Value → Pt → Prop} (hK : Back l R p e below s args y 3 W9 Pre Post)
    {g : JFrame} (hg : g.method = m) (hsize : g.locals.size = c.maxLocals) {argsL rest : List Value} (hlen : ∀ sig, parseMethodDescriptor y.desc = some sig → argsL.length = sig.parameters.length)
    (hstack : g.stack = argsL.reverse ++ rest) (hW : 2 * g.monitorRoom + (rest.map fun v => v.category).sum ≤ W9) (hdg : decode c.code g.pc = .ok (.invokestatic index, 3))
    (hpre : ∀ vm₁, s.WarmedH vm₁ → Pre ⟨T.setVm vm₁, locs, cells, slots⟩ argsL.toArray) :
    ∃ (v : Option Value) (vm₁ : Vm) (B : Pt), s.WarmedH vm₁ ∧ Stand p l e R s m args below meth c B.U B.locs B.cells B.slots ∧ Post ⟨T.setVm vm₁, locs, cells, slots⟩ argsL.toArray v B ∧
      ∀ target, Steps p.tables e below (B.U.setTop { g with pc := g.pc + 3, stack := v.toList ++ rest }) target → Steps p.tables e below (T.setTop g) target := by
  obtain ⟨mk, methM, cM, hnamed, hmethM, -, -, -, -, -, -, hsigM⟩ := Cond.codeWith_spec hcode
  have hstatic : methM.isStatic = true := Cond.static_spec hnamed hmethM hstat
  obtain ⟨kP, hkP, -⟩ := className_of_methodNamed hnamed
  have hinitP : kP.init = .initialized := Cond.initialized_spec (findClass_of_methodNamed hnamed) hkP hinit
  obtain ⟨vm₁, X₁, hstep₁⟩ := X.invokestatic hexec hown hlink hnamed hmethM hstatic hkP hinitP hy (g := g) hg (argsL := argsL) (rest := rest) (hlen _ hsigM) hstack hdg
  obtain ⟨v, B, X', hpost, hsteps⟩ := hK m meth c ⟨T.setVm vm₁, locs, cells, slots⟩ { g with stack := rest } (.invokestatic index) mk argsL.toArray X₁ hg hsize hdg hW (X₁.named hnamed) (hpre vm₁ X₁.warmed)
  exact ⟨v, vm₁, B, X₁.warmed, X', hpost, fun target h => hstep₁ _ fun acts => by rw [doInvoke_state]; exact hsteps.trans h⟩
theorem vx_runSW {y : MethodName} {bytes cc : ByteArray} {maxL nL mc ms n index : Nat} {ret : Option FieldType} {hh : List (Nat × Nat × Nat × Nat)} {ws : List Cond} {rm : Room} {Pc : Array Value → State → Prop} {Qc : Array Value → State → Outcome → State → Prop} {free : Addr → Prop} {Ts : List Cond} {own : String} {As rest : List Value} {g : JFrame}
    (S : CallFix p m c cc nL s args Ts own) (hM : Met l y ws rm Pc Qc mc ms free) (cw : vx_CSW R s args own index y bytes maxL ret hh ws rm mc ms n) (hp : PreS s H Pc As)
    (hg : g.method = m) (hn : As.length = n) (hsize : g.locals.size = nL) (hstack : g.stack = As.reverse ++ rest) (hW : 2 * g.monitorRoom + (rest.map fun v => v.category).sum ≤ 8) (hdg : decode cc g.pc = .ok (.invokestatic index, 3)) (hf : cells + mc ≤ R.cells ∧ slots + ms ≤ R.slots) :
    va_Run p l e R s m args below meth c H locs cells slots mc ms g rest (Qc As.toArray) (free) := by
  obtain ⟨⟨hrc, hrs, hfr, hlo, hws, hcw⟩, hcode, hini, hy, hlen, hl, hstt⟩ := cw
  have hK : Back l R p e below s args y 3 8 (PreOf R mc ms Pc) (PostOf Qc mc ms free) := va_backW (hh := hh) (bytes := bytes) (maxL := maxL) (ret := ret) hM hp.1 hrc hrs hfr hlo hws hcw (fun a' U hW => word_at hW (Or.inl (by first | rfl | simp [Cond.onTables, Cond.keeps, Cond.steady])) hini)
  obtain ⟨hx, hb, hml, ho, -⟩ := S
  intro T hT X
  obtain ⟨v, vm₁, ⟨U', l2, c2, s2⟩, hW₁, X', ⟨g', mk, t, L, e1, e2, hq, h1, hL, h2, h3⟩, st⟩ := vx_callSW X hx (hh := hh) (bytes := bytes) (maxL := maxL) (ret := ret) ho hl hstt hini hcode hy hK hg (hsize.trans hml.symm) (argsL := As) (rest := rest) (fun sig h => hn.trans (hlen sig h)) hstack hW (by rw [hb]; exact hdg)
    (fun vm₁ hW₁ => ⟨hf.1, hf.2, hp.2 (T.setVm vm₁) hT hW₁⟩)
  dsimp only [Pt.U, Pt.locs, Pt.cells, Pt.slots] at X' e1 e2 h1 h2 h3 st
  subst h1; subst h2; subst h3
  exact ⟨v, (T.setVm vm₁).calling g' mk As.toArray, t, U', L, hT, X', hL, e1, e2, hq, st⟩
/-- not caught here, past rows that name other classes: it goes on to the caller -/
theorem vx_outP {p : Program} {l : Launch} {e : Env} {R : Room} {s : State} {m : MethodId} {args : Array Value} {below : List Frame} {meth : Method} {c : Code} {H : Heap} {locs : List Loc} {cells slots : Nat} {free : Addr → Prop} {ls : Array Slot} {rest : List Value} {Qc : Array Value → State → Outcome → State → Prop} {XC : String → State → State → Prop}
    {pc : Nat} {own E : String} {ce : Cell} {q : Addr} {mc ms : Nat} (hown : s.vm.findClass own = some m.cls) (hlocks : meth.locks = false)
    (hpass : ∀ z ∈ c.exceptionTable.toList, covers z pc = false ∨ (z.catchType ≠ 0 ∧ ∃ nm : String, (Cond.classLink own z.catchType nm).before args s = true ∧ va_Nc E nm s)) (hcell : H[q]? = some ce) (hv : ce.vm = .none) (hcl : s.vm.findClass E = some ce.cls)
    (hx : ∀ t : State, t.heap = H → s.vm.Alike t.vm → XC E s t) (hf : ∀ z ∈ locs, free z.base) (hc : cells ≤ mc) (hs : slots ≤ ms) :
    vx_W p l e R s m args below meth c H locs cells slots (vx_MQ below Qc XC args s mc ms free) (F0 m pc ls rest) q := by
  intro T hT X
  have hpl : e.platform.magicAccessors = ({} : Platform).magicAccessors := by rw [X.admits.platform]
  obtain ⟨vm', hW', X', st⟩ := X.outThrough hlocks q (g := F0 m pc ls rest) rfl rfl rfl (cell := ce) (by rw [hT]; exact hcell) (by rw [hv]; rfl)
    (by obtain ⟨k9, h9, -⟩ := Vm.findClass_spec hcl; exact ⟨k9, h9⟩) (fun z hz => by
      rcases hpass z hz with h | ⟨hz0, nm, hl1, hn1⟩
      · exact Or.inl h
      · obtain ⟨c6, hc6, hcl6⟩ := Cond.classLink_spec hown hl1 e.platform hpl
        obtain ⟨a8, b8, h1, h2, h3⟩ := hn1
        cases Option.some.inj (h1.symm.trans hcl)
        cases Option.some.inj (h2.symm.trans hc6)
        exact Or.inr ⟨hz0, _, hcl6, h3⟩)
  obtain ⟨g₀, hfr⟩ := X'.frames_eq
  have hcell9 : ((T.setVm vm').setFrames (.throwing q :: below)).heap[q]? = some ce := by
    show T.heap[q]? = some ce
    rw [hT]; exact hcell
  have hend : Ended ((T.setVm vm').setFrames (.throwing q :: below)) below (.threw q) := State.frames_setFrames _ (State.cur_lt_of_frames hfr)
  refine ⟨(T.setVm vm').setFrames (.throwing q :: below), ?_, .threw q, X'.here.running, hend, Or.inr ⟨q, rfl, E, ce, locs, hx _ hT (X'.ends _).1.alike, hcell9, hv, hcl, (X'.ends _).1, (X'.ends _).2.mono hc hs, hf⟩⟩
  rw [X.pushThrowing_eq]
  exact st
/-- a thing of a world lies in the heap -/
theorem vx_lt {D : va_G} {cl : List vw_C} {ws : va_W} {H1 : Heap} (h : va_P D cl ws H1) {k : Nat} {q : Nat × va_E} (hk : ws[k]? = some q) : q.1 < H1.size := (h k q hk).lt
end VXS
/-! ===== END ===== -/
/-! ===== BEGIN methods with a table of their own: called by a name, returning or throwing ===== -/
section VXH
/-! vx_backW, vx_callVX, vx_callSX, vx_callVW, vx_runVW, vx_runVX, vx_runSX, vx_ofWH follow the same proofs as their sisters above (Free/Laws.lean, Shelf42/LK1.lean); vx_outP calls Shelf42/NT130.lean (outThrough). -/
section
variable {l : Launch} {R : Room} {p : Program} {e : Env} {below : List Frame} {s : State} {sargs : Array Value} {y : MethodName} {len W9 : Nat}
theorem vx_backW {ws : List Cond} {rm : Room} {Pc : Array Value → State → Prop} {Qc : Array Value → State → Outcome → State → Prop} {XC : String → State → State → Prop} {mc ms : Nat} {free : Addr → Prop} {bytes : ByteArray} {maxL : Nat} {ret : Option FieldType} {hh : List (Nat × Nat × Nat × Nat)}
    (hM : vx_Met l y ws rm Pc Qc XC mc ms free) (hblind : FrameBlind Pc) (hrc : rm.cells = mc) (hrs : rm.slots = ms)
    (hframes : rm.frames + 1 ≤ R.frames) (hlocals : W9 + (maxL + 11) + rm.locals ≤ R.locals)
    (hws : ∀ w ∈ ws, ∀ a' U, s.WarmedH U.vm → w.before a' U = true) (hcode : Cond.codeWith y bytes maxL ret hh ∈ ws) (hinit : ∀ a' U, s.WarmedH U.vm → (Cond.initialized y.cls).before a' U = true) :
    vx_Back l R p e below s sargs y len W9 (PreOf R mc ms Pc) (PostOf Qc mc ms free) (vx_Post XC mc ms free) := by
  intro m meth c A g ig mk a X hg hsize hdg hW hn hp
  have h1 : (headSpec ws rm).pre.before a A.U = true := atoms_intro fun w hw => hws w hw _ _ X.warmed
  have h2 : (Cond.codeWith y bytes maxL ret hh).before a A.U = true := hws _ hcode _ _ X.warmed
  have h3 : (Cond.initialized y.cls).before a A.U = true := hinit _ _ X.warmed
  have h4 : A.cells + (headSpec ws rm).room.cells ≤ R.cells := by rw [show (headSpec ws rm).room.cells = mc from hrc]; exact hp.1
  have h5 : A.slots + (headSpec ws rm).room.slots ≤ R.slots := by rw [show (headSpec ws rm).room.slots = ms from hrs]; exact hp.2.1
  have hPc : Pc a (A.U.calling g mk a) := hblind _ _ _ _ hp.2.2
  obtain ⟨U, Ls, c0, s0⟩ := A
  dsimp only [Pt.U, Pt.locs, Pt.cells, Pt.slots] at h1 h2 h3 h4 h5 X hn hPc ⊢
  obtain ⟨m9, methY, cY, hn9, hmY, hcY, -, hlY, -⟩ := Cond.codeWith_spec h2
  cases Option.some.inj (hn9.symm.trans hn)
  obtain ⟨kY, hkY, -⟩ := className_of_methodNamed hn
  have hinitY : kY.init = .initialized := Cond.initialized_spec (findClass_of_methodNamed hn) hkY h3
  have h : At U g.method c below := by rw [hg]; exact X.here
  have hlocals9 : W9 + (maxL + 11) + (headSpec ws rm).room.locals ≤ R.locals := hlocals
  have happ : (headSpec ws rm).appliesLoose y e.platform (U.calling g mk a) = true :=
    Spec.appliesLoose_calling (g := g) h hdg hn hkY hinitY
      (X.room_calling (g := g) (R' := (headSpec ws rm).room) hsize hmY hcY hframes (by rw [hlY]; omega) h4 h5) h1
  obtain ⟨mid, hmid⟩ := h.above
  have hfr : (U.setTop g).frames = (.java g :: mid) ++ below := by rw [State.frames_setTop' g h.top, hmid]; rfl
  obtain ⟨o, s₂, hsteps, -, hend, hq⟩ := Steps.callFree hM p X.admits X.cas X.clock (acts := []) hfr happ hPc trivial
  have hq' : vx_Q Qc XC mc ms free a (U.calling g mk a) o s₂ := hq
  rw [State.frames_setTop' g h.top] at hend
  obtain ⟨g₀, hg0⟩ := Option.isSome_iff_exists.mp h.top
  obtain ⟨r, hr⟩ := State.topJava?_eq_some.mp hg0
  have hr' : (({ U with heap := s₂.heap, slotsUsed := s₂.slotsUsed } : State).setVm s₂.vm).frames = .java g₀ :: r := hr
  rcases hq' with ⟨hqc, L, hfe, hL⟩ | ⟨q, rfl, E, ce, L, hx, hce, hcv, hcl, hW₂, hsm, hL⟩
  · obtain ⟨⟨v, rfl⟩, hW₂, e2, q2, q3, q4, q5, q6⟩ := id hfe
    have e3 : s₂ = ({ (U.calling g mk a).setFrames s₂.frames with heap := s₂.heap, slotsUsed := s₂.slotsUsed } : State).setVm s₂.vm := by
      have : s₂ = ({ s₂ with vm := (U.calling g mk a).vm } : State).setVm s₂.vm := rfl
      rw [e2] at this
      exact this
    obtain ⟨c₂, i₂, len₂, hc₂, hd₂, hf₂⟩ := hend
    have hW' : U.WarmedH s₂.vm := hW₂
    have hcc : c₂ = c := by
      have h1 : s₂.code? g.method = U.code? g.method := by
        rw [State.code?_eq, State.code?_eq, hW'.alike.method?]
      exact Option.some.inj (hc₂.symm.trans (h1.trans h.code))
    subst hcc
    have hlen : len₂ = len := by rw [hdg] at hd₂; cases hd₂; rfl
    subst hlen
    have hs₂ : s₂ = (({ U with heap := s₂.heap, slotsUsed := s₂.slotsUsed } : State).setVm s₂.vm).setTop { g with pc := g.pc + len₂, stack := v.toList ++ g.stack } := by
      refine e3.trans ?_
      rw [hf₂, State.calling_eq h.top, State.setFrames_setFrames, State.setTop_of_frames _ hr', hr]
      rfl
    have hsame : U.sameButNew ({ U with heap := s₂.heap, slotsUsed := s₂.slotsUsed } : State) L mc ms := by
      refine ⟨?_, q2, q3, q4, q5, q6⟩
      obtain ⟨t, ht, -⟩ := State.frames_cons hr
      show ({ U with heap := s₂.heap, slotsUsed := s₂.slotsUsed } : State) = { U.setFrames U.frames with heap := s₂.heap, slotsUsed := s₂.slotsUsed }
      rw [State.setFrames_self ht]
    subst hg
    refine Or.inl ⟨v, ⟨(({ U with heap := s₂.heap, slotsUsed := s₂.slotsUsed } : State).setVm s₂.vm), Ls ++ L, c0 + mc, s0 + ms⟩,
      ⟨X.admits, X.cas, X.clock, X.frames, X.room, X.hears, X.method, X.code, (X.here.setHeapUsed s₂.heap s₂.slotsUsed).setVm hW'.alike, X.tail, State.WarmedH.trans X.warmed hW', X.limits, X.bytes, X.same.trans (hsame.setVm s.vm)⟩,
      ⟨g, mk, s₂, L, rfl, rfl, hqc, rfl, hL, rfl, rfl⟩, ?_⟩
    show Steps p.tables e below _ ((({ U with heap := s₂.heap, slotsUsed := s₂.slotsUsed } : State).setVm s₂.vm).setTop { g with pc := g.pc + len₂, stack := v.toList ++ g.stack })
    rw [← hs₂]
    exact hsteps
  · obtain ⟨e2, q2, q3, q4, q5, q6⟩ := id hsm
    have e3 : s₂ = ({ (U.calling g mk a).setFrames s₂.frames with heap := s₂.heap, slotsUsed := s₂.slotsUsed } : State).setVm s₂.vm := by
      have : s₂ = ({ s₂ with vm := (U.calling g mk a).vm } : State).setVm s₂.vm := rfl
      rw [e2] at this
      exact this
    have hf₂ : s₂.frames = .throwing q :: .java g :: U.frames.tail := hend
    have hW' : U.WarmedH s₂.vm := hW₂
    have hs₂ : s₂ = ((({ U with heap := s₂.heap, slotsUsed := s₂.slotsUsed } : State).setVm s₂.vm).setTop g).pushFrame (.throwing q) := by
      refine e3.trans ?_
      rw [hf₂, State.calling_eq h.top, State.setFrames_setFrames, State.pushFrame, State.frames_setTop _ hr', State.setTop_of_frames _ hr', State.setFrames_setFrames, hr]
      rfl
    have hsame : U.sameButNew ({ U with heap := s₂.heap, slotsUsed := s₂.slotsUsed } : State) L mc ms := by
      refine ⟨?_, q2, q3, q4, q5, q6⟩
      obtain ⟨t, ht, -⟩ := State.frames_cons hr
      show ({ U with heap := s₂.heap, slotsUsed := s₂.slotsUsed } : State) = { U.setFrames U.frames with heap := s₂.heap, slotsUsed := s₂.slotsUsed }
      rw [State.setFrames_self ht]
    subst hg
    refine Or.inr ⟨q, ⟨(({ U with heap := s₂.heap, slotsUsed := s₂.slotsUsed } : State).setVm s₂.vm), Ls ++ L, c0 + mc, s0 + ms⟩,
      ⟨X.admits, X.cas, X.clock, X.frames, X.room, X.hears, X.method, X.code, (X.here.setHeapUsed s₂.heap s₂.slotsUsed).setVm hW'.alike, X.tail, State.WarmedH.trans X.warmed hW', X.limits, X.bytes, X.same.trans (hsame.setVm s.vm)⟩,
      ⟨g, mk, s₂, L, E, ce, rfl, rfl, hx, hce, hcv, hcl, rfl, hL, rfl, rfl⟩, ?_⟩
    show Steps p.tables e below _ (((({ U with heap := s₂.heap, slotsUsed := s₂.slotsUsed } : State).setVm s₂.vm).setTop g).pushFrame (.throwing q))
    rw [← hs₂]
    exact hsteps
end
variable {p : Program} {l : Launch} {e : Env} {R : Room} {s : State} {m : MethodId} {args : Array Value} {below : List Frame} {meth : Method} {c : Code} {T : State} {H : Heap} {locs : List Loc} {cells slots : Nat}
theorem vx_callVX (X : Stand p l e R s m args below meth c T locs cells slots) (hexec : p.tables.exec = Jvm.exec) {own C : String} {index : Nat} {y : MethodName} {bytes : ByteArray} {maxL : Nat} {ret : Option FieldType} {hh : List (Nat × Nat × Nat × Nat)}
    (hown : s.vm.findClass own = some m.cls) (hlink : (Cond.methodLink own index y).before args s = true) (hinst : (Cond.instanceMethod y).before args s = true) (hsel : (Cond.selects C y y).before args s = true)
    (hcode : (Cond.codeWith y bytes maxL ret hh).before args s = true) (hy : y.cls ≠ "java/lang/invoke/MethodHandle" ∧ y.cls ≠ "java/lang/invoke/VarHandle")
    {W9 : Nat} {Pre : Pt → Array Value → Prop} {Post : Pt → Array Value → Option Value → Pt → Prop} {PostX : Pt → Array Value → Addr → Pt → Prop} (hK : vx_Back l R p e below s args y 3 W9 Pre Post PostX)
    {b : Addr} {cellB : Cell} (hcell : T.heap[b]? = some cellB) (hobj : cellB.vm.isStatics = false) (hcls : s.vm.findClass C = some cellB.cls)
    {g : JFrame} (hg : g.method = m) (hsize : g.locals.size = c.maxLocals) {argsL rest : List Value} (hlen : ∀ sig, parseMethodDescriptor y.desc = some sig → argsL.length = sig.parameters.length)
    (hstack : g.stack = argsL.reverse ++ .ref b :: rest) (hW : 2 * g.monitorRoom + (rest.map fun v => v.category).sum ≤ W9) (hdg : decode c.code g.pc = .ok (.invokevirtual index, 3))
    (hpre : ∀ vm₁, s.WarmedH vm₁ → Pre ⟨T.setVm vm₁, locs, cells, slots⟩ (Value.ref b :: argsL).toArray) :
    (∃ (v : Option Value) (vm₁ : Vm) (B : Pt), s.WarmedH vm₁ ∧ Stand p l e R s m args below meth c B.U B.locs B.cells B.slots ∧ Post ⟨T.setVm vm₁, locs, cells, slots⟩ (Value.ref b :: argsL).toArray v B ∧
      ∀ target, Steps p.tables e below (B.U.setTop { g with pc := g.pc + 3, stack := v.toList ++ rest }) target → Steps p.tables e below (T.setTop g) target) ∨
    (∃ (q : Addr) (vm₁ : Vm) (B : Pt), s.WarmedH vm₁ ∧ Stand p l e R s m args below meth c B.U B.locs B.cells B.slots ∧ PostX ⟨T.setVm vm₁, locs, cells, slots⟩ (Value.ref b :: argsL).toArray q B ∧
      Steps p.tables e below (T.setTop g) ((B.U.setTop { g with stack := rest }).pushFrame (.throwing q))) := by
  obtain ⟨mk, methM, hnamed, hmethM, hstM, habM⟩ := Cond.instanceMethod_spec hinst
  obtain ⟨m8, methM', cM, hn8, hmethM', -, -, -, -, -, -, hsigM⟩ := Cond.codeWith_spec hcode
  cases Option.some.inj (hn8.symm.trans hnamed)
  cases hmethM.symm.trans hmethM'
  obtain ⟨c2, r2, m2, q1, q2, q3, q4, kP, hkP, hkPi⟩ := Cond.selects_spec hsel
  cases hcls.symm.trans q1
  cases (State.methodFound?_of_named hnamed hy).symm.trans q2
  cases hnamed.symm.trans q3
  have hselP : selectMethod e.platform s.vm cellB.cls mk = .method mk := by rw [Launch.admits_selectMethod X.admits]; exact q4
  obtain ⟨vm₁, X₁, hstep₁⟩ := X.invokevirtual hexec hown hlink hnamed hmethM hstM hkP hkPi hy (a := b) (cell := cellB) hcell
    (fun z h => by rw [h] at hobj; cases hobj) hselP hmethM habM hkP hkPi (g := g) hg (argsL := argsL) (rest := rest) (hlen _ hsigM) hstack hdg
  rcases hK m meth c ⟨T.setVm vm₁, locs, cells, slots⟩ { g with stack := rest } (.invokevirtual index) mk (Value.ref b :: argsL).toArray X₁ hg hsize hdg hW (X₁.named hnamed) (hpre vm₁ X₁.warmed) with ⟨v, B, X', hpost, hsteps⟩ | ⟨q, B, X', hpost, hsteps⟩
  · exact Or.inl ⟨v, vm₁, B, X₁.warmed, X', hpost, fun target h => hstep₁ _ fun acts => by rw [doInvoke_state]; exact hsteps.trans h⟩
  · exact Or.inr ⟨q, vm₁, B, X₁.warmed, X', hpost, hstep₁ _ fun acts => by rw [doInvoke_state]; exact hsteps⟩
theorem vx_callSX (X : Stand p l e R s m args below meth c T locs cells slots) (hexec : p.tables.exec = Jvm.exec) {own : String} {index : Nat} {y : MethodName} {bytes : ByteArray} {maxL : Nat} {ret : Option FieldType} {hh : List (Nat × Nat × Nat × Nat)}
    (hown : s.vm.findClass own = some m.cls) (hlink : (Cond.methodLink own index y).before args s = true) (hstat : (Cond.static y).before args s = true) (hinit : (Cond.initialized y.cls).before args s = true)
    (hcode : (Cond.codeWith y bytes maxL ret hh).before args s = true) (hy : y.cls ≠ "java/lang/invoke/MethodHandle" ∧ y.cls ≠ "java/lang/invoke/VarHandle")
    {W9 : Nat} {Pre : Pt → Array Value → Prop} {Post : Pt → Array Value → Option Value → Pt → Prop} {PostX : Pt → Array Value → Addr → Pt → Prop} (hK : vx_Back l R p e below s args y 3 W9 Pre Post PostX)
    {g : JFrame} (hg : g.method = m) (hsize : g.locals.size = c.maxLocals) {argsL rest : List Value} (hlen : ∀ sig, parseMethodDescriptor y.desc = some sig → argsL.length = sig.parameters.length)
    (hstack : g.stack = argsL.reverse ++ rest) (hW : 2 * g.monitorRoom + (rest.map fun v => v.category).sum ≤ W9) (hdg : decode c.code g.pc = .ok (.invokestatic index, 3))
    (hpre : ∀ vm₁, s.WarmedH vm₁ → Pre ⟨T.setVm vm₁, locs, cells, slots⟩ argsL.toArray) :
    (∃ (v : Option Value) (vm₁ : Vm) (B : Pt), s.WarmedH vm₁ ∧ Stand p l e R s m args below meth c B.U B.locs B.cells B.slots ∧ Post ⟨T.setVm vm₁, locs, cells, slots⟩ argsL.toArray v B ∧
      ∀ target, Steps p.tables e below (B.U.setTop { g with pc := g.pc + 3, stack := v.toList ++ rest }) target → Steps p.tables e below (T.setTop g) target) ∨
    (∃ (q : Addr) (vm₁ : Vm) (B : Pt), s.WarmedH vm₁ ∧ Stand p l e R s m args below meth c B.U B.locs B.cells B.slots ∧ PostX ⟨T.setVm vm₁, locs, cells, slots⟩ argsL.toArray q B ∧
      Steps p.tables e below (T.setTop g) ((B.U.setTop { g with stack := rest }).pushFrame (.throwing q))) := by
  obtain ⟨mk, methM, cM, hnamed, hmethM, -, -, -, -, -, -, hsigM⟩ := Cond.codeWith_spec hcode
  have hstatic : methM.isStatic = true := Cond.static_spec hnamed hmethM hstat
  obtain ⟨kP, hkP, -⟩ := className_of_methodNamed hnamed
  have hinitP : kP.init = .initialized := Cond.initialized_spec (findClass_of_methodNamed hnamed) hkP hinit
  obtain ⟨vm₁, X₁, hstep₁⟩ := X.invokestatic hexec hown hlink hnamed hmethM hstatic hkP hinitP hy (g := g) hg (argsL := argsL) (rest := rest) (hlen _ hsigM) hstack hdg
  rcases hK m meth c ⟨T.setVm vm₁, locs, cells, slots⟩ { g with stack := rest } (.invokestatic index) mk argsL.toArray X₁ hg hsize hdg hW (X₁.named hnamed) (hpre vm₁ X₁.warmed) with ⟨v, B, X', hpost, hsteps⟩ | ⟨q, B, X', hpost, hsteps⟩
  · exact Or.inl ⟨v, vm₁, B, X₁.warmed, X', hpost, fun target h => hstep₁ _ fun acts => by rw [doInvoke_state]; exact hsteps.trans h⟩
  · exact Or.inr ⟨q, vm₁, B, X₁.warmed, X', hpost, hstep₁ _ fun acts => by rw [doInvoke_state]; exact hsteps⟩
theorem vx_callVW (X : Stand p l e R s m args below meth c T locs cells slots) (hexec : p.tables.exec = Jvm.exec) {own C : String} {index : Nat} {y : MethodName} {bytes : ByteArray} {maxL : Nat} {ret : Option FieldType} {hh : List (Nat × Nat × Nat × Nat)}
    (hown : s.vm.findClass own = some m.cls) (hlink : (Cond.methodLink own index y).before args s = true) (hinst : (Cond.instanceMethod y).before args s = true) (hsel : (Cond.selects C y y).before args s = true)
    (hcode : (Cond.codeWith y bytes maxL ret hh).before args s = true) (hy : y.cls ≠ "java/lang/invoke/MethodHandle" ∧ y.cls ≠ "java/lang/invoke/VarHandle")
    {W9 : Nat} {Pre : Pt → Array Value → Prop} {Post : Pt → Array Value → Option Value → Pt → Prop} (hK : Back l R p e below s args y 3 W9 Pre Post)
    {b : Addr} {cellB : Cell} (hcell : T.heap[b]? = some cellB) (hobj : cellB.vm.isStatics = false) (hcls : s.vm.findClass C = some cellB.cls)
    {g : JFrame} (hg : g.method = m) (hsize : g.locals.size = c.maxLocals) {argsL rest : List Value} (hlen : ∀ sig, parseMethodDescriptor y.desc = some sig → argsL.length = sig.parameters.length)
    (hstack : g.stack = argsL.reverse ++ .ref b :: rest) (hW : 2 * g.monitorRoom + (rest.map fun v => v.category).sum ≤ W9) (hdg : decode c.code g.pc = .ok (.invokevirtual index, 3))
    (hpre : ∀ vm₁, s.WarmedH vm₁ → Pre ⟨T.setVm vm₁, locs, cells, slots⟩ (Value.ref b :: argsL).toArray) :
    ∃ (v : Option Value) (vm₁ : Vm) (B : Pt), s.WarmedH vm₁ ∧ Stand p l e R s m args below meth c B.U B.locs B.cells B.slots ∧ Post ⟨T.setVm vm₁, locs, cells, slots⟩ (Value.ref b :: argsL).toArray v B ∧
      ∀ target, Steps p.tables e below (B.U.setTop { g with pc := g.pc + 3, stack := v.toList ++ rest }) target → Steps p.tables e below (T.setTop g) target := by
  obtain ⟨mk, methM, hnamed, hmethM, hstM, habM⟩ := Cond.instanceMethod_spec hinst
  obtain ⟨m8, methM', cM, hn8, hmethM', -, -, -, -, -, -, hsigM⟩ := Cond.codeWith_spec hcode
  cases Option.some.inj (hn8.symm.trans hnamed)
  cases hmethM.symm.trans hmethM'
  obtain ⟨c2, r2, m2, q1, q2, q3, q4, kP, hkP, hkPi⟩ := Cond.selects_spec hsel
  cases hcls.symm.trans q1
  cases (State.methodFound?_of_named hnamed hy).symm.trans q2
  cases hnamed.symm.trans q3
  have hselP : selectMethod e.platform s.vm cellB.cls mk = .method mk := by rw [Launch.admits_selectMethod X.admits]; exact q4
  obtain ⟨vm₁, X₁, hstep₁⟩ := X.invokevirtual hexec hown hlink hnamed hmethM hstM hkP hkPi hy (a := b) (cell := cellB) hcell
    (fun z h => by rw [h] at hobj; cases hobj) hselP hmethM habM hkP hkPi (g := g) hg (argsL := argsL) (rest := rest) (hlen _ hsigM) hstack hdg
  obtain ⟨v, B, X', hpost, hsteps⟩ := hK m meth c ⟨T.setVm vm₁, locs, cells, slots⟩ { g with stack := rest } (.invokevirtual index) mk (Value.ref b :: argsL).toArray X₁ hg hsize hdg hW (X₁.named hnamed) (hpre vm₁ X₁.warmed)
  exact ⟨v, vm₁, B, X₁.warmed, X', hpost, fun target h => hstep₁ _ fun acts => by rw [doInvoke_state]; exact hsteps.trans h⟩
abbrev vx_CVW (R : Room) (s : State) (args : Array Value) (own C : String) (index : Nat) (y : MethodName) (bytes : ByteArray) (maxL : Nat) (ret : Option FieldType) (hh : List (Nat × Nat × Nat × Nat)) (ws : List Cond) (rm : Room) (mc ms n : Nat) : Prop :=
  (rm.cells = mc ∧ rm.slots = ms ∧ rm.frames + 1 ≤ R.frames ∧ 8 + (maxL + 11) + rm.locals ≤ R.locals ∧ (∀ w ∈ ws, ∀ (a' : Array Value) (U : State), s.WarmedH U.vm → w.before a' U = true) ∧ Cond.codeWith y bytes maxL ret hh ∈ ws) ∧
  (Cond.codeWith y bytes maxL ret hh).before args s = true ∧ (Cond.initialized y.cls).before args s = true ∧ (y.cls ≠ "java/lang/invoke/MethodHandle" ∧ y.cls ≠ "java/lang/invoke/VarHandle") ∧
  (∀ sig, parseMethodDescriptor y.desc = some sig → n = sig.parameters.length) ∧ (Cond.methodLink own index y).before args s = true ∧ (Cond.instanceMethod y).before args s = true ∧ (Cond.selects C y y).before args s = true
theorem vx_cwVW {own C : String} {index maxL mc ms : Nat} {y : MethodName} {bytes : ByteArray} {ret : Option FieldType} {hh : List (Nat × Nat × Nat × Nat)} {Ts ws ws' : List Cond} {rm : Room} (n : Nat) (ht : ∀ w ∈ Ts, w.before args s = true) (hT : GoodIn Ts (wsV own index C y ws)) (hw : ws = Cond.codeWith y bytes maxL ret hh :: ws') (hrc : rm.cells = mc) (hrs : rm.slots = ms)
    (hd : y.cls = C ∧ y.cls ≠ "java/lang/invoke/MethodHandle" ∧ y.cls ≠ "java/lang/invoke/VarHandle" ∧ (parseMethodDescriptor y.desc).map (fun d => d.parameters.length) = some n) (hR : rm.frames + 1 ≤ R.frames ∧ 8 + (maxL + 11) + rm.locals ≤ R.locals) :
    vx_CVW R s args own C index y bytes maxL ret hh ws rm mc ms n := by
  obtain ⟨hC, hd⟩ := hd
  subst hC
  have ok : ∀ w ∈ wsV own index y.cls y ws, w.before args s = true := fun w h => ht w (hT w h).1
  have hG : GoodIn Ts ws := fun w h => hT w (by unfold wsV; exact List.mem_append_right _ h)
  have hc : Cond.codeWith y bytes maxL ret hh ∈ ws := by rw [hw]; exact List.mem_cons_self
  refine ⟨⟨hrc, hrs, hR.1, hR.2, pay_in ht hG, hc⟩, ht _ (hG _ hc).1, ok _ (by simp [wsV]), ⟨hd.1, hd.2.1⟩, fun sig h => ?_, ok _ (by simp [wsV]), ok _ (by simp [wsV]), ok _ (by simp [wsV])⟩
  have h2 := hd.2.2
  rw [h] at h2
  exact (Option.some.inj h2).symm
theorem vx_runVW {y : MethodName} {bytes cc : ByteArray} {maxL nL mc ms n index : Nat} {ret : Option FieldType} {hh : List (Nat × Nat × Nat × Nat)} {ws : List Cond} {rm : Room} {Pc : Array Value → State → Prop} {Qc : Array Value → State → Outcome → State → Prop} {free : Addr → Prop} {Ts : List Cond} {own C : String} {b : Addr} {As rest : List Value} {g : JFrame}
    (S : CallFix p m c cc nL s args Ts own) (hM : Met l y ws rm Pc Qc mc ms free) (cw : vx_CVW R s args own C index y bytes maxL ret hh ws rm mc ms n) (hp : PreV s H C b Pc As)
    (hg : g.method = m) (hn : As.length = n) (hsize : g.locals.size = nL) (hstack : g.stack = As.reverse ++ .ref b :: rest) (hW : 2 * g.monitorRoom + (rest.map fun v => v.category).sum ≤ 8) (hdg : decode cc g.pc = .ok (.invokevirtual index, 3)) (hf : cells + mc ≤ R.cells ∧ slots + ms ≤ R.slots) :
    va_Run p l e R s m args below meth c H locs cells slots mc ms g rest (Qc (Value.ref b :: As).toArray) free := by
  obtain ⟨⟨hrc, hrs, hfr, hlo, hws, hcw⟩, hcode, hini, hy, hlen, hl, hin, hse⟩ := cw
  have hK : Back l R p e below s args y 3 8 (PreOf R mc ms Pc) (PostOf Qc mc ms free) := va_backW (hh := hh) (bytes := bytes) (maxL := maxL) (ret := ret) hM hp.1 hrc hrs hfr hlo hws hcw (fun a' U hW => word_at hW (Or.inl (by first | rfl | simp [Cond.onTables, Cond.keeps, Cond.steady])) hini)
  obtain ⟨hx, hb, hml, ho, -⟩ := S
  obtain ⟨-, ⟨cellB, hcB, hoB, hclB⟩, hPc⟩ := hp
  intro T hT X
  obtain ⟨v, vm₁, ⟨U', l2, c2, s2⟩, hW₁, X', ⟨g', mk, t, L, e1, e2, hq, h1, hL, h2, h3⟩, st⟩ := vx_callVW X hx (C := C) (hh := hh) (bytes := bytes) (maxL := maxL) (ret := ret) ho hl hin hse hcode hy hK (by rw [hT]; exact hcB) hoB hclB hg (hsize.trans hml.symm) (argsL := As) (rest := rest) (fun sig h => hn.trans (hlen sig h)) hstack hW (by rw [hb]; exact hdg)
    (fun vm₁ hW₁ => ⟨hf.1, hf.2, hPc (T.setVm vm₁) hT hW₁⟩)
  dsimp only [Pt.U, Pt.locs, Pt.cells, Pt.slots] at X' e1 e2 h1 h2 h3 st
  subst h1; subst h2; subst h3
  exact ⟨v, (T.setVm vm₁).calling g' mk (Value.ref b :: As).toArray, t, U', L, hT, X', hL, e1, e2, hq, st⟩
section
variable {y : MethodName} {bytes cc : ByteArray} {maxL nL mc ms n index : Nat} {ret : Option FieldType} {ws : List Cond} {rm : Room} {Pc : Array Value → State → Prop} {Qc : Array Value → State → Outcome → State → Prop} {XC : String → State → State → Prop} {free : Addr → Prop} {Ts : List Cond} {own C : String} {b : Addr} {As rest : List Value} {g : JFrame}
theorem vx_runVX {hh : List (Nat × Nat × Nat × Nat)} (S : CallFix p m c cc nL s args Ts own) (hM : vx_Met l y ws rm Pc Qc XC mc ms free) (cw : vx_CVW R s args own C index y bytes maxL ret hh ws rm mc ms n) (hp : PreV s H C b Pc As)
    (hg : g.method = m) (hn : As.length = n) (hsize : g.locals.size = nL) (hstack : g.stack = As.reverse ++ .ref b :: rest) (hW : 2 * g.monitorRoom + (rest.map fun v => v.category).sum ≤ 8) (hdg : decode cc g.pc = .ok (.invokevirtual index, 3)) (hf : cells + mc ≤ R.cells ∧ slots + ms ≤ R.slots) :
    vx_Run p l e R s m args below meth c H locs cells slots mc ms g rest (Qc (Value.ref b :: As).toArray) XC free := by
  obtain ⟨⟨hrc, hrs, hfr, hlo, hws, hcw⟩, hcode, hini, hy, hlen, hl, hin, hse⟩ := cw
  have hK : vx_Back l R p e below s args y 3 8 (PreOf R mc ms Pc) (PostOf Qc mc ms free) (vx_Post XC mc ms free) := vx_backW (hh := hh) (bytes := bytes) (maxL := maxL) (ret := ret) hM hp.1 hrc hrs hfr hlo hws hcw (fun a' U hW => word_at hW (Or.inl (by first | rfl | simp [Cond.onTables, Cond.keeps, Cond.steady])) hini)
  obtain ⟨hx, hb, hml, ho, -⟩ := S
  obtain ⟨-, ⟨cellB, hcB, hoB, hclB⟩, hPc⟩ := hp
  intro T hT X
  rcases vx_callVX X hx (C := C) (hh := hh) (bytes := bytes) (maxL := maxL) (ret := ret) ho hl hin hse hcode hy hK (by rw [hT]; exact hcB) hoB hclB hg (hsize.trans hml.symm) (argsL := As) (rest := rest) (fun sig h => hn.trans (hlen sig h)) hstack hW (by rw [hb]; exact hdg)
    (fun vm₁ hW₁ => ⟨hf.1, hf.2, hPc (T.setVm vm₁) hT hW₁⟩) with ⟨v, vm₁, ⟨U', l2, c2, s2⟩, hW₁, X', ⟨g', mk, t, L, e1, e2, hq, h1, hL, h2, h3⟩, st⟩ | ⟨q, vm₁, ⟨U', l2, c2, s2⟩, hW₁, X', ⟨g', mk, t, L, E, ce, e1, e2, hq, hce, hcv, hcl, h1, hL, h2, h3⟩, st⟩
  · dsimp only [Pt.U, Pt.locs, Pt.cells, Pt.slots] at X' e1 e2 h1 h2 h3 st
    subst h1; subst h2; subst h3
    exact Or.inl ⟨v, (T.setVm vm₁).calling g' mk (Value.ref b :: As).toArray, t, U', L, hT, X', hL, e1, e2, hq, st⟩
  · dsimp only [Pt.U, Pt.locs, Pt.cells, Pt.slots] at X' e1 e2 h1 h2 h3 st hcl
    subst h1; subst h2; subst h3
    exact Or.inr ⟨q, (T.setVm vm₁).calling g' mk (Value.ref b :: As).toArray, t, U', L, E, ce, hT, X', hL, e1, e2, hq, hce, hcv, vx_cls hW₁ hcl, st⟩
theorem vx_runSX {hh : List (Nat × Nat × Nat × Nat)} (S : CallFix p m c cc nL s args Ts own) (hM : vx_Met l y ws rm Pc Qc XC mc ms free) (cw : vx_CSW R s args own index y bytes maxL ret hh ws rm mc ms n) (hp : PreS s H Pc As)
    (hg : g.method = m) (hn : As.length = n) (hsize : g.locals.size = nL) (hstack : g.stack = As.reverse ++ rest) (hW : 2 * g.monitorRoom + (rest.map fun v => v.category).sum ≤ 8) (hdg : decode cc g.pc = .ok (.invokestatic index, 3)) (hf : cells + mc ≤ R.cells ∧ slots + ms ≤ R.slots) :
    vx_Run p l e R s m args below meth c H locs cells slots mc ms g rest (Qc As.toArray) XC free := by
  obtain ⟨⟨hrc, hrs, hfr, hlo, hws, hcw⟩, hcode, hini, hy, hlen, hl, hstt⟩ := cw
  have hK : vx_Back l R p e below s args y 3 8 (PreOf R mc ms Pc) (PostOf Qc mc ms free) (vx_Post XC mc ms free) := vx_backW (hh := hh) (bytes := bytes) (maxL := maxL) (ret := ret) hM hp.1 hrc hrs hfr hlo hws hcw (fun a' U hW => word_at hW (Or.inl (by first | rfl | simp [Cond.onTables, Cond.keeps, Cond.steady])) hini)
  obtain ⟨hx, hb, hml, ho, -⟩ := S
  intro T hT X
  rcases vx_callSX X hx (hh := hh) (bytes := bytes) (maxL := maxL) (ret := ret) ho hl hstt hini hcode hy hK hg (hsize.trans hml.symm) (argsL := As) (rest := rest) (fun sig h => hn.trans (hlen sig h)) hstack hW (by rw [hb]; exact hdg)
    (fun vm₁ hW₁ => ⟨hf.1, hf.2, hp.2 (T.setVm vm₁) hT hW₁⟩) with ⟨v, vm₁, ⟨U', l2, c2, s2⟩, hW₁, X', ⟨g', mk, t, L, e1, e2, hq, h1, hL, h2, h3⟩, st⟩ | ⟨q, vm₁, ⟨U', l2, c2, s2⟩, hW₁, X', ⟨g', mk, t, L, E, ce, e1, e2, hq, hce, hcv, hcl, h1, hL, h2, h3⟩, st⟩
  · dsimp only [Pt.U, Pt.locs, Pt.cells, Pt.slots] at X' e1 e2 h1 h2 h3 st
    subst h1; subst h2; subst h3
    exact Or.inl ⟨v, (T.setVm vm₁).calling g' mk As.toArray, t, U', L, hT, X', hL, e1, e2, hq, st⟩
  · dsimp only [Pt.U, Pt.locs, Pt.cells, Pt.slots] at X' e1 e2 h1 h2 h3 st hcl
    subst h1; subst h2; subst h3
    exact Or.inr ⟨q, (T.setVm vm₁).calling g' mk As.toArray, t, U', L, E, ce, hT, X', hL, e1, e2, hq, hce, hcv, vx_cls hW₁ hcl, st⟩
end
end VXH
theorem vx_ofWH {l : Launch} {y : MethodName} {ws ws' : List Cond} {rm : Room} {Pc : Array Value → State → Prop} {Qc : Array Value → State → Outcome → State → Prop} {XC : String → State → State → Prop} {mc ms : Nat} {free : Addr → Prop} {cc : ByteArray} {maxL : Nat} {ret : Option FieldType} {hh : List (Nat × Nat × Nat × Nat)}
    (hy : plainName y.cls = true) (hw : ws = Cond.codeWith y cc maxL ret hh :: ws')
    (body : ∀ p e s m args below meth c s₁, BodyLoose p l y (headSpec ws rm) cc maxL ret e s m args below meth c s₁ → c.maxLocals = maxL → Pc args s →
      W p l e (headSpec ws rm).room s m args below meth c s.heap [] 0 0 (vx_MQ below Qc XC args s mc ms free) (entryFrame m args maxL)) : vx_Met l y ws rm Pc Qc XC mc ms free := by
  refine MetFree.of_bodyS (code := cc) (maxLocals := maxL) (ret := ret) hy ?_ ?_
  · intro args s m h hn
    obtain ⟨m9, meth, c, hn9, h1, h2, h3, h4, -, h5, h6, -⟩ := Cond.codeWith_spec (atoms_spec (ws := ws) h _ (by rw [hw]; exact List.mem_cons_self))
    cases hn.symm.trans hn9
    exact ⟨meth, c, h1, h2, h3, h4, h5, h6⟩
  · intro p e s m args below meth c s₁ B hml hP _
    have hh0 : s₁.heap = s.heap := by rw [B.state]; rfl
    obtain ⟨t, a1, o, b1, b2, b3⟩ := body p e s m args below meth c s₁ B hml hP s₁ hh0 (Stand.of_body B)
    exact ⟨t, o, a1, b1, b2, b3⟩
/-! ===== END ===== -/
end
section
/-! names, printed by program: classes, fields, methods; then the words of the tables by their places -/
def RX0 : String := "CapWallets$Rides"
def TX0 : u_T := fun k => match k with
  | 0 => ("CapWallets$Rides", "mates", "[I", true)
  | 1 => ("CapWallets$Rides", "fares", "[I", true)
  | 2 => ("CapWallets$Rides", "dayRides", "[I", true)
  | 3 => ("CapWallets$Rides", "dayAlone", "[I", true)
  | 4 => ("CapWallets$Rides", "dayFares", "[I", true)
  | 5 => ("CapWallets$Rides", "leaks", "[I", true)
  | 6 => ("CapWallets$Rides", "latest", "[I", true)
  | 7 => ("CapWallets$Rides", "dayCap", "I", false)
  | _ => ("CapWallets$Rides", "weekCap", "I", false)
def tyX0 : Nat → FieldType := fun k => match k with
  | 0 => .array .int
  | 1 => .array .int
  | 2 => .array .int
  | 3 => .array .int
  | 4 => .array .int
  | 5 => .array .int
  | 6 => .array .int
  | 7 => .int
  | _ => .int
theorem nmX0 : ∀ a, a < 9 → ∀ b, b < 9 → a ≠ b → (TX0 a).2.1 ≠ (TX0 b).2.1 := by decide +kernel
theorem tyX0_ok : ∀ k, k < 9 → parseFieldDescriptor (TX0 k).2.2.1 = some (tyX0 k) := by decide +kernel
abbrev cX0_init : ByteArray := prog_2_method_1_code
def yX0_init : MethodName := ⟨RX0, "<init>", "()V"⟩
abbrev cX0_readFrom : ByteArray := prog_2_method_2_code
def yX0_readFrom : MethodName := ⟨RX0, "readFrom", "(LCapWallets$TapRow;[I)V"⟩
abbrev cX0_findMates : ByteArray := prog_2_method_3_code
def yX0_findMates : MethodName := ⟨RX0, "findMates", "(LCapWallets$TapRow;I)V"⟩
abbrev cX0_isRide : ByteArray := prog_2_method_4_code
def yX0_isRide : MethodName := ⟨RX0, "isRide", "(III)Z"⟩
abbrev cX0_findFares : ByteArray := prog_2_method_5_code
def yX0_findFares : MethodName := ⟨RX0, "findFares", "(LCapWallets$TapRow;[I)V"⟩
abbrev cX0_addUp : ByteArray := prog_2_method_6_code
def yX0_addUp : MethodName := ⟨RX0, "addUp", "(LCapWallets$TapRow;)V"⟩
abbrev cX0_dayCost : ByteArray := prog_2_method_7_code
def yX0_dayCost : MethodName := ⟨RX0, "dayCost", "(II)I"⟩
abbrev cX0_weekDaysCost : ByteArray := prog_2_method_8_code
def yX0_weekDaysCost : MethodName := ⟨RX0, "weekDaysCost", "(II)I"⟩
abbrev cX0_weekCost : ByteArray := prog_2_method_9_code
def yX0_weekCost : MethodName := ⟨RX0, "weekCost", "(II)I"⟩
abbrev cX0_weekSum : ByteArray := prog_2_method_10_code
def yX0_weekSum : MethodName := ⟨RX0, "weekSum", "([III)I"⟩
def RX1 : String := "CapWallets$Rows"
def TX1 : u_T := fun k => match k with
  | _ => ("", "", "", false)
def tyX1 : Nat → FieldType := fun k => match k with
  | _ => .int
theorem nmX1 : ∀ a, a < 0 → ∀ b, b < 0 → a ≠ b → (TX1 a).2.1 ≠ (TX1 b).2.1 := by decide +kernel
theorem tyX1_ok : ∀ k, k < 0 → parseFieldDescriptor (TX1 k).2.2.1 = some (tyX1 k) := by decide +kernel
abbrev cX1_at : ByteArray := prog_3_method_2_code
def yX1_at : MethodName := ⟨RX1, "at", "([II)I"⟩
abbrev cX1_put : ByteArray := prog_3_method_3_code
def yX1_put : MethodName := ⟨RX1, "put", "([III)V"⟩
abbrev cX1_raise : ByteArray := prog_3_method_4_code
def yX1_raise : MethodName := ⟨RX1, "raise", "([III)V"⟩
abbrev cX1_fill : ByteArray := prog_3_method_5_code
def yX1_fill : MethodName := ⟨RX1, "fill", "([II)V"⟩
abbrev cX1_copy : ByteArray := prog_3_method_6_code
def yX1_copy : MethodName := ⟨RX1, "copy", "([I[I)V"⟩
abbrev cX1_sum : ByteArray := prog_3_method_7_code
def yX1_sum : MethodName := ⟨RX1, "sum", "([I)I"⟩
abbrev cX1_mixedAll : ByteArray := prog_3_method_8_code
def yX1_mixedAll : MethodName := ⟨RX1, "mixedAll", "(J[II)J"⟩
def RX2 : String := "CapWallets$Saves"
def TX2 : u_T := fun k => match k with
  | 0 => ("CapWallets$Saves", "ring", "[LCapWallets$State;", true)
  | 1 => ("CapWallets$Saves", "next", "I", false)
  | _ => ("CapWallets$Saves", "size", "I", false)
def tyX2 : Nat → FieldType := fun k => match k with
  | 0 => .array (.object "CapWallets$State")
  | 1 => .int
  | _ => .int
theorem nmX2 : ∀ a, a < 3 → ∀ b, b < 3 → a ≠ b → (TX2 a).2.1 ≠ (TX2 b).2.1 := by decide +kernel
theorem tyX2_ok : ∀ k, k < 3 → parseFieldDescriptor (TX2 k).2.2.1 = some (tyX2 k) := by decide +kernel
abbrev cX2_init : ByteArray := prog_4_method_1_code
def yX2_init : MethodName := ⟨RX2, "<init>", "()V"⟩
abbrev cX2_slot : ByteArray := prog_4_method_2_code
def yX2_slot : MethodName := ⟨RX2, "slot", "(I)LCapWallets$State;"⟩
abbrev cX2_push : ByteArray := prog_4_method_3_code
def yX2_push : MethodName := ⟨RX2, "push", "(LCapWallets$State;)V"⟩
abbrev cX2_popInto : ByteArray := prog_4_method_4_code
def yX2_popInto : MethodName := ⟨RX2, "popInto", "(LCapWallets$State;)V"⟩
def RX3 : String := "CapWallets$State"
def TX3 : u_T := fun k => match k with
  | 0 => ("CapWallets$State", "taps", "LCapWallets$TapRow;", true)
  | 1 => ("CapWallets$State", "settings", "[I", true)
  | 2 => ("CapWallets$State", "charged", "[I", true)
  | 3 => ("CapWallets$State", "claims", "[I", true)
  | 4 => ("CapWallets$State", "settlings", "[I", true)
  | 5 => ("CapWallets$State", "ledgerWeeks", "[I", true)
  | 6 => ("CapWallets$State", "ledgerSums", "[I", true)
  | 7 => ("CapWallets$State", "refunds", "I", false)
  | 8 => ("CapWallets$State", "refunded", "I", false)
  | _ => ("CapWallets$State", "refusals", "I", false)
def tyX3 : Nat → FieldType := fun k => match k with
  | 0 => .object "CapWallets$TapRow"
  | 1 => .array .int
  | 2 => .array .int
  | 3 => .array .int
  | 4 => .array .int
  | 5 => .array .int
  | 6 => .array .int
  | 7 => .int
  | 8 => .int
  | _ => .int
theorem nmX3 : ∀ a, a < 10 → ∀ b, b < 10 → a ≠ b → (TX3 a).2.1 ≠ (TX3 b).2.1 := by decide +kernel
theorem tyX3_ok : ∀ k, k < 10 → parseFieldDescriptor (TX3 k).2.2.1 = some (tyX3 k) := by decide +kernel
abbrev cX3_init : ByteArray := prog_5_method_1_code
def yX3_init : MethodName := ⟨RX3, "<init>", "()V"⟩
abbrev cX3_copyFrom : ByteArray := prog_5_method_2_code
def yX3_copyFrom : MethodName := ⟨RX3, "copyFrom", "(LCapWallets$State;)V"⟩
abbrev cX3_charge : ByteArray := prog_5_method_3_code
def yX3_charge : MethodName := ⟨RX3, "charge", "(III)I"⟩
abbrev cX3_enter : ByteArray := prog_5_method_4_code
def yX3_enter : MethodName := ⟨RX3, "enter", "([III)V"⟩
abbrev cX3_ledgerNumber : ByteArray := prog_5_method_5_code
def yX3_ledgerNumber : MethodName := ⟨RX3, "ledgerNumber", "(III)I"⟩
def RX4 : String := "CapWallets$Tap"
def TX4 : u_T := fun k => match k with
  | _ => ("", "", "", false)
def tyX4 : Nat → FieldType := fun k => match k with
  | _ => .int
theorem nmX4 : ∀ a, a < 0 → ∀ b, b < 0 → a ≠ b → (TX4 a).2.1 ≠ (TX4 b).2.1 := by decide +kernel
theorem tyX4_ok : ∀ k, k < 0 → parseFieldDescriptor (TX4 k).2.2.1 = some (tyX4 k) := by decide +kernel
abbrev cX4_make : ByteArray := prog_6_method_2_code
def yX4_make : MethodName := ⟨RX4, "make", "(IIIIZ)I"⟩
abbrev cX4_missingOf : ByteArray := prog_6_method_3_code
def yX4_missingOf : MethodName := ⟨RX4, "missingOf", "(III)I"⟩
abbrev cX4_timeOf : ByteArray := prog_6_method_4_code
def yX4_timeOf : MethodName := ⟨RX4, "timeOf", "(I)I"⟩
abbrev cX4_dayOf : ByteArray := prog_6_method_5_code
def yX4_dayOf : MethodName := ⟨RX4, "dayOf", "(I)I"⟩
abbrev cX4_weekOf : ByteArray := prog_6_method_6_code
def yX4_weekOf : MethodName := ⟨RX4, "weekOf", "(I)I"⟩
abbrev cX4_minuteOf : ByteArray := prog_6_method_7_code
def yX4_minuteOf : MethodName := ⟨RX4, "minuteOf", "(I)I"⟩
abbrev cX4_walletOf : ByteArray := prog_6_method_8_code
def yX4_walletOf : MethodName := ⟨RX4, "walletOf", "(I)I"⟩
abbrev cX4_stationOf : ByteArray := prog_6_method_9_code
def yX4_stationOf : MethodName := ⟨RX4, "stationOf", "(I)I"⟩
abbrev cX4_zoneOf : ByteArray := prog_6_method_10_code
def yX4_zoneOf : MethodName := ⟨RX4, "zoneOf", "(I)I"⟩
abbrev cX4_isIn : ByteArray := prog_6_method_11_code
def yX4_isIn : MethodName := ⟨RX4, "isIn", "(I)Z"⟩
abbrev cX4_isClaimed : ByteArray := prog_6_method_12_code
def yX4_isClaimed : MethodName := ⟨RX4, "isClaimed", "(I)Z"⟩
def RX5 : String := "CapWallets$TapRow"
def TX5 : u_T := fun k => match k with
  | 0 => ("CapWallets$TapRow", "taps", "[I", true)
  | _ => ("CapWallets$TapRow", "size", "I", false)
def tyX5 : Nat → FieldType := fun k => match k with
  | 0 => .array .int
  | _ => .int
theorem nmX5 : ∀ a, a < 2 → ∀ b, b < 2 → a ≠ b → (TX5 a).2.1 ≠ (TX5 b).2.1 := by decide +kernel
theorem tyX5_ok : ∀ k, k < 2 → parseFieldDescriptor (TX5 k).2.2.1 = some (tyX5 k) := by decide +kernel
abbrev cX5_init : ByteArray := prog_7_method_1_code
def yX5_init : MethodName := ⟨RX5, "<init>", "()V"⟩
abbrev cX5_tapAt : ByteArray := prog_7_method_2_code
def yX5_tapAt : MethodName := ⟨RX5, "tapAt", "(I)I"⟩
abbrev cX5_insert : ByteArray := prog_7_method_3_code
def yX5_insert : MethodName := ⟨RX5, "insert", "(I)I"⟩
abbrev cX5_takeAway : ByteArray := prog_7_method_4_code
def yX5_takeAway : MethodName := ⟨RX5, "takeAway", "(I)V"⟩
abbrev cX5_copyFrom : ByteArray := prog_7_method_5_code
def yX5_copyFrom : MethodName := ⟨RX5, "copyFrom", "(LCapWallets$TapRow;)V"⟩
def RX6 : String := "CapWallets$TextReader"
def TX6 : u_T := fun k => match k with
  | 0 => ("CapWallets$TextReader", "taps", "[I", true)
  | 1 => ("CapWallets$TextReader", "tapCount", "I", false)
  | 2 => ("CapWallets$TextReader", "stage", "I", false)
  | 3 => ("CapWallets$TextReader", "number", "I", false)
  | 4 => ("CapWallets$TextReader", "wallet", "I", false)
  | 5 => ("CapWallets$TextReader", "day", "I", false)
  | 6 => ("CapWallets$TextReader", "minute", "I", false)
  | _ => ("CapWallets$TextReader", "in", "Z", false)
def tyX6 : Nat → FieldType := fun k => match k with
  | 0 => .array .int
  | 1 => .int
  | 2 => .int
  | 3 => .int
  | 4 => .int
  | 5 => .int
  | 6 => .int
  | _ => .boolean
theorem nmX6 : ∀ a, a < 8 → ∀ b, b < 8 → a ≠ b → (TX6 a).2.1 ≠ (TX6 b).2.1 := by decide +kernel
theorem tyX6_ok : ∀ k, k < 8 → parseFieldDescriptor (TX6 k).2.2.1 = some (tyX6 k) := by decide +kernel
abbrev cX6_init : ByteArray := prog_8_method_1_code
def yX6_init : MethodName := ⟨RX6, "<init>", "()V"⟩
abbrev cX6_readUpTo : ByteArray := prog_8_method_2_code
def yX6_readUpTo : MethodName := ⟨RX6, "readUpTo", "([II)I"⟩
abbrev cX6_isWhole : ByteArray := prog_8_method_3_code
def yX6_isWhole : MethodName := ⟨RX6, "isWhole", "()Z"⟩
abbrev cX6_takes : ByteArray := prog_8_method_4_code
def yX6_takes : MethodName := ⟨RX6, "takes", "(I)Z"⟩
abbrev cX6_goesOn : ByteArray := prog_8_method_5_code
def yX6_goesOn : MethodName := ⟨RX6, "goesOn", "(ZI)Z"⟩
abbrev cX6_startsNumber : ByteArray := prog_8_method_6_code
def yX6_startsNumber : MethodName := ⟨RX6, "startsNumber", "(II)Z"⟩
abbrev cX6_lengthensNumber : ByteArray := prog_8_method_7_code
def yX6_lengthensNumber : MethodName := ⟨RX6, "lengthensNumber", "(II)Z"⟩
abbrev cX6_endsTap : ByteArray := prog_8_method_8_code
def yX6_endsTap : MethodName := ⟨RX6, "endsTap", "(I)Z"⟩
def RX7 : String := "CapWallets"
def TX7 : u_T := fun k => match k with
  | 0 => ("CapWallets", "state", "LCapWallets$State;", true)
  | 1 => ("CapWallets", "rides", "LCapWallets$Rides;", true)
  | 2 => ("CapWallets", "saves", "LCapWallets$Saves;", true)
  | 3 => ("CapWallets", "triedTaps", "LCapWallets$TapRow;", true)
  | 4 => ("CapWallets", "triedRides", "LCapWallets$Rides;", true)
  | 5 => ("CapWallets", "buffer", "[I", true)
  | 6 => ("CapWallets", "bufferLength", "I", false)
  | _ => ("CapWallets", "reader", "LCapWallets$TextReader;", true)
def tyX7 : Nat → FieldType := fun k => match k with
  | 0 => .object "CapWallets$State"
  | 1 => .object "CapWallets$Rides"
  | 2 => .object "CapWallets$Saves"
  | 3 => .object "CapWallets$TapRow"
  | 4 => .object "CapWallets$Rides"
  | 5 => .array .int
  | 6 => .int
  | _ => .object "CapWallets$TextReader"
theorem nmX7 : ∀ a, a < 8 → ∀ b, b < 8 → a ≠ b → (TX7 a).2.1 ≠ (TX7 b).2.1 := by decide +kernel
theorem tyX7_ok : ∀ k, k < 8 → parseFieldDescriptor (TX7 k).2.2.1 = some (tyX7 k) := by decide +kernel
abbrev cX7_init : ByteArray := prog_1_method_1_code
def yX7_init : MethodName := ⟨RX7, "<init>", "()V"⟩
abbrev cX7_tap : ByteArray := prog_1_method_2_code
def yX7_tap : MethodName := ⟨RX7, "tap", "(IIIIZ)I"⟩
abbrev cX7_remove : ByteArray := prog_1_method_3_code
def yX7_remove : MethodName := ⟨RX7, "remove", "(I)I"⟩
abbrev cX7_claim : ByteArray := prog_1_method_4_code
def yX7_claim : MethodName := ⟨RX7, "claim", "(III)I"⟩
abbrev cX7_settle : ByteArray := prog_1_method_5_code
def yX7_settle : MethodName := ⟨RX7, "settle", "(I)I"⟩
abbrev cX7_set : ByteArray := prog_1_method_6_code
def yX7_set : MethodName := ⟨RX7, "set", "(II)I"⟩
abbrev cX7_append : ByteArray := prog_1_method_7_code
def yX7_append : MethodName := ⟨RX7, "append", "(I)I"⟩
abbrev cX7_clearBuffer : ByteArray := prog_1_method_8_code
def yX7_clearBuffer : MethodName := ⟨RX7, "clearBuffer", "()I"⟩
abbrev cX7_firstError : ByteArray := prog_1_method_9_code
def yX7_firstError : MethodName := ⟨RX7, "firstError", "()I"⟩
abbrev cX7_load : ByteArray := prog_1_method_10_code
def yX7_load : MethodName := ⟨RX7, "load", "()I"⟩
abbrev cX7_undo : ByteArray := prog_1_method_11_code
def yX7_undo : MethodName := ⟨RX7, "undo", "()I"⟩
abbrev cX7_tapOf : ByteArray := prog_1_method_12_code
def yX7_tapOf : MethodName := ⟨RX7, "tapOf", "(II)I"⟩
abbrev cX7_day : ByteArray := prog_1_method_13_code
def yX7_day : MethodName := ⟨RX7, "day", "(III)I"⟩
abbrev cX7_week : ByteArray := prog_1_method_14_code
def yX7_week : MethodName := ⟨RX7, "week", "(III)I"⟩
abbrev cX7_count : ByteArray := prog_1_method_15_code
def yX7_count : MethodName := ⟨RX7, "count", "(I)I"⟩
abbrev cX7_ledger : ByteArray := prog_1_method_16_code
def yX7_ledger : MethodName := ⟨RX7, "ledger", "(III)I"⟩
abbrev cX7_ifTapped : ByteArray := prog_1_method_17_code
def yX7_ifTapped : MethodName := ⟨RX7, "ifTapped", "(IIIIZ)I"⟩
abbrev cX7_whyNot : ByteArray := prog_1_method_18_code
def yX7_whyNot : MethodName := ⟨RX7, "whyNot", "(III)I"⟩
abbrev cX7_leaky : ByteArray := prog_1_method_19_code
def yX7_leaky : MethodName := ⟨RX7, "leaky", "()I"⟩
abbrev cX7_leastCap : ByteArray := prog_1_method_20_code
def yX7_leastCap : MethodName := ⟨RX7, "leastCap", "()I"⟩
abbrev cX7_capShare : ByteArray := prog_1_method_21_code
def yX7_capShare : MethodName := ⟨RX7, "capShare", "()D"⟩
abbrev cX7_digest : ByteArray := prog_1_method_22_code
def yX7_digest : MethodName := ⟨RX7, "digest", "()J"⟩
abbrev cX7_isBelow : ByteArray := prog_1_method_23_code
def yX7_isBelow : MethodName := ⟨RX7, "isBelow", "(II)Z"⟩
abbrev cX7_isWalletDay : ByteArray := prog_1_method_24_code
def yX7_isWalletDay : MethodName := ⟨RX7, "isWalletDay", "(II)Z"⟩
abbrev cX7_isMinuteStation : ByteArray := prog_1_method_25_code
def yX7_isMinuteStation : MethodName := ⟨RX7, "isMinuteStation", "(II)Z"⟩
abbrev cX7_isPlace : ByteArray := prog_1_method_26_code
def yX7_isPlace : MethodName := ⟨RX7, "isPlace", "(I)Z"⟩
abbrev cX7_readRides : ByteArray := prog_1_method_27_code
def yX7_readRides : MethodName := ⟨RX7, "readRides", "()V"⟩
abbrev cX7_refusal : ByteArray := prog_1_method_28_code
def yX7_refusal : MethodName := ⟨RX7, "refusal", "(III)I"⟩
abbrev cX7_wouldRideWith : ByteArray := prog_1_method_29_code
def yX7_wouldRideWith : MethodName := ⟨RX7, "wouldRideWith", "(II)Z"⟩
abbrev cX7_fillIn : ByteArray := prog_1_method_30_code
def yX7_fillIn : MethodName := ⟨RX7, "fillIn", "(III)V"⟩
abbrev cX7_tryTap : ByteArray := prog_1_method_31_code
def yX7_tryTap : MethodName := ⟨RX7, "tryTap", "(I)I"⟩
abbrev cX7_raisedChange : ByteArray := prog_1_method_32_code
def yX7_raisedChange : MethodName := ⟨RX7, "raisedChange", "(I)I"⟩
abbrev cX7_weekCell : ByteArray := prog_1_method_33_code
def yX7_weekCell : MethodName := ⟨RX7, "weekCell", "(II)I"⟩
abbrev cX7_dayCell : ByteArray := prog_1_method_34_code
def yX7_dayCell : MethodName := ⟨RX7, "dayCell", "(II)I"⟩
abbrev cX7_tapProperty : ByteArray := prog_1_method_35_code
def yX7_tapProperty : MethodName := ⟨RX7, "tapProperty", "(II)I"⟩
abbrev cX7_dayNumber : ByteArray := prog_1_method_36_code
def yX7_dayNumber : MethodName := ⟨RX7, "dayNumber", "(III)I"⟩
abbrev cX7_weekNumber : ByteArray := prog_1_method_37_code
def yX7_weekNumber : MethodName := ⟨RX7, "weekNumber", "(III)I"⟩
abbrev cX7_countNumber : ByteArray := prog_1_method_38_code
def yX7_countNumber : MethodName := ⟨RX7, "countNumber", "(I)I"⟩
abbrev cX7_costOfAll : ByteArray := prog_1_method_39_code
def yX7_costOfAll : MethodName := ⟨RX7, "costOfAll", "()I"⟩
abbrev cX7_weeksToSettleAnew : ByteArray := prog_1_method_40_code
def yX7_weeksToSettleAnew : MethodName := ⟨RX7, "weeksToSettleAnew", "()I"⟩
abbrev cX7_mixed : ByteArray := prog_1_method_41_code
def yX7_mixed : MethodName := ⟨RX7, "mixed", "(JJ)J"⟩
abbrev cX7_mixedWallet : ByteArray := prog_1_method_42_code
def yX7_mixedWallet : MethodName := ⟨RX7, "mixedWallet", "(JI)J"⟩
abbrev cX7_bitsOfShare : ByteArray := prog_1_method_43_code
def yX7_bitsOfShare : MethodName := ⟨RX7, "bitsOfShare", "(D)J"⟩
def RX8 : String := "CapWalletsModel"
def TX8 : u_T := fun k => match k with
  | 0 => ("CapWalletsModel", "thrown", "I", false)
  | 1 => ("CapWalletsModel", "s", "[I", true)
  | 2 => ("CapWalletsModel", "aside", "[I", true)
  | 3 => ("CapWalletsModel", "saved", "[I", true)
  | 4 => ("CapWalletsModel", "savedMany", "I", false)
  | 5 => ("CapWalletsModel", "buffer", "[I", true)
  | 6 => ("CapWalletsModel", "length", "I", false)
  | 7 => ("CapWalletsModel", "mates", "[I", true)
  | 8 => ("CapWalletsModel", "at", "I", false)
  | 9 => ("CapWalletsModel", "isWell", "Z", false)
  | 10 => ("CapWalletsModel", "read", "[I", true)
  | 11 => ("CapWalletsModel", "readMany", "I", false)
  | _ => ("CapWalletsModel", "hash", "J", false)
def tyX8 : Nat → FieldType := fun k => match k with
  | 0 => .int
  | 1 => .array .int
  | 2 => .array .int
  | 3 => .array .int
  | 4 => .int
  | 5 => .array .int
  | 6 => .int
  | 7 => .array .int
  | 8 => .int
  | 9 => .boolean
  | 10 => .array .int
  | 11 => .int
  | _ => .long
theorem nmX8 : ∀ a, a < 13 → ∀ b, b < 13 → a ≠ b → (TX8 a).2.1 ≠ (TX8 b).2.1 := by decide +kernel
theorem tyX8_ok : ∀ k, k < 13 → parseFieldDescriptor (TX8 k).2.2.1 = some (tyX8 k) := by decide +kernel
abbrev cX8_init : ByteArray := prog_10_method_1_code
def yX8_init : MethodName := ⟨RX8, "<init>", "()V"⟩
abbrev cX8_thrown : ByteArray := prog_10_method_2_code
def yX8_thrown : MethodName := ⟨RX8, "thrown", "()I"⟩
abbrev cX8_in : ByteArray := prog_10_method_3_code
def yX8_in : MethodName := ⟨RX8, "in", "(III)Z"⟩
abbrev cX8_fails : ByteArray := prog_10_method_4_code
def yX8_fails : MethodName := ⟨RX8, "fails", "(I)I"⟩
abbrev cX8_of : ByteArray := prog_10_method_5_code
def yX8_of : MethodName := ⟨RX8, "of", "(II)I"⟩
abbrev cX8_isTap : ByteArray := prog_10_method_6_code
def yX8_isTap : MethodName := ⟨RX8, "isTap", "(I)Z"⟩
abbrev cX8_isWallet : ByteArray := prog_10_method_7_code
def yX8_isWallet : MethodName := ⟨RX8, "isWallet", "(I)Z"⟩
abbrev cX8_saves : ByteArray := prog_10_method_8_code
def yX8_saves : MethodName := ⟨RX8, "saves", "()V"⟩
abbrev cX8_putAside : ByteArray := prog_10_method_9_code
def yX8_putAside : MethodName := ⟨RX8, "putAside", "()V"⟩
abbrev cX8_takeBack : ByteArray := prog_10_method_10_code
def yX8_takeBack : MethodName := ⟨RX8, "takeBack", "()V"⟩
abbrev cX8_timeOf : ByteArray := prog_10_method_11_code
def yX8_timeOf : MethodName := ⟨RX8, "timeOf", "(I)I"⟩
abbrev cX8_comes : ByteArray := prog_10_method_12_code
def yX8_comes : MethodName := ⟨RX8, "comes", "(IIIIII)I"⟩
abbrev cX8_nextOf : ByteArray := prog_10_method_13_code
def yX8_nextOf : MethodName := ⟨RX8, "nextOf", "(I)I"⟩
abbrev cX8_laysRides : ByteArray := prog_10_method_14_code
def yX8_laysRides : MethodName := ⟨RX8, "laysRides", "()V"⟩
abbrev cX8_fare : ByteArray := prog_10_method_15_code
def yX8_fare : MethodName := ⟨RX8, "fare", "(I)I"⟩
abbrev cX8_begins : ByteArray := prog_10_method_16_code
def yX8_begins : MethodName := ⟨RX8, "begins", "(I)Z"⟩
abbrev cX8_ofDay : ByteArray := prog_10_method_17_code
def yX8_ofDay : MethodName := ⟨RX8, "ofDay", "(III)I"⟩
abbrev cX8_overDays : ByteArray := prog_10_method_18_code
def yX8_overDays : MethodName := ⟨RX8, "overDays", "(III)I"⟩
abbrev cX8_costs : ByteArray := prog_10_method_19_code
def yX8_costs : MethodName := ⟨RX8, "costs", "(II)I"⟩
abbrev cX8_isTold : ByteArray := prog_10_method_20_code
def yX8_isTold : MethodName := ⟨RX8, "isTold", "(IIII)Z"⟩
abbrev cX8_tap : ByteArray := prog_10_method_21_code
def yX8_tap : MethodName := ⟨RX8, "tap", "(IIIIZ)I"⟩
abbrev cX8_remove : ByteArray := prog_10_method_22_code
def yX8_remove : MethodName := ⟨RX8, "remove", "(I)I"⟩
abbrev cX8_refuses : ByteArray := prog_10_method_23_code
def yX8_refuses : MethodName := ⟨RX8, "refuses", "(III)I"⟩
abbrev cX8_claim : ByteArray := prog_10_method_24_code
def yX8_claim : MethodName := ⟨RX8, "claim", "(III)I"⟩
abbrev cX8_entersLedger : ByteArray := prog_10_method_25_code
def yX8_entersLedger : MethodName := ⟨RX8, "entersLedger", "(III)V"⟩
abbrev cX8_settle : ByteArray := prog_10_method_26_code
def yX8_settle : MethodName := ⟨RX8, "settle", "(I)I"⟩
abbrev cX8_isSetting : ByteArray := prog_10_method_27_code
def yX8_isSetting : MethodName := ⟨RX8, "isSetting", "(II)Z"⟩
abbrev cX8_set : ByteArray := prog_10_method_28_code
def yX8_set : MethodName := ⟨RX8, "set", "(II)I"⟩
abbrev cX8_append : ByteArray := prog_10_method_29_code
def yX8_append : MethodName := ⟨RX8, "append", "(I)I"⟩
abbrev cX8_clearBuffer : ByteArray := prog_10_method_30_code
def yX8_clearBuffer : MethodName := ⟨RX8, "clearBuffer", "()I"⟩
abbrev cX8_sign : ByteArray := prog_10_method_31_code
def yX8_sign : MethodName := ⟨RX8, "sign", "()I"⟩
abbrev cX8_wants : ByteArray := prog_10_method_32_code
def yX8_wants : MethodName := ⟨RX8, "wants", "(I)V"⟩
abbrev cX8_number : ByteArray := prog_10_method_33_code
def yX8_number : MethodName := ⟨RX8, "number", "(I)I"⟩
abbrev cX8_readsTap : ByteArray := prog_10_method_34_code
def yX8_readsTap : MethodName := ⟨RX8, "readsTap", "()V"⟩
abbrev cX8_readsAll : ByteArray := prog_10_method_35_code
def yX8_readsAll : MethodName := ⟨RX8, "readsAll", "()V"⟩
abbrev cX8_firstError : ByteArray := prog_10_method_36_code
def yX8_firstError : MethodName := ⟨RX8, "firstError", "()I"⟩
abbrev cX8_load : ByteArray := prog_10_method_37_code
def yX8_load : MethodName := ⟨RX8, "load", "()I"⟩
abbrev cX8_undo : ByteArray := prog_10_method_38_code
def yX8_undo : MethodName := ⟨RX8, "undo", "()I"⟩
abbrev cX8_tellsTap : ByteArray := prog_10_method_39_code
def yX8_tellsTap : MethodName := ⟨RX8, "tellsTap", "(II)I"⟩
abbrev cX8_tapOf : ByteArray := prog_10_method_40_code
def yX8_tapOf : MethodName := ⟨RX8, "tapOf", "(II)I"⟩
abbrev cX8_day : ByteArray := prog_10_method_41_code
def yX8_day : MethodName := ⟨RX8, "day", "(III)I"⟩
abbrev cX8_tellsWeek : ByteArray := prog_10_method_42_code
def yX8_tellsWeek : MethodName := ⟨RX8, "tellsWeek", "(III)I"⟩
abbrev cX8_week : ByteArray := prog_10_method_43_code
def yX8_week : MethodName := ⟨RX8, "week", "(III)I"⟩
abbrev cX8_overWeeks : ByteArray := prog_10_method_44_code
def yX8_overWeeks : MethodName := ⟨RX8, "overWeeks", "(I)I"⟩
abbrev cX8_alone : ByteArray := prog_10_method_45_code
def yX8_alone : MethodName := ⟨RX8, "alone", "()I"⟩
abbrev cX8_unsettled : ByteArray := prog_10_method_46_code
def yX8_unsettled : MethodName := ⟨RX8, "unsettled", "()I"⟩
abbrev cX8_counts : ByteArray := prog_10_method_47_code
def yX8_counts : MethodName := ⟨RX8, "counts", "(I)I"⟩
abbrev cX8_count : ByteArray := prog_10_method_48_code
def yX8_count : MethodName := ⟨RX8, "count", "(I)I"⟩
abbrev cX8_entry : ByteArray := prog_10_method_49_code
def yX8_entry : MethodName := ⟨RX8, "entry", "(III)I"⟩
abbrev cX8_ledger : ByteArray := prog_10_method_50_code
def yX8_ledger : MethodName := ⟨RX8, "ledger", "(III)I"⟩
abbrev cX8_would : ByteArray := prog_10_method_51_code
def yX8_would : MethodName := ⟨RX8, "would", "(IIIII)I"⟩
abbrev cX8_ifTapped : ByteArray := prog_10_method_52_code
def yX8_ifTapped : MethodName := ⟨RX8, "ifTapped", "(IIIIZ)I"⟩
abbrev cX8_whyNot : ByteArray := prog_10_method_53_code
def yX8_whyNot : MethodName := ⟨RX8, "whyNot", "(III)I"⟩
abbrev cX8_leakyOne : ByteArray := prog_10_method_54_code
def yX8_leakyOne : MethodName := ⟨RX8, "leakyOne", "()I"⟩
abbrev cX8_leaky : ByteArray := prog_10_method_55_code
def yX8_leaky : MethodName := ⟨RX8, "leaky", "()I"⟩
abbrev cX8_least : ByteArray := prog_10_method_56_code
def yX8_least : MethodName := ⟨RX8, "least", "()I"⟩
abbrev cX8_leastCap : ByteArray := prog_10_method_57_code
def yX8_leastCap : MethodName := ⟨RX8, "leastCap", "()I"⟩
abbrev cX8_share : ByteArray := prog_10_method_58_code
def yX8_share : MethodName := ⟨RX8, "share", "()D"⟩
abbrev cX8_capShare : ByteArray := prog_10_method_59_code
def yX8_capShare : MethodName := ⟨RX8, "capShare", "()D"⟩
abbrev cX8_hashes : ByteArray := prog_10_method_60_code
def yX8_hashes : MethodName := ⟨RX8, "hashes", "(J)V"⟩
abbrev cX8_hashesDay : ByteArray := prog_10_method_61_code
def yX8_hashesDay : MethodName := ⟨RX8, "hashesDay", "(II)V"⟩
abbrev cX8_hashesWallet : ByteArray := prog_10_method_62_code
def yX8_hashesWallet : MethodName := ⟨RX8, "hashesWallet", "(I)V"⟩
abbrev cX8_digest : ByteArray := prog_10_method_63_code
def yX8_digest : MethodName := ⟨RX8, "digest", "()J"⟩
def RJxe99ae : String := "java/lang/Double"
def TJxe99ae : u_T := fun k => match k with
  | _ => ("", "", "", false)
def tyJxe99ae : Nat → FieldType := fun k => match k with
  | _ => .int
theorem nmJxe99ae : ∀ a, a < 0 → ∀ b, b < 0 → a ≠ b → (TJxe99ae a).2.1 ≠ (TJxe99ae b).2.1 := by decide +kernel
theorem tyJxe99ae_ok : ∀ k, k < 0 → parseFieldDescriptor (TJxe99ae k).2.2.1 = some (tyJxe99ae k) := by decide +kernel
abbrev cJxe99ae_isNaN_b9ae7 : ByteArray := prog_11_method_6_code
def yJxe99ae_isNaN_b9ae7 : MethodName := ⟨RJxe99ae, "isNaN", "(D)Z"⟩
abbrev cJxe99ae_doubleToLongBits_ccdee : ByteArray := prog_11_method_23_code
def yJxe99ae_doubleToLongBits_ccdee : MethodName := ⟨RJxe99ae, "doubleToLongBits", "(D)J"⟩
def RJ9 : String := "java/lang/Math"
def TJ9 : u_T := fun k => match k with
  | _ => ("", "", "", false)
def tyJ9 : Nat → FieldType := fun k => match k with
  | _ => .int
theorem nmJ9 : ∀ a, a < 0 → ∀ b, b < 0 → a ≠ b → (TJ9 a).2.1 ≠ (TJ9 b).2.1 := by decide +kernel
theorem tyJ9_ok : ∀ k, k < 0 → parseFieldDescriptor (TJ9 k).2.2.1 = some (tyJ9 k) := by decide +kernel
abbrev cJ9_abs_0f7a4 : ByteArray := prog_16_method_59_code
def yJ9_abs_0f7a4 : MethodName := ⟨RJ9, "abs", "(I)I"⟩
abbrev cJ9_max_7cf53 : ByteArray := prog_16_method_65_code
def yJ9_max_7cf53 : MethodName := ⟨RJ9, "max", "(II)I"⟩
abbrev cJ9_min_7cf53 : ByteArray := prog_16_method_69_code
def yJ9_min_7cf53 : MethodName := ⟨RJ9, "min", "(II)I"⟩
def RJ0 : String := "java/lang/String"
def TJ0 : u_T := fun k => match k with
  | _ => ("", "", "", false)
def tyJ0 : Nat → FieldType := fun k => match k with
  | _ => .int
theorem nmJ0 : ∀ a, a < 0 → ∀ b, b < 0 → a ≠ b → (TJ0 a).2.1 ≠ (TJ0 b).2.1 := by decide +kernel
theorem tyJ0_ok : ∀ k, k < 0 → parseFieldDescriptor (TJ0 k).2.2.1 = some (tyJ0 k) := by decide +kernel
def RL : String := "CapWalletsLaw"
abbrev cL_tap : ByteArray := method_3_code
def yL_tap : MethodName := ⟨RL, "tap", "(LCapWallets;IIIIZ[J)I"⟩
abbrev cL_remove : ByteArray := method_4_code
def yL_remove : MethodName := ⟨RL, "remove", "(LCapWallets;I[J)I"⟩
abbrev cL_claim : ByteArray := method_5_code
def yL_claim : MethodName := ⟨RL, "claim", "(LCapWallets;III[J)I"⟩
abbrev cL_settle : ByteArray := method_6_code
def yL_settle : MethodName := ⟨RL, "settle", "(LCapWallets;I[J)I"⟩
abbrev cL_set : ByteArray := method_7_code
def yL_set : MethodName := ⟨RL, "set", "(LCapWallets;II[J)I"⟩
abbrev cL_append : ByteArray := method_8_code
def yL_append : MethodName := ⟨RL, "append", "(LCapWallets;I[J)I"⟩
abbrev cL_load : ByteArray := method_9_code
def yL_load : MethodName := ⟨RL, "load", "(LCapWallets;[J)I"⟩
abbrev cL_undo : ByteArray := method_10_code
def yL_undo : MethodName := ⟨RL, "undo", "(LCapWallets;[J)I"⟩
abbrev cL_tapOf : ByteArray := method_11_code
def yL_tapOf : MethodName := ⟨RL, "tapOf", "(LCapWallets;II[J)I"⟩
abbrev cL_day : ByteArray := method_12_code
def yL_day : MethodName := ⟨RL, "day", "(LCapWallets;III[J)I"⟩
abbrev cL_week : ByteArray := method_13_code
def yL_week : MethodName := ⟨RL, "week", "(LCapWallets;III[J)I"⟩
abbrev cL_count : ByteArray := method_14_code
def yL_count : MethodName := ⟨RL, "count", "(LCapWallets;I[J)I"⟩
abbrev cL_ledger : ByteArray := method_15_code
def yL_ledger : MethodName := ⟨RL, "ledger", "(LCapWallets;III[J)I"⟩
abbrev cL_ifTapped : ByteArray := method_16_code
def yL_ifTapped : MethodName := ⟨RL, "ifTapped", "(LCapWallets;IIIIZ[J)I"⟩
abbrev cL_whyNot : ByteArray := method_17_code
def yL_whyNot : MethodName := ⟨RL, "whyNot", "(LCapWallets;III[J)I"⟩
abbrev cL_law : ByteArray := code
def yL_law : MethodName := ⟨RL, "law", "([I)Z"⟩
abbrev vwCl : List vw_C := [(RX0, TX0, 9), (RX2, TX2, 3), (RX3, TX3, 10), (RX5, TX5, 2), (RX6, TX6, 8), (RX7, TX7, 8), (RX8, TX8, 13)]
def wT : List Cond := lw_tbl.filter goodWord
theorem w_in {w : Cond} (h : w ∈ lw_tbl) (g : goodWord w = true) : w ∈ wT := List.mem_filter.mpr ⟨h, g⟩
theorem w_tab {w : Cond} (h : w ∈ tables_1) (g : goodWord w = true) : w ∈ wT := w_in (List.mem_append_right _ h) g
theorem w_sel {y : MethodName} {n : Nat} (h : (y, n) ∈ lw_privs) : Cond.selects y.cls y y ∈ wT := w_in (List.mem_append_left _ (List.mem_map.mpr ⟨(y, n), h, rfl⟩)) rfl
theorem w_good : ∀ w ∈ wT, w ∈ lw_tbl ∧ ((w.onTables && w.keeps) = true ∨ ∃ ty, w = .arrayClass ty) := fun w h => ⟨(List.mem_filter.mp h).1, good_of_word (List.mem_filter.mp h).2⟩
/-- a method's words: its own code first, then all words of the tables -/
def m_ws (y : MethodName) (cc : ByteArray) (n : Nat) (ret : Option FieldType) : List Cond := Cond.code y cc n ret :: wT
theorem wp_0_0 : Cond.selects "CapWallets$Rides" (⟨"CapWallets$Rides", "findMates", "(LCapWallets$TapRow;I)V"⟩ : MethodName) (⟨"CapWallets$Rides", "findMates", "(LCapWallets$TapRow;I)V"⟩ : MethodName) ∈ wT := w_sel (List.mem_append_left _ (List.mem_of_getElem? (i := 0) rfl))
theorem wp_0_1 : Cond.selects "CapWallets$Rides" (⟨"CapWallets$Rides", "findFares", "(LCapWallets$TapRow;[I)V"⟩ : MethodName) (⟨"CapWallets$Rides", "findFares", "(LCapWallets$TapRow;[I)V"⟩ : MethodName) ∈ wT := w_sel (List.mem_append_left _ (List.mem_of_getElem? (i := 1) rfl))
theorem wp_0_10 : Cond.selects "CapWallets" (⟨"CapWallets", "weeksToSettleAnew", "()I"⟩ : MethodName) (⟨"CapWallets", "weeksToSettleAnew", "()I"⟩ : MethodName) ∈ wT := w_sel (List.mem_append_left _ (List.mem_of_getElem? (i := 10) rfl))
theorem wp_0_11 : Cond.selects "CapWallets" (⟨"CapWallets", "tapProperty", "(II)I"⟩ : MethodName) (⟨"CapWallets", "tapProperty", "(II)I"⟩ : MethodName) ∈ wT := w_sel (List.mem_append_left _ (List.mem_of_getElem? (i := 11) rfl))
theorem wp_0_12 : Cond.selects "CapWallets" (⟨"CapWallets", "mixedWallet", "(JI)J"⟩ : MethodName) (⟨"CapWallets", "mixedWallet", "(JI)J"⟩ : MethodName) ∈ wT := w_sel (List.mem_append_left _ (List.mem_of_getElem? (i := 12) rfl))
theorem wp_0_13 : Cond.selects "CapWallets" (⟨"CapWallets", "dayNumber", "(III)I"⟩ : MethodName) (⟨"CapWallets", "dayNumber", "(III)I"⟩ : MethodName) ∈ wT := w_sel (List.mem_append_left _ (List.mem_of_getElem? (i := 13) rfl))
theorem wp_0_14 : Cond.selects "CapWallets" (⟨"CapWallets", "weekNumber", "(III)I"⟩ : MethodName) (⟨"CapWallets", "weekNumber", "(III)I"⟩ : MethodName) ∈ wT := w_sel (List.mem_append_left _ (List.mem_of_getElem? (i := 14) rfl))
theorem wp_0_15 : Cond.selects "CapWallets" (⟨"CapWallets", "raisedChange", "(I)I"⟩ : MethodName) (⟨"CapWallets", "raisedChange", "(I)I"⟩ : MethodName) ∈ wT := w_sel (List.mem_append_left _ (List.mem_of_getElem? (i := 15) rfl))
theorem wp_0_2 : Cond.selects "CapWallets$Rides" (⟨"CapWallets$Rides", "addUp", "(LCapWallets$TapRow;)V"⟩ : MethodName) (⟨"CapWallets$Rides", "addUp", "(LCapWallets$TapRow;)V"⟩ : MethodName) ∈ wT := w_sel (List.mem_append_left _ (List.mem_of_getElem? (i := 2) rfl))
theorem wp_0_3 : Cond.selects "CapWallets$TextReader" (⟨"CapWallets$TextReader", "takes", "(I)Z"⟩ : MethodName) (⟨"CapWallets$TextReader", "takes", "(I)Z"⟩ : MethodName) ∈ wT := w_sel (List.mem_append_left _ (List.mem_of_getElem? (i := 3) rfl))
theorem wp_0_4 : Cond.selects "CapWallets$TextReader" (⟨"CapWallets$TextReader", "goesOn", "(ZI)Z"⟩ : MethodName) (⟨"CapWallets$TextReader", "goesOn", "(ZI)Z"⟩ : MethodName) ∈ wT := w_sel (List.mem_append_left _ (List.mem_of_getElem? (i := 4) rfl))
theorem wp_0_5 : Cond.selects "CapWallets$TextReader" (⟨"CapWallets$TextReader", "startsNumber", "(II)Z"⟩ : MethodName) (⟨"CapWallets$TextReader", "startsNumber", "(II)Z"⟩ : MethodName) ∈ wT := w_sel (List.mem_append_left _ (List.mem_of_getElem? (i := 5) rfl))
theorem wp_0_6 : Cond.selects "CapWallets$TextReader" (⟨"CapWallets$TextReader", "lengthensNumber", "(II)Z"⟩ : MethodName) (⟨"CapWallets$TextReader", "lengthensNumber", "(II)Z"⟩ : MethodName) ∈ wT := w_sel (List.mem_append_left _ (List.mem_of_getElem? (i := 6) rfl))
theorem wp_0_7 : Cond.selects "CapWallets$TextReader" (⟨"CapWallets$TextReader", "endsTap", "(I)Z"⟩ : MethodName) (⟨"CapWallets$TextReader", "endsTap", "(I)Z"⟩ : MethodName) ∈ wT := w_sel (List.mem_append_left _ (List.mem_of_getElem? (i := 7) rfl))
theorem wp_0_8 : Cond.selects "CapWallets" (⟨"CapWallets", "costOfAll", "()I"⟩ : MethodName) (⟨"CapWallets", "costOfAll", "()I"⟩ : MethodName) ∈ wT := w_sel (List.mem_append_left _ (List.mem_of_getElem? (i := 8) rfl))
theorem wp_0_9 : Cond.selects "CapWallets" (⟨"CapWallets", "countNumber", "(I)I"⟩ : MethodName) (⟨"CapWallets", "countNumber", "(I)I"⟩ : MethodName) ∈ wT := w_sel (List.mem_append_left _ (List.mem_of_getElem? (i := 9) rfl))
theorem wp_1_0 : Cond.selects "CapWallets" (⟨"CapWallets", "tryTap", "(I)I"⟩ : MethodName) (⟨"CapWallets", "tryTap", "(I)I"⟩ : MethodName) ∈ wT := w_sel (List.mem_append_right _ (List.mem_append_left _ (List.mem_of_getElem? (i := 0) rfl)))
theorem wp_1_10 : Cond.selects "CapWalletsModel" (⟨"CapWalletsModel", "comes", "(IIIIII)I"⟩ : MethodName) (⟨"CapWalletsModel", "comes", "(IIIIII)I"⟩ : MethodName) ∈ wT := w_sel (List.mem_append_right _ (List.mem_append_left _ (List.mem_of_getElem? (i := 10) rfl)))
theorem wp_1_11 : Cond.selects "CapWalletsModel" (⟨"CapWalletsModel", "timeOf", "(I)I"⟩ : MethodName) (⟨"CapWalletsModel", "timeOf", "(I)I"⟩ : MethodName) ∈ wT := w_sel (List.mem_append_right _ (List.mem_append_left _ (List.mem_of_getElem? (i := 11) rfl)))
theorem wp_1_12 : Cond.selects "CapWalletsModel" (⟨"CapWalletsModel", "of", "(II)I"⟩ : MethodName) (⟨"CapWalletsModel", "of", "(II)I"⟩ : MethodName) ∈ wT := w_sel (List.mem_append_right _ (List.mem_append_left _ (List.mem_of_getElem? (i := 12) rfl)))
theorem wp_1_13 : Cond.selects "CapWalletsModel" (⟨"CapWalletsModel", "isTap", "(I)Z"⟩ : MethodName) (⟨"CapWalletsModel", "isTap", "(I)Z"⟩ : MethodName) ∈ wT := w_sel (List.mem_append_right _ (List.mem_append_left _ (List.mem_of_getElem? (i := 13) rfl)))
theorem wp_1_14 : Cond.selects "CapWalletsModel" (⟨"CapWalletsModel", "putAside", "()V"⟩ : MethodName) (⟨"CapWalletsModel", "putAside", "()V"⟩ : MethodName) ∈ wT := w_sel (List.mem_append_right _ (List.mem_append_left _ (List.mem_of_getElem? (i := 14) rfl)))
theorem wp_1_15 : Cond.selects "CapWalletsModel" (⟨"CapWalletsModel", "refuses", "(III)I"⟩ : MethodName) (⟨"CapWalletsModel", "refuses", "(III)I"⟩ : MethodName) ∈ wT := w_sel (List.mem_append_right _ (List.mem_append_left _ (List.mem_of_getElem? (i := 15) rfl)))
theorem wp_1_2 : Cond.selects "CapWallets$Saves" (⟨"CapWallets$Saves", "slot", "(I)LCapWallets$State;"⟩ : MethodName) (⟨"CapWallets$Saves", "slot", "(I)LCapWallets$State;"⟩ : MethodName) ∈ wT := w_sel (List.mem_append_right _ (List.mem_append_left _ (List.mem_of_getElem? (i := 2) rfl)))
theorem wp_1_3 : Cond.selects "CapWallets" (⟨"CapWallets", "readRides", "()V"⟩ : MethodName) (⟨"CapWallets", "readRides", "()V"⟩ : MethodName) ∈ wT := w_sel (List.mem_append_right _ (List.mem_append_left _ (List.mem_of_getElem? (i := 3) rfl)))
theorem wp_1_4 : Cond.selects "CapWallets" (⟨"CapWallets", "isPlace", "(I)Z"⟩ : MethodName) (⟨"CapWallets", "isPlace", "(I)Z"⟩ : MethodName) ∈ wT := w_sel (List.mem_append_right _ (List.mem_append_left _ (List.mem_of_getElem? (i := 4) rfl)))
theorem wp_1_5 : Cond.selects "CapWallets" (⟨"CapWallets", "refusal", "(III)I"⟩ : MethodName) (⟨"CapWallets", "refusal", "(III)I"⟩ : MethodName) ∈ wT := w_sel (List.mem_append_right _ (List.mem_append_left _ (List.mem_of_getElem? (i := 5) rfl)))
theorem wp_1_6 : Cond.selects "CapWallets" (⟨"CapWallets", "wouldRideWith", "(II)Z"⟩ : MethodName) (⟨"CapWallets", "wouldRideWith", "(II)Z"⟩ : MethodName) ∈ wT := w_sel (List.mem_append_right _ (List.mem_append_left _ (List.mem_of_getElem? (i := 6) rfl)))
theorem wp_1_7 : Cond.selects "CapWallets" (⟨"CapWallets", "fillIn", "(III)V"⟩ : MethodName) (⟨"CapWallets", "fillIn", "(III)V"⟩ : MethodName) ∈ wT := w_sel (List.mem_append_right _ (List.mem_append_left _ (List.mem_of_getElem? (i := 7) rfl)))
theorem wp_1_8 : Cond.selects "CapWalletsModel" (⟨"CapWalletsModel", "fails", "(I)I"⟩ : MethodName) (⟨"CapWalletsModel", "fails", "(I)I"⟩ : MethodName) ∈ wT := w_sel (List.mem_append_right _ (List.mem_append_left _ (List.mem_of_getElem? (i := 8) rfl)))
theorem wp_1_9 : Cond.selects "CapWalletsModel" (⟨"CapWalletsModel", "saves", "()V"⟩ : MethodName) (⟨"CapWalletsModel", "saves", "()V"⟩ : MethodName) ∈ wT := w_sel (List.mem_append_right _ (List.mem_append_left _ (List.mem_of_getElem? (i := 9) rfl)))
theorem wp_2_0 : Cond.selects "CapWalletsModel" (⟨"CapWalletsModel", "laysRides", "()V"⟩ : MethodName) (⟨"CapWalletsModel", "laysRides", "()V"⟩ : MethodName) ∈ wT := w_sel (List.mem_append_right _ (List.mem_append_right _ (List.mem_append_left _ (List.mem_of_getElem? (i := 0) rfl))))
theorem wp_2_1 : Cond.selects "CapWalletsModel" (⟨"CapWalletsModel", "nextOf", "(I)I"⟩ : MethodName) (⟨"CapWalletsModel", "nextOf", "(I)I"⟩ : MethodName) ∈ wT := w_sel (List.mem_append_right _ (List.mem_append_right _ (List.mem_append_left _ (List.mem_of_getElem? (i := 1) rfl))))
theorem wp_2_10 : Cond.selects "CapWalletsModel" (⟨"CapWalletsModel", "readsTap", "()V"⟩ : MethodName) (⟨"CapWalletsModel", "readsTap", "()V"⟩ : MethodName) ∈ wT := w_sel (List.mem_append_right _ (List.mem_append_right _ (List.mem_append_left _ (List.mem_of_getElem? (i := 10) rfl))))
theorem wp_2_11 : Cond.selects "CapWalletsModel" (⟨"CapWalletsModel", "number", "(I)I"⟩ : MethodName) (⟨"CapWalletsModel", "number", "(I)I"⟩ : MethodName) ∈ wT := w_sel (List.mem_append_right _ (List.mem_append_right _ (List.mem_append_left _ (List.mem_of_getElem? (i := 11) rfl))))
theorem wp_2_12 : Cond.selects "CapWalletsModel" (⟨"CapWalletsModel", "sign", "()I"⟩ : MethodName) (⟨"CapWalletsModel", "sign", "()I"⟩ : MethodName) ∈ wT := w_sel (List.mem_append_right _ (List.mem_append_right _ (List.mem_append_left _ (List.mem_of_getElem? (i := 12) rfl))))
theorem wp_2_13 : Cond.selects "CapWalletsModel" (⟨"CapWalletsModel", "wants", "(I)V"⟩ : MethodName) (⟨"CapWalletsModel", "wants", "(I)V"⟩ : MethodName) ∈ wT := w_sel (List.mem_append_right _ (List.mem_append_right _ (List.mem_append_left _ (List.mem_of_getElem? (i := 13) rfl))))
theorem wp_2_14 : Cond.selects "CapWalletsModel" (⟨"CapWalletsModel", "tellsTap", "(II)I"⟩ : MethodName) (⟨"CapWalletsModel", "tellsTap", "(II)I"⟩ : MethodName) ∈ wT := w_sel (List.mem_append_right _ (List.mem_append_right _ (List.mem_append_left _ (List.mem_of_getElem? (i := 14) rfl))))
theorem wp_2_15 : Cond.selects "CapWalletsModel" (⟨"CapWalletsModel", "tellsWeek", "(III)I"⟩ : MethodName) (⟨"CapWalletsModel", "tellsWeek", "(III)I"⟩ : MethodName) ∈ wT := w_sel (List.mem_append_right _ (List.mem_append_right _ (List.mem_append_left _ (List.mem_of_getElem? (i := 15) rfl))))
theorem wp_2_2 : Cond.selects "CapWalletsModel" (⟨"CapWalletsModel", "takeBack", "()V"⟩ : MethodName) (⟨"CapWalletsModel", "takeBack", "()V"⟩ : MethodName) ∈ wT := w_sel (List.mem_append_right _ (List.mem_append_right _ (List.mem_append_left _ (List.mem_of_getElem? (i := 2) rfl))))
theorem wp_2_3 : Cond.selects "CapWalletsModel" (⟨"CapWalletsModel", "costs", "(II)I"⟩ : MethodName) (⟨"CapWalletsModel", "costs", "(II)I"⟩ : MethodName) ∈ wT := w_sel (List.mem_append_right _ (List.mem_append_right _ (List.mem_append_left _ (List.mem_of_getElem? (i := 3) rfl))))
theorem wp_2_4 : Cond.selects "CapWalletsModel" (⟨"CapWalletsModel", "overDays", "(III)I"⟩ : MethodName) (⟨"CapWalletsModel", "overDays", "(III)I"⟩ : MethodName) ∈ wT := w_sel (List.mem_append_right _ (List.mem_append_right _ (List.mem_append_left _ (List.mem_of_getElem? (i := 4) rfl))))
theorem wp_2_5 : Cond.selects "CapWalletsModel" (⟨"CapWalletsModel", "ofDay", "(III)I"⟩ : MethodName) (⟨"CapWalletsModel", "ofDay", "(III)I"⟩ : MethodName) ∈ wT := w_sel (List.mem_append_right _ (List.mem_append_right _ (List.mem_append_left _ (List.mem_of_getElem? (i := 5) rfl))))
theorem wp_2_6 : Cond.selects "CapWalletsModel" (⟨"CapWalletsModel", "begins", "(I)Z"⟩ : MethodName) (⟨"CapWalletsModel", "begins", "(I)Z"⟩ : MethodName) ∈ wT := w_sel (List.mem_append_right _ (List.mem_append_right _ (List.mem_append_left _ (List.mem_of_getElem? (i := 6) rfl))))
theorem wp_2_7 : Cond.selects "CapWalletsModel" (⟨"CapWalletsModel", "fare", "(I)I"⟩ : MethodName) (⟨"CapWalletsModel", "fare", "(I)I"⟩ : MethodName) ∈ wT := w_sel (List.mem_append_right _ (List.mem_append_right _ (List.mem_append_left _ (List.mem_of_getElem? (i := 7) rfl))))
theorem wp_2_8 : Cond.selects "CapWalletsModel" (⟨"CapWalletsModel", "entersLedger", "(III)V"⟩ : MethodName) (⟨"CapWalletsModel", "entersLedger", "(III)V"⟩ : MethodName) ∈ wT := w_sel (List.mem_append_right _ (List.mem_append_right _ (List.mem_append_left _ (List.mem_of_getElem? (i := 8) rfl))))
theorem wp_2_9 : Cond.selects "CapWalletsModel" (⟨"CapWalletsModel", "readsAll", "()V"⟩ : MethodName) (⟨"CapWalletsModel", "readsAll", "()V"⟩ : MethodName) ∈ wT := w_sel (List.mem_append_right _ (List.mem_append_right _ (List.mem_append_left _ (List.mem_of_getElem? (i := 9) rfl))))
theorem wp_3_0 : Cond.selects "CapWalletsModel" (⟨"CapWalletsModel", "counts", "(I)I"⟩ : MethodName) (⟨"CapWalletsModel", "counts", "(I)I"⟩ : MethodName) ∈ wT := w_sel (List.mem_append_right _ (List.mem_append_right _ (List.mem_append_right _ (List.mem_of_getElem? (i := 0) rfl))))
theorem wp_3_1 : Cond.selects "CapWalletsModel" (⟨"CapWalletsModel", "overWeeks", "(I)I"⟩ : MethodName) (⟨"CapWalletsModel", "overWeeks", "(I)I"⟩ : MethodName) ∈ wT := w_sel (List.mem_append_right _ (List.mem_append_right _ (List.mem_append_right _ (List.mem_of_getElem? (i := 1) rfl))))
theorem wp_3_10 : Cond.selects "CapWalletsModel" (⟨"CapWalletsModel", "hashesWallet", "(I)V"⟩ : MethodName) (⟨"CapWalletsModel", "hashesWallet", "(I)V"⟩ : MethodName) ∈ wT := w_sel (List.mem_append_right _ (List.mem_append_right _ (List.mem_append_right _ (List.mem_of_getElem? (i := 10) rfl))))
theorem wp_3_11 : Cond.selects "CapWalletsModel" (⟨"CapWalletsModel", "hashesDay", "(II)V"⟩ : MethodName) (⟨"CapWalletsModel", "hashesDay", "(II)V"⟩ : MethodName) ∈ wT := w_sel (List.mem_append_right _ (List.mem_append_right _ (List.mem_append_right _ (List.mem_of_getElem? (i := 11) rfl))))
theorem wp_3_2 : Cond.selects "CapWalletsModel" (⟨"CapWalletsModel", "alone", "()I"⟩ : MethodName) (⟨"CapWalletsModel", "alone", "()I"⟩ : MethodName) ∈ wT := w_sel (List.mem_append_right _ (List.mem_append_right _ (List.mem_append_right _ (List.mem_of_getElem? (i := 2) rfl))))
theorem wp_3_3 : Cond.selects "CapWalletsModel" (⟨"CapWalletsModel", "unsettled", "()I"⟩ : MethodName) (⟨"CapWalletsModel", "unsettled", "()I"⟩ : MethodName) ∈ wT := w_sel (List.mem_append_right _ (List.mem_append_right _ (List.mem_append_right _ (List.mem_of_getElem? (i := 3) rfl))))
theorem wp_3_4 : Cond.selects "CapWalletsModel" (⟨"CapWalletsModel", "entry", "(III)I"⟩ : MethodName) (⟨"CapWalletsModel", "entry", "(III)I"⟩ : MethodName) ∈ wT := w_sel (List.mem_append_right _ (List.mem_append_right _ (List.mem_append_right _ (List.mem_of_getElem? (i := 4) rfl))))
theorem wp_3_5 : Cond.selects "CapWalletsModel" (⟨"CapWalletsModel", "would", "(IIIII)I"⟩ : MethodName) (⟨"CapWalletsModel", "would", "(IIIII)I"⟩ : MethodName) ∈ wT := w_sel (List.mem_append_right _ (List.mem_append_right _ (List.mem_append_right _ (List.mem_of_getElem? (i := 5) rfl))))
theorem wp_3_6 : Cond.selects "CapWalletsModel" (⟨"CapWalletsModel", "leakyOne", "()I"⟩ : MethodName) (⟨"CapWalletsModel", "leakyOne", "()I"⟩ : MethodName) ∈ wT := w_sel (List.mem_append_right _ (List.mem_append_right _ (List.mem_append_right _ (List.mem_of_getElem? (i := 6) rfl))))
theorem wp_3_7 : Cond.selects "CapWalletsModel" (⟨"CapWalletsModel", "least", "()I"⟩ : MethodName) (⟨"CapWalletsModel", "least", "()I"⟩ : MethodName) ∈ wT := w_sel (List.mem_append_right _ (List.mem_append_right _ (List.mem_append_right _ (List.mem_of_getElem? (i := 7) rfl))))
theorem wp_3_8 : Cond.selects "CapWalletsModel" (⟨"CapWalletsModel", "share", "()D"⟩ : MethodName) (⟨"CapWalletsModel", "share", "()D"⟩ : MethodName) ∈ wT := w_sel (List.mem_append_right _ (List.mem_append_right _ (List.mem_append_right _ (List.mem_of_getElem? (i := 8) rfl))))
theorem wp_3_9 : Cond.selects "CapWalletsModel" (⟨"CapWalletsModel", "hashes", "(J)V"⟩ : MethodName) (⟨"CapWalletsModel", "hashes", "(J)V"⟩ : MethodName) ∈ wT := w_sel (List.mem_append_right _ (List.mem_append_right _ (List.mem_append_right _ (List.mem_of_getElem? (i := 9) rfl))))
theorem wm_0_0 : (Jvm.Cond.initialized "CapWalletsLaw") ∈ wT := w_tab (List.mem_append_left _ (List.mem_of_getElem? (i := 0) rfl)) rfl
theorem wm_0_1 : (Jvm.Cond.initialized "CapWallets") ∈ wT := w_tab (List.mem_append_left _ (List.mem_of_getElem? (i := 1) rfl)) rfl
theorem wm_0_10 : (Jvm.Cond.initialized "CapWalletsModel") ∈ wT := w_tab (List.mem_append_left _ (List.mem_of_getElem? (i := 10) rfl)) rfl
theorem wm_0_100 : (Jvm.Cond.methodLink "CapWallets$Rides" (3 : Nat) ({ cls := "java/lang/Object", name := "<init>", desc := "()V" } : Jvm.MethodName)) ∈ wT := w_tab (List.mem_append_left _ (List.mem_of_getElem? (i := 100) rfl)) rfl
theorem wm_0_101 : (Jvm.Cond.fieldLink "CapWallets$Rides" (9 : Nat) "CapWallets$Rides" "mates" "[I") ∈ wT := w_tab (List.mem_append_left _ (List.mem_of_getElem? (i := 101) rfl)) rfl
theorem wm_0_103 : (Jvm.Cond.fieldLink "CapWallets$Rides" (15 : Nat) "CapWallets$Rides" "fares" "[I") ∈ wT := w_tab (List.mem_append_left _ (List.mem_of_getElem? (i := 103) rfl)) rfl
theorem wm_0_105 : (Jvm.Cond.fieldLink "CapWallets$Rides" (18 : Nat) "CapWallets$Rides" "dayRides" "[I") ∈ wT := w_tab (List.mem_append_left _ (List.mem_of_getElem? (i := 105) rfl)) rfl
theorem wm_0_107 : (Jvm.Cond.fieldLink "CapWallets$Rides" (21 : Nat) "CapWallets$Rides" "dayAlone" "[I") ∈ wT := w_tab (List.mem_append_left _ (List.mem_of_getElem? (i := 107) rfl)) rfl
theorem wm_0_109 : (Jvm.Cond.fieldLink "CapWallets$Rides" (24 : Nat) "CapWallets$Rides" "dayFares" "[I") ∈ wT := w_tab (List.mem_append_left _ (List.mem_of_getElem? (i := 109) rfl)) rfl
theorem wm_0_11 : (Jvm.Cond.initialized "java/lang/Throwable") ∈ wT := w_tab (List.mem_append_left _ (List.mem_of_getElem? (i := 11) rfl)) rfl
theorem wm_0_111 : (Jvm.Cond.fieldLink "CapWallets$Rides" (27 : Nat) "CapWallets$Rides" "leaks" "[I") ∈ wT := w_tab (List.mem_append_left _ (List.mem_of_getElem? (i := 111) rfl)) rfl
theorem wm_0_113 : (Jvm.Cond.fieldLink "CapWallets$Rides" (30 : Nat) "CapWallets$Rides" "latest" "[I") ∈ wT := w_tab (List.mem_append_left _ (List.mem_of_getElem? (i := 113) rfl)) rfl
theorem wm_0_114 : (Jvm.Cond.fieldLink "CapWallets$Rides" (33 : Nat) "CapWallets$Rides" "dayCap" "I") ∈ wT := w_tab (List.mem_append_left _ (List.mem_of_getElem? (i := 114) rfl)) rfl
theorem wm_0_115 : (Jvm.Cond.fieldLink "CapWallets$Rides" (37 : Nat) "CapWallets$Rides" "weekCap" "I") ∈ wT := w_tab (List.mem_append_left _ (List.mem_of_getElem? (i := 115) rfl)) rfl
theorem wm_0_116 : (Jvm.Cond.laysFinal "CapWallets$Rides" "CapWallets$Rides" "mates" "[I") ∈ wT := w_tab (List.mem_append_left _ (List.mem_of_getElem? (i := 116) rfl)) rfl
theorem wm_0_118 : (Jvm.Cond.laysFinal "CapWallets$Rides" "CapWallets$Rides" "fares" "[I") ∈ wT := w_tab (List.mem_append_left _ (List.mem_of_getElem? (i := 118) rfl)) rfl
theorem wm_0_12 : (Jvm.Cond.initialized "java/lang/Exception") ∈ wT := w_tab (List.mem_append_left _ (List.mem_of_getElem? (i := 12) rfl)) rfl
theorem wm_0_120 : (Jvm.Cond.laysFinal "CapWallets$Rides" "CapWallets$Rides" "dayRides" "[I") ∈ wT := w_tab (List.mem_append_left _ (List.mem_of_getElem? (i := 120) rfl)) rfl
theorem wm_0_122 : (Jvm.Cond.laysFinal "CapWallets$Rides" "CapWallets$Rides" "dayAlone" "[I") ∈ wT := w_tab (List.mem_append_left _ (List.mem_of_getElem? (i := 122) rfl)) rfl
theorem wm_0_124 : (Jvm.Cond.laysFinal "CapWallets$Rides" "CapWallets$Rides" "dayFares" "[I") ∈ wT := w_tab (List.mem_append_left _ (List.mem_of_getElem? (i := 124) rfl)) rfl
theorem wm_0_126 : (Jvm.Cond.laysFinal "CapWallets$Rides" "CapWallets$Rides" "leaks" "[I") ∈ wT := w_tab (List.mem_append_left _ (List.mem_of_getElem? (i := 126) rfl)) rfl
theorem wm_0_128 : (Jvm.Cond.laysFinal "CapWallets$Rides" "CapWallets$Rides" "latest" "[I") ∈ wT := w_tab (List.mem_append_left _ (List.mem_of_getElem? (i := 128) rfl)) rfl
theorem wm_0_13 : (Jvm.Cond.initialized "java/lang/RuntimeException") ∈ wT := w_tab (List.mem_append_left _ (List.mem_of_getElem? (i := 13) rfl)) rfl
theorem wm_0_130 : (Jvm.Cond.lays "CapWallets$Rides" "CapWallets$Rides" "dayCap" "I") ∈ wT := w_tab (List.mem_append_left _ (List.mem_of_getElem? (i := 130) rfl)) rfl
theorem wm_0_132 : (Jvm.Cond.lays "CapWallets$Rides" "CapWallets$Rides" "weekCap" "I") ∈ wT := w_tab (List.mem_append_left _ (List.mem_of_getElem? (i := 132) rfl)) rfl
theorem wm_0_135 : (Jvm.Cond.classLink "CapWallets" (23 : Nat) "CapWallets$Saves") ∈ wT := w_tab (List.mem_append_left _ (List.mem_of_getElem? (i := 135) rfl)) rfl
theorem wm_0_136 : (Jvm.Cond.instantiable "CapWallets$Saves" (3 : Nat)) ∈ wT := w_tab (List.mem_append_left _ (List.mem_of_getElem? (i := 136) rfl)) rfl
theorem wm_0_137 : (Jvm.Cond.methodLink "CapWallets" (25 : Nat) ({ cls := "CapWallets$Saves", name := "<init>", desc := "()V" } : Jvm.MethodName)) ∈ wT := w_tab (List.mem_append_left _ (List.mem_of_getElem? (i := 137) rfl)) rfl
theorem wm_0_138 : (Jvm.Cond.instanceMethod ({ cls := "CapWallets$Saves", name := "<init>", desc := "()V" } : Jvm.MethodName)) ∈ wT := w_tab (List.mem_append_left _ (List.mem_of_getElem? (i := 138) rfl)) rfl
theorem wm_0_139 : (Jvm.Cond.code ({ cls := "CapWallets$Saves", name := "<init>", desc := "()V" } : Jvm.MethodName) prog_4_method_1_code (2 : Nat) (Option.none : Option Jvm.ClassFile.FieldType)) ∈ wT := w_tab (List.mem_append_left _ (List.mem_of_getElem? (i := 139) rfl)) rfl
theorem wm_0_14 : (Jvm.Cond.initialized "java/lang/IllegalArgumentException") ∈ wT := w_tab (List.mem_append_left _ (List.mem_of_getElem? (i := 14) rfl)) rfl
theorem wm_0_140 : (Jvm.Cond.methodLink "CapWallets$Saves" (3 : Nat) ({ cls := "java/lang/Object", name := "<init>", desc := "()V" } : Jvm.MethodName)) ∈ wT := w_tab (List.mem_append_left _ (List.mem_of_getElem? (i := 140) rfl)) rfl
theorem wm_0_141 : (Jvm.Cond.classLink "CapWallets$Saves" (9 : Nat) "CapWallets$State") ∈ wT := w_tab (List.mem_append_left _ (List.mem_of_getElem? (i := 141) rfl)) rfl
theorem wm_0_143 : (Jvm.Cond.methodLink "CapWallets$Saves" (17 : Nat) ({ cls := "CapWallets$State", name := "<init>", desc := "()V" } : Jvm.MethodName)) ∈ wT := w_tab (List.mem_append_left _ (List.mem_of_getElem? (i := 143) rfl)) rfl
theorem wm_0_144 : (Jvm.Cond.fieldLink "CapWallets$Saves" (11 : Nat) "CapWallets$Saves" "ring" "[LCapWallets$State;") ∈ wT := w_tab (List.mem_append_left _ (List.mem_of_getElem? (i := 144) rfl)) rfl
theorem wm_0_145 : (Jvm.Cond.fieldLink "CapWallets$Saves" (18 : Nat) "CapWallets$Saves" "next" "I") ∈ wT := w_tab (List.mem_append_left _ (List.mem_of_getElem? (i := 145) rfl)) rfl
theorem wm_0_146 : (Jvm.Cond.fieldLink "CapWallets$Saves" (22 : Nat) "CapWallets$Saves" "size" "I") ∈ wT := w_tab (List.mem_append_left _ (List.mem_of_getElem? (i := 146) rfl)) rfl
theorem wm_0_148 : (Jvm.Cond.laysFinal "CapWallets$Saves" "CapWallets$Saves" "ring" "[LCapWallets$State;") ∈ wT := w_tab (List.mem_append_left _ (List.mem_of_getElem? (i := 148) rfl)) rfl
theorem wm_0_15 : (Jvm.Cond.initialized "java/lang/IllegalStateException") ∈ wT := w_tab (List.mem_append_left _ (List.mem_of_getElem? (i := 15) rfl)) rfl
theorem wm_0_150 : (Jvm.Cond.lays "CapWallets$Saves" "CapWallets$Saves" "next" "I") ∈ wT := w_tab (List.mem_append_left _ (List.mem_of_getElem? (i := 150) rfl)) rfl
theorem wm_0_152 : (Jvm.Cond.lays "CapWallets$Saves" "CapWallets$Saves" "size" "I") ∈ wT := w_tab (List.mem_append_left _ (List.mem_of_getElem? (i := 152) rfl)) rfl
theorem wm_0_155 : (Jvm.Cond.classLink "CapWallets" (30 : Nat) "CapWallets$TapRow") ∈ wT := w_tab (List.mem_append_left _ (List.mem_of_getElem? (i := 155) rfl)) rfl
theorem wm_0_156 : (Jvm.Cond.methodLink "CapWallets" (32 : Nat) ({ cls := "CapWallets$TapRow", name := "<init>", desc := "()V" } : Jvm.MethodName)) ∈ wT := w_tab (List.mem_append_left _ (List.mem_of_getElem? (i := 156) rfl)) rfl
theorem wm_0_157 : (Jvm.Cond.classLink "CapWallets" (48 : Nat) "CapWallets$TextReader") ∈ wT := w_tab (List.mem_append_left _ (List.mem_of_getElem? (i := 157) rfl)) rfl
theorem wm_0_158 : (Jvm.Cond.instantiable "CapWallets$TextReader" (8 : Nat)) ∈ wT := w_tab (List.mem_append_left _ (List.mem_of_getElem? (i := 158) rfl)) rfl
theorem wm_0_159 : (Jvm.Cond.methodLink "CapWallets" (50 : Nat) ({ cls := "CapWallets$TextReader", name := "<init>", desc := "()V" } : Jvm.MethodName)) ∈ wT := w_tab (List.mem_append_left _ (List.mem_of_getElem? (i := 159) rfl)) rfl
theorem wm_0_16 : (Jvm.Cond.initialized "java/lang/IndexOutOfBoundsException") ∈ wT := w_tab (List.mem_append_left _ (List.mem_of_getElem? (i := 16) rfl)) rfl
theorem wm_0_160 : (Jvm.Cond.instanceMethod ({ cls := "CapWallets$TextReader", name := "<init>", desc := "()V" } : Jvm.MethodName)) ∈ wT := w_tab (List.mem_append_left _ (List.mem_of_getElem? (i := 160) rfl)) rfl
theorem wm_0_161 : (Jvm.Cond.code ({ cls := "CapWallets$TextReader", name := "<init>", desc := "()V" } : Jvm.MethodName) prog_8_method_1_code (1 : Nat) (Option.none : Option Jvm.ClassFile.FieldType)) ∈ wT := w_tab (List.mem_append_left _ (List.mem_of_getElem? (i := 161) rfl)) rfl
theorem wm_0_162 : (Jvm.Cond.methodLink "CapWallets$TextReader" (3 : Nat) ({ cls := "java/lang/Object", name := "<init>", desc := "()V" } : Jvm.MethodName)) ∈ wT := w_tab (List.mem_append_left _ (List.mem_of_getElem? (i := 162) rfl)) rfl
theorem wm_0_163 : (Jvm.Cond.fieldLink "CapWallets$TextReader" (11 : Nat) "CapWallets$TextReader" "taps" "[I") ∈ wT := w_tab (List.mem_append_left _ (List.mem_of_getElem? (i := 163) rfl)) rfl
theorem wm_0_165 : (Jvm.Cond.fieldLink "CapWallets$TextReader" (15 : Nat) "CapWallets$TextReader" "tapCount" "I") ∈ wT := w_tab (List.mem_append_left _ (List.mem_of_getElem? (i := 165) rfl)) rfl
theorem wm_0_167 : (Jvm.Cond.fieldLink "CapWallets$TextReader" (19 : Nat) "CapWallets$TextReader" "stage" "I") ∈ wT := w_tab (List.mem_append_left _ (List.mem_of_getElem? (i := 167) rfl)) rfl
theorem wm_0_168 : (Jvm.Cond.fieldLink "CapWallets$TextReader" (22 : Nat) "CapWallets$TextReader" "number" "I") ∈ wT := w_tab (List.mem_append_left _ (List.mem_of_getElem? (i := 168) rfl)) rfl
theorem wm_0_169 : (Jvm.Cond.fieldLink "CapWallets$TextReader" (25 : Nat) "CapWallets$TextReader" "wallet" "I") ∈ wT := w_tab (List.mem_append_left _ (List.mem_of_getElem? (i := 169) rfl)) rfl
theorem wm_0_17 : (Jvm.Cond.initialized "java/lang/Double") ∈ wT := w_tab (List.mem_append_left _ (List.mem_of_getElem? (i := 17) rfl)) rfl
theorem wm_0_170 : (Jvm.Cond.fieldLink "CapWallets$TextReader" (28 : Nat) "CapWallets$TextReader" "day" "I") ∈ wT := w_tab (List.mem_append_left _ (List.mem_of_getElem? (i := 170) rfl)) rfl
theorem wm_0_171 : (Jvm.Cond.fieldLink "CapWallets$TextReader" (31 : Nat) "CapWallets$TextReader" "minute" "I") ∈ wT := w_tab (List.mem_append_left _ (List.mem_of_getElem? (i := 171) rfl)) rfl
theorem wm_0_172 : (Jvm.Cond.fieldLink "CapWallets$TextReader" (34 : Nat) "CapWallets$TextReader" "in" "Z") ∈ wT := w_tab (List.mem_append_left _ (List.mem_of_getElem? (i := 172) rfl)) rfl
theorem wm_0_173 : (Jvm.Cond.laysFinal "CapWallets$TextReader" "CapWallets$TextReader" "taps" "[I") ∈ wT := w_tab (List.mem_append_left _ (List.mem_of_getElem? (i := 173) rfl)) rfl
theorem wm_0_175 : (Jvm.Cond.lays "CapWallets$TextReader" "CapWallets$TextReader" "tapCount" "I") ∈ wT := w_tab (List.mem_append_left _ (List.mem_of_getElem? (i := 175) rfl)) rfl
theorem wm_0_177 : (Jvm.Cond.lays "CapWallets$TextReader" "CapWallets$TextReader" "stage" "I") ∈ wT := w_tab (List.mem_append_left _ (List.mem_of_getElem? (i := 177) rfl)) rfl
theorem wm_0_179 : (Jvm.Cond.lays "CapWallets$TextReader" "CapWallets$TextReader" "number" "I") ∈ wT := w_tab (List.mem_append_left _ (List.mem_of_getElem? (i := 179) rfl)) rfl
theorem wm_0_18 : (Jvm.Cond.classLink "CapWalletsLaw" (8 : Nat) "CapWallets") ∈ wT := w_tab (List.mem_append_left _ (List.mem_of_getElem? (i := 18) rfl)) rfl
theorem wm_0_181 : (Jvm.Cond.lays "CapWallets$TextReader" "CapWallets$TextReader" "wallet" "I") ∈ wT := w_tab (List.mem_append_left _ (List.mem_of_getElem? (i := 181) rfl)) rfl
theorem wm_0_183 : (Jvm.Cond.lays "CapWallets$TextReader" "CapWallets$TextReader" "day" "I") ∈ wT := w_tab (List.mem_append_left _ (List.mem_of_getElem? (i := 183) rfl)) rfl
theorem wm_0_185 : (Jvm.Cond.lays "CapWallets$TextReader" "CapWallets$TextReader" "minute" "I") ∈ wT := w_tab (List.mem_append_left _ (List.mem_of_getElem? (i := 185) rfl)) rfl
theorem wm_0_187 : (Jvm.Cond.lays "CapWallets$TextReader" "CapWallets$TextReader" "in" "Z") ∈ wT := w_tab (List.mem_append_left _ (List.mem_of_getElem? (i := 187) rfl)) rfl
theorem wm_0_19 : (Jvm.Cond.instantiable "CapWallets" (8 : Nat)) ∈ wT := w_tab (List.mem_append_left _ (List.mem_of_getElem? (i := 19) rfl)) rfl
theorem wm_0_190 : (Jvm.Cond.methodLink "CapWallets" (61 : Nat) ({ cls := "CapWallets$Rides", name := "readFrom", desc := "(LCapWallets$TapRow;[I)V" } : Jvm.MethodName)) ∈ wT := w_tab (List.mem_append_left _ (List.mem_of_getElem? (i := 190) rfl)) rfl
theorem wm_0_191 : (Jvm.Cond.instanceMethod ({ cls := "CapWallets$Rides", name := "readFrom", desc := "(LCapWallets$TapRow;[I)V" } : Jvm.MethodName)) ∈ wT := w_tab (List.mem_append_left _ (List.mem_of_getElem? (i := 191) rfl)) rfl
theorem wm_0_192 : (Jvm.Cond.selects "CapWallets$Rides" ({ cls := "CapWallets$Rides", name := "readFrom", desc := "(LCapWallets$TapRow;[I)V" } : Jvm.MethodName) ({ cls := "CapWallets$Rides", name := "readFrom", desc := "(LCapWallets$TapRow;[I)V" } : Jvm.MethodName)) ∈ wT := w_tab (List.mem_append_left _ (List.mem_of_getElem? (i := 192) rfl)) rfl
theorem wm_0_193 : (Jvm.Cond.code ({ cls := "CapWallets$Rides", name := "readFrom", desc := "(LCapWallets$TapRow;[I)V" } : Jvm.MethodName) prog_2_method_2_code (3 : Nat) (Option.none : Option Jvm.ClassFile.FieldType)) ∈ wT := w_tab (List.mem_append_left _ (List.mem_of_getElem? (i := 193) rfl)) rfl
theorem wm_0_194 : (Jvm.Cond.methodLink "CapWallets$Rides" (40 : Nat) ({ cls := "CapWallets$Rows", name := "at", desc := "([II)I" } : Jvm.MethodName)) ∈ wT := w_tab (List.mem_append_left _ (List.mem_of_getElem? (i := 194) rfl)) rfl
theorem wm_0_195 : (Jvm.Cond.static ({ cls := "CapWallets$Rows", name := "at", desc := "([II)I" } : Jvm.MethodName)) ∈ wT := w_tab (List.mem_append_left _ (List.mem_of_getElem? (i := 195) rfl)) rfl
theorem wm_0_196 : (Jvm.Cond.code ({ cls := "CapWallets$Rows", name := "at", desc := "([II)I" } : Jvm.MethodName) prog_3_method_2_code (2 : Nat) (Option.some Jvm.ClassFile.FieldType.int)) ∈ wT := w_tab (List.mem_append_left _ (List.mem_of_getElem? (i := 196) rfl)) rfl
theorem wm_0_197 : (Jvm.Cond.methodLink "CapWallets$Rides" (46 : Nat) ({ cls := "CapWallets$Rides", name := "findMates", desc := "(LCapWallets$TapRow;I)V" } : Jvm.MethodName)) ∈ wT := w_tab (List.mem_append_left _ (List.mem_of_getElem? (i := 197) rfl)) rfl
theorem wm_0_199 : (Jvm.Cond.instanceMethod ({ cls := "CapWallets$Rides", name := "findMates", desc := "(LCapWallets$TapRow;I)V" } : Jvm.MethodName)) ∈ wT := w_tab (List.mem_append_left _ (List.mem_of_getElem? (i := 199) rfl)) rfl
theorem wm_0_2 : (Jvm.Cond.initialized "CapWallets$State") ∈ wT := w_tab (List.mem_append_left _ (List.mem_of_getElem? (i := 2) rfl)) rfl
theorem wm_0_20 : (Jvm.Cond.methodLink "CapWalletsLaw" (65 : Nat) ({ cls := "CapWallets", name := "<init>", desc := "()V" } : Jvm.MethodName)) ∈ wT := w_tab (List.mem_append_left _ (List.mem_of_getElem? (i := 20) rfl)) rfl
theorem wm_0_200 : (Jvm.Cond.code ({ cls := "CapWallets$Rides", name := "findMates", desc := "(LCapWallets$TapRow;I)V" } : Jvm.MethodName) prog_2_method_3_code (6 : Nat) (Option.none : Option Jvm.ClassFile.FieldType)) ∈ wT := w_tab (List.mem_append_left _ (List.mem_of_getElem? (i := 200) rfl)) rfl
theorem wm_0_201 : (Jvm.Cond.methodLink "CapWallets$Rides" (58 : Nat) ({ cls := "CapWallets$Rows", name := "fill", desc := "([II)V" } : Jvm.MethodName)) ∈ wT := w_tab (List.mem_append_left _ (List.mem_of_getElem? (i := 201) rfl)) rfl
theorem wm_0_202 : (Jvm.Cond.methodLink "CapWallets$Rides" (67 : Nat) ({ cls := "CapWallets$TapRow", name := "tapAt", desc := "(I)I" } : Jvm.MethodName)) ∈ wT := w_tab (List.mem_append_left _ (List.mem_of_getElem? (i := 202) rfl)) rfl
theorem wm_0_203 : (Jvm.Cond.instanceMethod ({ cls := "CapWallets$TapRow", name := "tapAt", desc := "(I)I" } : Jvm.MethodName)) ∈ wT := w_tab (List.mem_append_left _ (List.mem_of_getElem? (i := 203) rfl)) rfl
theorem wm_0_204 : (Jvm.Cond.selects "CapWallets$TapRow" ({ cls := "CapWallets$TapRow", name := "tapAt", desc := "(I)I" } : Jvm.MethodName) ({ cls := "CapWallets$TapRow", name := "tapAt", desc := "(I)I" } : Jvm.MethodName)) ∈ wT := w_tab (List.mem_append_left _ (List.mem_of_getElem? (i := 204) rfl)) rfl
theorem wm_0_205 : (Jvm.Cond.code ({ cls := "CapWallets$TapRow", name := "tapAt", desc := "(I)I" } : Jvm.MethodName) prog_7_method_2_code (2 : Nat) (Option.some Jvm.ClassFile.FieldType.int)) ∈ wT := w_tab (List.mem_append_left _ (List.mem_of_getElem? (i := 205) rfl)) rfl
theorem wm_0_206 : (Jvm.Cond.methodLink "CapWallets$TapRow" (19 : Nat) ({ cls := "CapWallets$Rows", name := "at", desc := "([II)I" } : Jvm.MethodName)) ∈ wT := w_tab (List.mem_append_left _ (List.mem_of_getElem? (i := 206) rfl)) rfl
theorem wm_0_207 : (Jvm.Cond.methodLink "CapWallets$Rides" (71 : Nat) ({ cls := "CapWallets$Tap", name := "walletOf", desc := "(I)I" } : Jvm.MethodName)) ∈ wT := w_tab (List.mem_append_left _ (List.mem_of_getElem? (i := 207) rfl)) rfl
theorem wm_0_208 : (Jvm.Cond.static ({ cls := "CapWallets$Tap", name := "walletOf", desc := "(I)I" } : Jvm.MethodName)) ∈ wT := w_tab (List.mem_append_left _ (List.mem_of_getElem? (i := 208) rfl)) rfl
theorem wm_0_209 : (Jvm.Cond.code ({ cls := "CapWallets$Tap", name := "walletOf", desc := "(I)I" } : Jvm.MethodName) prog_6_method_8_code (1 : Nat) (Option.some Jvm.ClassFile.FieldType.int)) ∈ wT := w_tab (List.mem_append_left _ (List.mem_of_getElem? (i := 209) rfl)) rfl
theorem wm_0_21 : (Jvm.Cond.instanceMethod ({ cls := "CapWallets", name := "<init>", desc := "()V" } : Jvm.MethodName)) ∈ wT := w_tab (List.mem_append_left _ (List.mem_of_getElem? (i := 21) rfl)) rfl
theorem wm_0_210 : (Jvm.Cond.methodLink "CapWallets$Rides" (76 : Nat) ({ cls := "CapWallets$Rides", name := "isRide", desc := "(III)Z" } : Jvm.MethodName)) ∈ wT := w_tab (List.mem_append_left _ (List.mem_of_getElem? (i := 210) rfl)) rfl
theorem wm_0_211 : (Jvm.Cond.static ({ cls := "CapWallets$Rides", name := "isRide", desc := "(III)Z" } : Jvm.MethodName)) ∈ wT := w_tab (List.mem_append_left _ (List.mem_of_getElem? (i := 211) rfl)) rfl
theorem wm_0_212 : (Jvm.Cond.code ({ cls := "CapWallets$Rides", name := "isRide", desc := "(III)Z" } : Jvm.MethodName) prog_2_method_4_code (3 : Nat) (Option.some Jvm.ClassFile.FieldType.boolean)) ∈ wT := w_tab (List.mem_append_left _ (List.mem_of_getElem? (i := 212) rfl)) rfl
theorem wm_0_213 : (Jvm.Cond.methodLink "CapWallets$Rides" (84 : Nat) ({ cls := "CapWallets$Tap", name := "isIn", desc := "(I)Z" } : Jvm.MethodName)) ∈ wT := w_tab (List.mem_append_left _ (List.mem_of_getElem? (i := 213) rfl)) rfl
theorem wm_0_214 : (Jvm.Cond.static ({ cls := "CapWallets$Tap", name := "isIn", desc := "(I)Z" } : Jvm.MethodName)) ∈ wT := w_tab (List.mem_append_left _ (List.mem_of_getElem? (i := 214) rfl)) rfl
theorem wm_0_215 : (Jvm.Cond.code ({ cls := "CapWallets$Tap", name := "isIn", desc := "(I)Z" } : Jvm.MethodName) prog_6_method_11_code (1 : Nat) (Option.some Jvm.ClassFile.FieldType.boolean)) ∈ wT := w_tab (List.mem_append_left _ (List.mem_of_getElem? (i := 215) rfl)) rfl
theorem wm_0_216 : (Jvm.Cond.methodLink "CapWallets$Rides" (88 : Nat) ({ cls := "CapWallets$Tap", name := "dayOf", desc := "(I)I" } : Jvm.MethodName)) ∈ wT := w_tab (List.mem_append_left _ (List.mem_of_getElem? (i := 216) rfl)) rfl
theorem wm_0_217 : (Jvm.Cond.static ({ cls := "CapWallets$Tap", name := "dayOf", desc := "(I)I" } : Jvm.MethodName)) ∈ wT := w_tab (List.mem_append_left _ (List.mem_of_getElem? (i := 217) rfl)) rfl
theorem wm_0_218 : (Jvm.Cond.code ({ cls := "CapWallets$Tap", name := "dayOf", desc := "(I)I" } : Jvm.MethodName) prog_6_method_5_code (1 : Nat) (Option.some Jvm.ClassFile.FieldType.int)) ∈ wT := w_tab (List.mem_append_left _ (List.mem_of_getElem? (i := 218) rfl)) rfl
theorem wm_0_219 : (Jvm.Cond.methodLink "CapWallets$Rides" (91 : Nat) ({ cls := "CapWallets$Tap", name := "minuteOf", desc := "(I)I" } : Jvm.MethodName)) ∈ wT := w_tab (List.mem_append_left _ (List.mem_of_getElem? (i := 219) rfl)) rfl
theorem wm_0_22 : (Jvm.Cond.code ({ cls := "CapWallets", name := "<init>", desc := "()V" } : Jvm.MethodName) prog_1_method_1_code (1 : Nat) (Option.none : Option Jvm.ClassFile.FieldType)) ∈ wT := w_tab (List.mem_append_left _ (List.mem_of_getElem? (i := 22) rfl)) rfl
theorem wm_0_220 : (Jvm.Cond.static ({ cls := "CapWallets$Tap", name := "minuteOf", desc := "(I)I" } : Jvm.MethodName)) ∈ wT := w_tab (List.mem_append_left _ (List.mem_of_getElem? (i := 220) rfl)) rfl
theorem wm_0_221 : (Jvm.Cond.code ({ cls := "CapWallets$Tap", name := "minuteOf", desc := "(I)I" } : Jvm.MethodName) prog_6_method_7_code (1 : Nat) (Option.some Jvm.ClassFile.FieldType.int)) ∈ wT := w_tab (List.mem_append_left _ (List.mem_of_getElem? (i := 221) rfl)) rfl
theorem wm_0_222 : (Jvm.Cond.methodLink "CapWallets$Rides" (80 : Nat) ({ cls := "CapWallets$Rows", name := "put", desc := "([III)V" } : Jvm.MethodName)) ∈ wT := w_tab (List.mem_append_left _ (List.mem_of_getElem? (i := 222) rfl)) rfl
theorem wm_0_223 : (Jvm.Cond.static ({ cls := "CapWallets$Rows", name := "put", desc := "([III)V" } : Jvm.MethodName)) ∈ wT := w_tab (List.mem_append_left _ (List.mem_of_getElem? (i := 223) rfl)) rfl
theorem wm_0_224 : (Jvm.Cond.code ({ cls := "CapWallets$Rows", name := "put", desc := "([III)V" } : Jvm.MethodName) prog_3_method_3_code (3 : Nat) (Option.none : Option Jvm.ClassFile.FieldType)) ∈ wT := w_tab (List.mem_append_left _ (List.mem_of_getElem? (i := 224) rfl)) rfl
theorem wm_0_225 : (Jvm.Cond.methodLink "CapWallets$Rides" (50 : Nat) ({ cls := "CapWallets$Rides", name := "findFares", desc := "(LCapWallets$TapRow;[I)V" } : Jvm.MethodName)) ∈ wT := w_tab (List.mem_append_left _ (List.mem_of_getElem? (i := 225) rfl)) rfl
theorem wm_0_227 : (Jvm.Cond.instanceMethod ({ cls := "CapWallets$Rides", name := "findFares", desc := "(LCapWallets$TapRow;[I)V" } : Jvm.MethodName)) ∈ wT := w_tab (List.mem_append_left _ (List.mem_of_getElem? (i := 227) rfl)) rfl
theorem wm_0_228 : (Jvm.Cond.code ({ cls := "CapWallets$Rides", name := "findFares", desc := "(LCapWallets$TapRow;[I)V" } : Jvm.MethodName) prog_2_method_5_code (7 : Nat) (Option.none : Option Jvm.ClassFile.FieldType)) ∈ wT := w_tab (List.mem_append_left _ (List.mem_of_getElem? (i := 228) rfl)) rfl
theorem wm_0_229 : (Jvm.Cond.methodLink "CapWallets$Rides" (94 : Nat) ({ cls := "CapWallets$Tap", name := "zoneOf", desc := "(I)I" } : Jvm.MethodName)) ∈ wT := w_tab (List.mem_append_left _ (List.mem_of_getElem? (i := 229) rfl)) rfl
theorem wm_0_23 : (Jvm.Cond.methodLink "CapWallets" (1 : Nat) ({ cls := "java/lang/Object", name := "<init>", desc := "()V" } : Jvm.MethodName)) ∈ wT := w_tab (List.mem_append_left _ (List.mem_of_getElem? (i := 23) rfl)) rfl
theorem wm_0_230 : (Jvm.Cond.static ({ cls := "CapWallets$Tap", name := "zoneOf", desc := "(I)I" } : Jvm.MethodName)) ∈ wT := w_tab (List.mem_append_left _ (List.mem_of_getElem? (i := 230) rfl)) rfl
theorem wm_0_231 : (Jvm.Cond.code ({ cls := "CapWallets$Tap", name := "zoneOf", desc := "(I)I" } : Jvm.MethodName) prog_6_method_10_code (1 : Nat) (Option.some Jvm.ClassFile.FieldType.int)) ∈ wT := w_tab (List.mem_append_left _ (List.mem_of_getElem? (i := 231) rfl)) rfl
theorem wm_0_232 : (Jvm.Cond.methodLink "CapWallets$Tap" (26 : Nat) ({ cls := "CapWallets$Tap", name := "stationOf", desc := "(I)I" } : Jvm.MethodName)) ∈ wT := w_tab (List.mem_append_left _ (List.mem_of_getElem? (i := 232) rfl)) rfl
theorem wm_0_233 : (Jvm.Cond.static ({ cls := "CapWallets$Tap", name := "stationOf", desc := "(I)I" } : Jvm.MethodName)) ∈ wT := w_tab (List.mem_append_left _ (List.mem_of_getElem? (i := 233) rfl)) rfl
theorem wm_0_234 : (Jvm.Cond.code ({ cls := "CapWallets$Tap", name := "stationOf", desc := "(I)I" } : Jvm.MethodName) prog_6_method_9_code (1 : Nat) (Option.some Jvm.ClassFile.FieldType.int)) ∈ wT := w_tab (List.mem_append_left _ (List.mem_of_getElem? (i := 234) rfl)) rfl
theorem wm_0_235 : (Jvm.Cond.methodLink "CapWallets$Rides" (97 : Nat) ({ cls := "java/lang/Math", name := "abs", desc := "(I)I" } : Jvm.MethodName)) ∈ wT := w_tab (List.mem_append_left _ (List.mem_of_getElem? (i := 235) rfl)) rfl
theorem wm_0_236 : (Jvm.Cond.static ({ cls := "java/lang/Math", name := "abs", desc := "(I)I" } : Jvm.MethodName)) ∈ wT := w_tab (List.mem_append_left _ (List.mem_of_getElem? (i := 236) rfl)) rfl
theorem wm_0_237 : (Jvm.Cond.code ({ cls := "java/lang/Math", name := "abs", desc := "(I)I" } : Jvm.MethodName) prog_16_method_59_code (1 : Nat) (Option.some Jvm.ClassFile.FieldType.int)) ∈ wT := w_tab (List.mem_append_left _ (List.mem_of_getElem? (i := 237) rfl)) rfl
theorem wm_0_238 : (Jvm.Cond.methodLink "CapWallets$Rides" (54 : Nat) ({ cls := "CapWallets$Rides", name := "addUp", desc := "(LCapWallets$TapRow;)V" } : Jvm.MethodName)) ∈ wT := w_tab (List.mem_append_left _ (List.mem_of_getElem? (i := 238) rfl)) rfl
theorem wm_0_26 : (Jvm.Cond.classLink "CapWallets" (7 : Nat) "CapWallets$State") ∈ wT := w_tab (List.mem_append_left _ (List.mem_of_getElem? (i := 26) rfl)) rfl
theorem wm_0_27 : (Jvm.Cond.instantiable "CapWallets$State" (10 : Nat)) ∈ wT := w_tab (List.mem_append_left _ (List.mem_of_getElem? (i := 27) rfl)) rfl
theorem wm_0_28 : (Jvm.Cond.methodLink "CapWallets" (9 : Nat) ({ cls := "CapWallets$State", name := "<init>", desc := "()V" } : Jvm.MethodName)) ∈ wT := w_tab (List.mem_append_left _ (List.mem_of_getElem? (i := 28) rfl)) rfl
theorem wm_0_29 : (Jvm.Cond.instanceMethod ({ cls := "CapWallets$State", name := "<init>", desc := "()V" } : Jvm.MethodName)) ∈ wT := w_tab (List.mem_append_left _ (List.mem_of_getElem? (i := 29) rfl)) rfl
theorem wm_0_3 : (Jvm.Cond.initialized "CapWallets$TapRow") ∈ wT := w_tab (List.mem_append_left _ (List.mem_of_getElem? (i := 3) rfl)) rfl
theorem wm_0_30 : (Jvm.Cond.code ({ cls := "CapWallets$State", name := "<init>", desc := "()V" } : Jvm.MethodName) prog_5_method_1_code (1 : Nat) (Option.none : Option Jvm.ClassFile.FieldType)) ∈ wT := w_tab (List.mem_append_left _ (List.mem_of_getElem? (i := 30) rfl)) rfl
theorem wm_0_31 : (Jvm.Cond.methodLink "CapWallets$State" (3 : Nat) ({ cls := "java/lang/Object", name := "<init>", desc := "()V" } : Jvm.MethodName)) ∈ wT := w_tab (List.mem_append_left _ (List.mem_of_getElem? (i := 31) rfl)) rfl
theorem wm_0_32 : (Jvm.Cond.classLink "CapWallets$State" (9 : Nat) "CapWallets$TapRow") ∈ wT := w_tab (List.mem_append_left _ (List.mem_of_getElem? (i := 32) rfl)) rfl
theorem wm_0_33 : (Jvm.Cond.instantiable "CapWallets$TapRow" (2 : Nat)) ∈ wT := w_tab (List.mem_append_left _ (List.mem_of_getElem? (i := 33) rfl)) rfl
theorem wm_0_34 : (Jvm.Cond.methodLink "CapWallets$State" (11 : Nat) ({ cls := "CapWallets$TapRow", name := "<init>", desc := "()V" } : Jvm.MethodName)) ∈ wT := w_tab (List.mem_append_left _ (List.mem_of_getElem? (i := 34) rfl)) rfl
theorem wm_0_35 : (Jvm.Cond.instanceMethod ({ cls := "CapWallets$TapRow", name := "<init>", desc := "()V" } : Jvm.MethodName)) ∈ wT := w_tab (List.mem_append_left _ (List.mem_of_getElem? (i := 35) rfl)) rfl
theorem wm_0_36 : (Jvm.Cond.code ({ cls := "CapWallets$TapRow", name := "<init>", desc := "()V" } : Jvm.MethodName) prog_7_method_1_code (1 : Nat) (Option.none : Option Jvm.ClassFile.FieldType)) ∈ wT := w_tab (List.mem_append_left _ (List.mem_of_getElem? (i := 36) rfl)) rfl
theorem wm_0_37 : (Jvm.Cond.methodLink "CapWallets$TapRow" (3 : Nat) ({ cls := "java/lang/Object", name := "<init>", desc := "()V" } : Jvm.MethodName)) ∈ wT := w_tab (List.mem_append_left _ (List.mem_of_getElem? (i := 37) rfl)) rfl
theorem wm_0_38 : (Jvm.Cond.fieldLink "CapWallets$TapRow" (9 : Nat) "CapWallets$TapRow" "taps" "[I") ∈ wT := w_tab (List.mem_append_left _ (List.mem_of_getElem? (i := 38) rfl)) rfl
theorem wm_0_39 : (Jvm.Cond.fieldLink "CapWallets$TapRow" (15 : Nat) "CapWallets$TapRow" "size" "I") ∈ wT := w_tab (List.mem_append_left _ (List.mem_of_getElem? (i := 39) rfl)) rfl
theorem wm_0_4 : (Jvm.Cond.initialized "CapWallets$Rows") ∈ wT := w_tab (List.mem_append_left _ (List.mem_of_getElem? (i := 4) rfl)) rfl
theorem wm_0_42 : (Jvm.Cond.laysFinal "CapWallets$TapRow" "CapWallets$TapRow" "taps" "[I") ∈ wT := w_tab (List.mem_append_left _ (List.mem_of_getElem? (i := 42) rfl)) rfl
theorem wm_0_44 : (Jvm.Cond.lays "CapWallets$TapRow" "CapWallets$TapRow" "size" "I") ∈ wT := w_tab (List.mem_append_left _ (List.mem_of_getElem? (i := 44) rfl)) rfl
theorem wm_0_47 : (Jvm.Cond.arrayClass Jvm.ClassFile.FieldType.int) ∈ wT := w_tab (List.mem_append_left _ (List.mem_of_getElem? (i := 47) rfl)) rfl
theorem wm_0_5 : (Jvm.Cond.initialized "CapWallets$Rides") ∈ wT := w_tab (List.mem_append_left _ (List.mem_of_getElem? (i := 5) rfl)) rfl
theorem wm_0_50 : (Jvm.Cond.methodLink "CapWallets$State" (50 : Nat) ({ cls := "CapWallets$Rows", name := "copy", desc := "([I[I)V" } : Jvm.MethodName)) ∈ wT := w_tab (List.mem_append_left _ (List.mem_of_getElem? (i := 50) rfl)) rfl
theorem wm_0_51 : (Jvm.Cond.static ({ cls := "CapWallets$Rows", name := "copy", desc := "([I[I)V" } : Jvm.MethodName)) ∈ wT := w_tab (List.mem_append_left _ (List.mem_of_getElem? (i := 51) rfl)) rfl
theorem wm_0_52 : (Jvm.Cond.code ({ cls := "CapWallets$Rows", name := "copy", desc := "([I[I)V" } : Jvm.MethodName) prog_3_method_6_code (3 : Nat) (Option.none : Option Jvm.ClassFile.FieldType)) ∈ wT := w_tab (List.mem_append_left _ (List.mem_of_getElem? (i := 52) rfl)) rfl
theorem wm_0_53 : (Jvm.Cond.methodLink "CapWallets$State" (56 : Nat) ({ cls := "CapWallets$Rows", name := "fill", desc := "([II)V" } : Jvm.MethodName)) ∈ wT := w_tab (List.mem_append_left _ (List.mem_of_getElem? (i := 53) rfl)) rfl
theorem wm_0_54 : (Jvm.Cond.static ({ cls := "CapWallets$Rows", name := "fill", desc := "([II)V" } : Jvm.MethodName)) ∈ wT := w_tab (List.mem_append_left _ (List.mem_of_getElem? (i := 54) rfl)) rfl
theorem wm_0_55 : (Jvm.Cond.code ({ cls := "CapWallets$Rows", name := "fill", desc := "([II)V" } : Jvm.MethodName) prog_3_method_5_code (3 : Nat) (Option.none : Option Jvm.ClassFile.FieldType)) ∈ wT := w_tab (List.mem_append_left _ (List.mem_of_getElem? (i := 55) rfl)) rfl
theorem wm_0_56 : (Jvm.Cond.fieldLink "CapWallets$State" (12 : Nat) "CapWallets$State" "taps" "LCapWallets$TapRow;") ∈ wT := w_tab (List.mem_append_left _ (List.mem_of_getElem? (i := 56) rfl)) rfl
theorem wm_0_58 : (Jvm.Cond.fieldLink "CapWallets$State" (18 : Nat) "CapWallets$State" "settings" "[I") ∈ wT := w_tab (List.mem_append_left _ (List.mem_of_getElem? (i := 58) rfl)) rfl
theorem wm_0_6 : (Jvm.Cond.initialized "CapWallets$Saves") ∈ wT := w_tab (List.mem_append_left _ (List.mem_of_getElem? (i := 6) rfl)) rfl
theorem wm_0_60 : (Jvm.Cond.fieldLink "CapWallets$State" (22 : Nat) "CapWallets$State" "charged" "[I") ∈ wT := w_tab (List.mem_append_left _ (List.mem_of_getElem? (i := 60) rfl)) rfl
theorem wm_0_62 : (Jvm.Cond.fieldLink "CapWallets$State" (25 : Nat) "CapWallets$State" "claims" "[I") ∈ wT := w_tab (List.mem_append_left _ (List.mem_of_getElem? (i := 62) rfl)) rfl
theorem wm_0_64 : (Jvm.Cond.fieldLink "CapWallets$State" (28 : Nat) "CapWallets$State" "settlings" "[I") ∈ wT := w_tab (List.mem_append_left _ (List.mem_of_getElem? (i := 64) rfl)) rfl
theorem wm_0_66 : (Jvm.Cond.fieldLink "CapWallets$State" (31 : Nat) "CapWallets$State" "ledgerWeeks" "[I") ∈ wT := w_tab (List.mem_append_left _ (List.mem_of_getElem? (i := 66) rfl)) rfl
theorem wm_0_67 : (Jvm.Cond.fieldLink "CapWallets$State" (34 : Nat) "CapWallets$State" "ledgerSums" "[I") ∈ wT := w_tab (List.mem_append_left _ (List.mem_of_getElem? (i := 67) rfl)) rfl
theorem wm_0_68 : (Jvm.Cond.fieldLink "CapWallets$State" (37 : Nat) "CapWallets$State" "refunds" "I") ∈ wT := w_tab (List.mem_append_left _ (List.mem_of_getElem? (i := 68) rfl)) rfl
theorem wm_0_7 : (Jvm.Cond.initialized "CapWallets$TextReader") ∈ wT := w_tab (List.mem_append_left _ (List.mem_of_getElem? (i := 7) rfl)) rfl
theorem wm_0_70 : (Jvm.Cond.fieldLink "CapWallets$State" (41 : Nat) "CapWallets$State" "refunded" "I") ∈ wT := w_tab (List.mem_append_left _ (List.mem_of_getElem? (i := 70) rfl)) rfl
theorem wm_0_72 : (Jvm.Cond.fieldLink "CapWallets$State" (44 : Nat) "CapWallets$State" "refusals" "I") ∈ wT := w_tab (List.mem_append_left _ (List.mem_of_getElem? (i := 72) rfl)) rfl
theorem wm_0_74 : (Jvm.Cond.laysFinal "CapWallets$State" "CapWallets$State" "taps" "LCapWallets$TapRow;") ∈ wT := w_tab (List.mem_append_left _ (List.mem_of_getElem? (i := 74) rfl)) rfl
theorem wm_0_76 : (Jvm.Cond.laysFinal "CapWallets$State" "CapWallets$State" "settings" "[I") ∈ wT := w_tab (List.mem_append_left _ (List.mem_of_getElem? (i := 76) rfl)) rfl
theorem wm_0_78 : (Jvm.Cond.laysFinal "CapWallets$State" "CapWallets$State" "charged" "[I") ∈ wT := w_tab (List.mem_append_left _ (List.mem_of_getElem? (i := 78) rfl)) rfl
theorem wm_0_8 : (Jvm.Cond.initialized "CapWallets$Tap") ∈ wT := w_tab (List.mem_append_left _ (List.mem_of_getElem? (i := 8) rfl)) rfl
theorem wm_0_80 : (Jvm.Cond.laysFinal "CapWallets$State" "CapWallets$State" "claims" "[I") ∈ wT := w_tab (List.mem_append_left _ (List.mem_of_getElem? (i := 80) rfl)) rfl
theorem wm_0_82 : (Jvm.Cond.laysFinal "CapWallets$State" "CapWallets$State" "settlings" "[I") ∈ wT := w_tab (List.mem_append_left _ (List.mem_of_getElem? (i := 82) rfl)) rfl
theorem wm_0_84 : (Jvm.Cond.laysFinal "CapWallets$State" "CapWallets$State" "ledgerWeeks" "[I") ∈ wT := w_tab (List.mem_append_left _ (List.mem_of_getElem? (i := 84) rfl)) rfl
theorem wm_0_86 : (Jvm.Cond.laysFinal "CapWallets$State" "CapWallets$State" "ledgerSums" "[I") ∈ wT := w_tab (List.mem_append_left _ (List.mem_of_getElem? (i := 86) rfl)) rfl
theorem wm_0_88 : (Jvm.Cond.lays "CapWallets$State" "CapWallets$State" "refunds" "I") ∈ wT := w_tab (List.mem_append_left _ (List.mem_of_getElem? (i := 88) rfl)) rfl
theorem wm_0_9 : (Jvm.Cond.initialized "java/lang/Math") ∈ wT := w_tab (List.mem_append_left _ (List.mem_of_getElem? (i := 9) rfl)) rfl
theorem wm_0_90 : (Jvm.Cond.lays "CapWallets$State" "CapWallets$State" "refunded" "I") ∈ wT := w_tab (List.mem_append_left _ (List.mem_of_getElem? (i := 90) rfl)) rfl
theorem wm_0_92 : (Jvm.Cond.lays "CapWallets$State" "CapWallets$State" "refusals" "I") ∈ wT := w_tab (List.mem_append_left _ (List.mem_of_getElem? (i := 92) rfl)) rfl
theorem wm_0_95 : (Jvm.Cond.classLink "CapWallets" (16 : Nat) "CapWallets$Rides") ∈ wT := w_tab (List.mem_append_left _ (List.mem_of_getElem? (i := 95) rfl)) rfl
theorem wm_0_96 : (Jvm.Cond.instantiable "CapWallets$Rides" (9 : Nat)) ∈ wT := w_tab (List.mem_append_left _ (List.mem_of_getElem? (i := 96) rfl)) rfl
theorem wm_0_97 : (Jvm.Cond.methodLink "CapWallets" (18 : Nat) ({ cls := "CapWallets$Rides", name := "<init>", desc := "()V" } : Jvm.MethodName)) ∈ wT := w_tab (List.mem_append_left _ (List.mem_of_getElem? (i := 97) rfl)) rfl
theorem wm_0_98 : (Jvm.Cond.instanceMethod ({ cls := "CapWallets$Rides", name := "<init>", desc := "()V" } : Jvm.MethodName)) ∈ wT := w_tab (List.mem_append_left _ (List.mem_of_getElem? (i := 98) rfl)) rfl
theorem wm_0_99 : (Jvm.Cond.code ({ cls := "CapWallets$Rides", name := "<init>", desc := "()V" } : Jvm.MethodName) prog_2_method_1_code (1 : Nat) (Option.none : Option Jvm.ClassFile.FieldType)) ∈ wT := w_tab (List.mem_append_left _ (List.mem_of_getElem? (i := 99) rfl)) rfl
theorem wm_1_0 : (Jvm.Cond.instanceMethod ({ cls := "CapWallets$Rides", name := "addUp", desc := "(LCapWallets$TapRow;)V" } : Jvm.MethodName)) ∈ wT := w_tab (List.mem_append_right _ (List.mem_append_left _ (List.mem_of_getElem? (i := 0) rfl))) rfl
theorem wm_1_1 : (Jvm.Cond.code ({ cls := "CapWallets$Rides", name := "addUp", desc := "(LCapWallets$TapRow;)V" } : Jvm.MethodName) prog_2_method_6_code (6 : Nat) (Option.none : Option Jvm.ClassFile.FieldType)) ∈ wT := w_tab (List.mem_append_right _ (List.mem_append_left _ (List.mem_of_getElem? (i := 1) rfl))) rfl
theorem wm_1_10 : (Jvm.Cond.methodLink "CapWallets$Rides" (109 : Nat) ({ cls := "CapWallets$Tap", name := "stationOf", desc := "(I)I" } : Jvm.MethodName)) ∈ wT := w_tab (List.mem_append_right _ (List.mem_append_left _ (List.mem_of_getElem? (i := 10) rfl))) rfl
theorem wm_1_100 : (Jvm.Cond.methodLink "CapWallets" (212 : Nat) ({ cls := "java/lang/Math", name := "max", desc := "(II)I" } : Jvm.MethodName)) ∈ wT := w_tab (List.mem_append_right _ (List.mem_append_left _ (List.mem_of_getElem? (i := 100) rfl))) rfl
theorem wm_1_101 : (Jvm.Cond.static ({ cls := "java/lang/Math", name := "max", desc := "(II)I" } : Jvm.MethodName)) ∈ wT := w_tab (List.mem_append_right _ (List.mem_append_left _ (List.mem_of_getElem? (i := 101) rfl))) rfl
theorem wm_1_102 : (Jvm.Cond.code ({ cls := "java/lang/Math", name := "max", desc := "(II)I" } : Jvm.MethodName) prog_16_method_65_code (2 : Nat) (Option.some Jvm.ClassFile.FieldType.int)) ∈ wT := w_tab (List.mem_append_right _ (List.mem_append_left _ (List.mem_of_getElem? (i := 102) rfl))) rfl
theorem wm_1_103 : (Jvm.Cond.methodLink "CapWalletsLaw" (140 : Nat) ({ cls := "CapWallets", name := "capShare", desc := "()D" } : Jvm.MethodName)) ∈ wT := w_tab (List.mem_append_right _ (List.mem_append_left _ (List.mem_of_getElem? (i := 103) rfl))) rfl
theorem wm_1_104 : (Jvm.Cond.instanceMethod ({ cls := "CapWallets", name := "capShare", desc := "()D" } : Jvm.MethodName)) ∈ wT := w_tab (List.mem_append_right _ (List.mem_append_left _ (List.mem_of_getElem? (i := 104) rfl))) rfl
theorem wm_1_105 : (Jvm.Cond.selects "CapWallets" ({ cls := "CapWallets", name := "capShare", desc := "()D" } : Jvm.MethodName) ({ cls := "CapWallets", name := "capShare", desc := "()D" } : Jvm.MethodName)) ∈ wT := w_tab (List.mem_append_right _ (List.mem_append_left _ (List.mem_of_getElem? (i := 105) rfl))) rfl
theorem wm_1_106 : (Jvm.Cond.code ({ cls := "CapWallets", name := "capShare", desc := "()D" } : Jvm.MethodName) prog_1_method_21_code (2 : Nat) (Option.some Jvm.ClassFile.FieldType.double)) ∈ wT := w_tab (List.mem_append_right _ (List.mem_append_left _ (List.mem_of_getElem? (i := 106) rfl))) rfl
theorem wm_1_107 : (Jvm.Cond.methodLink "CapWallets" (220 : Nat) ({ cls := "CapWallets$Rows", name := "sum", desc := "([I)I" } : Jvm.MethodName)) ∈ wT := w_tab (List.mem_append_right _ (List.mem_append_left _ (List.mem_of_getElem? (i := 107) rfl))) rfl
theorem wm_1_108 : (Jvm.Cond.static ({ cls := "CapWallets$Rows", name := "sum", desc := "([I)I" } : Jvm.MethodName)) ∈ wT := w_tab (List.mem_append_right _ (List.mem_append_left _ (List.mem_of_getElem? (i := 108) rfl))) rfl
theorem wm_1_109 : (Jvm.Cond.code ({ cls := "CapWallets$Rows", name := "sum", desc := "([I)I" } : Jvm.MethodName) prog_3_method_7_code (6 : Nat) (Option.some Jvm.ClassFile.FieldType.int)) ∈ wT := w_tab (List.mem_append_right _ (List.mem_append_left _ (List.mem_of_getElem? (i := 109) rfl))) rfl
theorem wm_1_11 : (Jvm.Cond.fieldLink "CapWallets" (10 : Nat) "CapWallets" "state" "LCapWallets$State;") ∈ wT := w_tab (List.mem_append_right _ (List.mem_append_left _ (List.mem_of_getElem? (i := 11) rfl))) rfl
theorem wm_1_110 : (Jvm.Cond.methodLink "CapWallets" (224 : Nat) ({ cls := "CapWallets", name := "costOfAll", desc := "()I" } : Jvm.MethodName)) ∈ wT := w_tab (List.mem_append_right _ (List.mem_append_left _ (List.mem_of_getElem? (i := 110) rfl))) rfl
theorem wm_1_112 : (Jvm.Cond.instanceMethod ({ cls := "CapWallets", name := "costOfAll", desc := "()I" } : Jvm.MethodName)) ∈ wT := w_tab (List.mem_append_right _ (List.mem_append_left _ (List.mem_of_getElem? (i := 112) rfl))) rfl
theorem wm_1_113 : (Jvm.Cond.code ({ cls := "CapWallets", name := "costOfAll", desc := "()I" } : Jvm.MethodName) prog_1_method_39_code (4 : Nat) (Option.some Jvm.ClassFile.FieldType.int)) ∈ wT := w_tab (List.mem_append_right _ (List.mem_append_left _ (List.mem_of_getElem? (i := 113) rfl))) rfl
theorem wm_1_114 : (Jvm.Cond.methodLink "CapWalletsLaw" (145 : Nat) ({ cls := "CapWallets", name := "digest", desc := "()J" } : Jvm.MethodName)) ∈ wT := w_tab (List.mem_append_right _ (List.mem_append_left _ (List.mem_of_getElem? (i := 114) rfl))) rfl
theorem wm_1_115 : (Jvm.Cond.instanceMethod ({ cls := "CapWallets", name := "digest", desc := "()J" } : Jvm.MethodName)) ∈ wT := w_tab (List.mem_append_right _ (List.mem_append_left _ (List.mem_of_getElem? (i := 115) rfl))) rfl
theorem wm_1_116 : (Jvm.Cond.selects "CapWallets" ({ cls := "CapWallets", name := "digest", desc := "()J" } : Jvm.MethodName) ({ cls := "CapWallets", name := "digest", desc := "()J" } : Jvm.MethodName)) ∈ wT := w_tab (List.mem_append_right _ (List.mem_append_left _ (List.mem_of_getElem? (i := 116) rfl))) rfl
theorem wm_1_117 : (Jvm.Cond.code ({ cls := "CapWallets", name := "digest", desc := "()J" } : Jvm.MethodName) prog_1_method_22_code (5 : Nat) (Option.some Jvm.ClassFile.FieldType.long)) ∈ wT := w_tab (List.mem_append_right _ (List.mem_append_left _ (List.mem_of_getElem? (i := 117) rfl))) rfl
theorem wm_1_118 : (Jvm.Cond.constantLong "CapWallets" (228 : Nat) (3023 : Int64)) ∈ wT := w_tab (List.mem_append_right _ (List.mem_append_left _ (List.mem_of_getElem? (i := 118) rfl))) rfl
theorem wm_1_119 : (Jvm.Cond.methodLink "CapWallets" (200 : Nat) ({ cls := "CapWallets", name := "countNumber", desc := "(I)I" } : Jvm.MethodName)) ∈ wT := w_tab (List.mem_append_right _ (List.mem_append_left _ (List.mem_of_getElem? (i := 119) rfl))) rfl
theorem wm_1_12 : (Jvm.Cond.fieldLink "CapWallets" (19 : Nat) "CapWallets" "rides" "LCapWallets$Rides;") ∈ wT := w_tab (List.mem_append_right _ (List.mem_append_left _ (List.mem_of_getElem? (i := 12) rfl))) rfl
theorem wm_1_121 : (Jvm.Cond.instanceMethod ({ cls := "CapWallets", name := "countNumber", desc := "(I)I" } : Jvm.MethodName)) ∈ wT := w_tab (List.mem_append_right _ (List.mem_append_left _ (List.mem_of_getElem? (i := 121) rfl))) rfl
theorem wm_1_122 : (Jvm.Cond.code ({ cls := "CapWallets", name := "countNumber", desc := "(I)I" } : Jvm.MethodName) prog_1_method_38_code (2 : Nat) (Option.some Jvm.ClassFile.FieldType.int)) ∈ wT := w_tab (List.mem_append_right _ (List.mem_append_left _ (List.mem_of_getElem? (i := 122) rfl))) rfl
theorem wm_1_123 : (Jvm.Cond.methodLink "CapWallets" (339 : Nat) ({ cls := "CapWallets", name := "weeksToSettleAnew", desc := "()I" } : Jvm.MethodName)) ∈ wT := w_tab (List.mem_append_right _ (List.mem_append_left _ (List.mem_of_getElem? (i := 123) rfl))) rfl
theorem wm_1_125 : (Jvm.Cond.instanceMethod ({ cls := "CapWallets", name := "weeksToSettleAnew", desc := "()I" } : Jvm.MethodName)) ∈ wT := w_tab (List.mem_append_right _ (List.mem_append_left _ (List.mem_of_getElem? (i := 125) rfl))) rfl
theorem wm_1_126 : (Jvm.Cond.code ({ cls := "CapWallets", name := "weeksToSettleAnew", desc := "()I" } : Jvm.MethodName) prog_1_method_40_code (6 : Nat) (Option.some Jvm.ClassFile.FieldType.int)) ∈ wT := w_tab (List.mem_append_right _ (List.mem_append_left _ (List.mem_of_getElem? (i := 126) rfl))) rfl
theorem wm_1_127 : (Jvm.Cond.methodLink "CapWallets" (277 : Nat) ({ cls := "CapWallets", name := "weekCell", desc := "(II)I" } : Jvm.MethodName)) ∈ wT := w_tab (List.mem_append_right _ (List.mem_append_left _ (List.mem_of_getElem? (i := 127) rfl))) rfl
theorem wm_1_128 : (Jvm.Cond.static ({ cls := "CapWallets", name := "weekCell", desc := "(II)I" } : Jvm.MethodName)) ∈ wT := w_tab (List.mem_append_right _ (List.mem_append_left _ (List.mem_of_getElem? (i := 128) rfl))) rfl
theorem wm_1_129 : (Jvm.Cond.code ({ cls := "CapWallets", name := "weekCell", desc := "(II)I" } : Jvm.MethodName) prog_1_method_33_code (2 : Nat) (Option.some Jvm.ClassFile.FieldType.int)) ∈ wT := w_tab (List.mem_append_right _ (List.mem_append_left _ (List.mem_of_getElem? (i := 129) rfl))) rfl
theorem wm_1_13 : (Jvm.Cond.fieldLink "CapWallets" (26 : Nat) "CapWallets" "saves" "LCapWallets$Saves;") ∈ wT := w_tab (List.mem_append_right _ (List.mem_append_left _ (List.mem_of_getElem? (i := 13) rfl))) rfl
theorem wm_1_130 : (Jvm.Cond.methodLink "CapWallets" (230 : Nat) ({ cls := "CapWallets", name := "mixed", desc := "(JJ)J" } : Jvm.MethodName)) ∈ wT := w_tab (List.mem_append_right _ (List.mem_append_left _ (List.mem_of_getElem? (i := 130) rfl))) rfl
theorem wm_1_131 : (Jvm.Cond.static ({ cls := "CapWallets", name := "mixed", desc := "(JJ)J" } : Jvm.MethodName)) ∈ wT := w_tab (List.mem_append_right _ (List.mem_append_left _ (List.mem_of_getElem? (i := 131) rfl))) rfl
theorem wm_1_132 : (Jvm.Cond.code ({ cls := "CapWallets", name := "mixed", desc := "(JJ)J" } : Jvm.MethodName) prog_1_method_41_code (4 : Nat) (Option.some Jvm.ClassFile.FieldType.long)) ∈ wT := w_tab (List.mem_append_right _ (List.mem_append_left _ (List.mem_of_getElem? (i := 132) rfl))) rfl
theorem wm_1_133 : (Jvm.Cond.constantLong "CapWallets" (342 : Nat) (31 : Int64)) ∈ wT := w_tab (List.mem_append_right _ (List.mem_append_left _ (List.mem_of_getElem? (i := 133) rfl))) rfl
theorem wm_1_134 : (Jvm.Cond.methodLink "CapWallets" (234 : Nat) ({ cls := "CapWallets$Rows", name := "mixedAll", desc := "(J[II)J" } : Jvm.MethodName)) ∈ wT := w_tab (List.mem_append_right _ (List.mem_append_left _ (List.mem_of_getElem? (i := 134) rfl))) rfl
theorem wm_1_135 : (Jvm.Cond.static ({ cls := "CapWallets$Rows", name := "mixedAll", desc := "(J[II)J" } : Jvm.MethodName)) ∈ wT := w_tab (List.mem_append_right _ (List.mem_append_left _ (List.mem_of_getElem? (i := 135) rfl))) rfl
theorem wm_1_136 : (Jvm.Cond.code ({ cls := "CapWallets$Rows", name := "mixedAll", desc := "(J[II)J" } : Jvm.MethodName) prog_3_method_8_code (7 : Nat) (Option.some Jvm.ClassFile.FieldType.long)) ∈ wT := w_tab (List.mem_append_right _ (List.mem_append_left _ (List.mem_of_getElem? (i := 136) rfl))) rfl
theorem wm_1_138 : (Jvm.Cond.methodLink "CapWallets" (189 : Nat) ({ cls := "CapWallets", name := "tapProperty", desc := "(II)I" } : Jvm.MethodName)) ∈ wT := w_tab (List.mem_append_right _ (List.mem_append_left _ (List.mem_of_getElem? (i := 138) rfl))) rfl
theorem wm_1_14 : (Jvm.Cond.fieldLink "CapWallets" (33 : Nat) "CapWallets" "triedTaps" "LCapWallets$TapRow;") ∈ wT := w_tab (List.mem_append_right _ (List.mem_append_left _ (List.mem_of_getElem? (i := 14) rfl))) rfl
theorem wm_1_140 : (Jvm.Cond.instanceMethod ({ cls := "CapWallets", name := "tapProperty", desc := "(II)I" } : Jvm.MethodName)) ∈ wT := w_tab (List.mem_append_right _ (List.mem_append_left _ (List.mem_of_getElem? (i := 140) rfl))) rfl
theorem wm_1_141 : (Jvm.Cond.code ({ cls := "CapWallets", name := "tapProperty", desc := "(II)I" } : Jvm.MethodName) prog_1_method_35_code (4 : Nat) (Option.some Jvm.ClassFile.FieldType.int)) ∈ wT := w_tab (List.mem_append_right _ (List.mem_append_left _ (List.mem_of_getElem? (i := 141) rfl))) rfl
theorem wm_1_142 : (Jvm.Cond.methodLink "CapWallets" (259 : Nat) ({ cls := "CapWallets$TapRow", name := "tapAt", desc := "(I)I" } : Jvm.MethodName)) ∈ wT := w_tab (List.mem_append_right _ (List.mem_append_left _ (List.mem_of_getElem? (i := 142) rfl))) rfl
theorem wm_1_143 : (Jvm.Cond.methodLink "CapWallets" (271 : Nat) ({ cls := "CapWallets$Tap", name := "walletOf", desc := "(I)I" } : Jvm.MethodName)) ∈ wT := w_tab (List.mem_append_right _ (List.mem_append_left _ (List.mem_of_getElem? (i := 143) rfl))) rfl
theorem wm_1_144 : (Jvm.Cond.methodLink "CapWallets" (296 : Nat) ({ cls := "CapWallets$Tap", name := "dayOf", desc := "(I)I" } : Jvm.MethodName)) ∈ wT := w_tab (List.mem_append_right _ (List.mem_append_left _ (List.mem_of_getElem? (i := 144) rfl))) rfl
theorem wm_1_145 : (Jvm.Cond.methodLink "CapWallets" (265 : Nat) ({ cls := "CapWallets$Tap", name := "minuteOf", desc := "(I)I" } : Jvm.MethodName)) ∈ wT := w_tab (List.mem_append_right _ (List.mem_append_left _ (List.mem_of_getElem? (i := 145) rfl))) rfl
theorem wm_1_146 : (Jvm.Cond.methodLink "CapWallets" (299 : Nat) ({ cls := "CapWallets$Tap", name := "stationOf", desc := "(I)I" } : Jvm.MethodName)) ∈ wT := w_tab (List.mem_append_right _ (List.mem_append_left _ (List.mem_of_getElem? (i := 146) rfl))) rfl
theorem wm_1_147 : (Jvm.Cond.methodLink "CapWallets" (262 : Nat) ({ cls := "CapWallets$Tap", name := "isIn", desc := "(I)Z" } : Jvm.MethodName)) ∈ wT := w_tab (List.mem_append_right _ (List.mem_append_left _ (List.mem_of_getElem? (i := 147) rfl))) rfl
theorem wm_1_148 : (Jvm.Cond.methodLink "CapWallets" (305 : Nat) ({ cls := "CapWallets$Tap", name := "isClaimed", desc := "(I)Z" } : Jvm.MethodName)) ∈ wT := w_tab (List.mem_append_right _ (List.mem_append_left _ (List.mem_of_getElem? (i := 148) rfl))) rfl
theorem wm_1_149 : (Jvm.Cond.static ({ cls := "CapWallets$Tap", name := "isClaimed", desc := "(I)Z" } : Jvm.MethodName)) ∈ wT := w_tab (List.mem_append_right _ (List.mem_append_left _ (List.mem_of_getElem? (i := 149) rfl))) rfl
theorem wm_1_15 : (Jvm.Cond.fieldLink "CapWallets" (37 : Nat) "CapWallets" "triedRides" "LCapWallets$Rides;") ∈ wT := w_tab (List.mem_append_right _ (List.mem_append_left _ (List.mem_of_getElem? (i := 15) rfl))) rfl
theorem wm_1_150 : (Jvm.Cond.code ({ cls := "CapWallets$Tap", name := "isClaimed", desc := "(I)Z" } : Jvm.MethodName) prog_6_method_12_code (1 : Nat) (Option.some Jvm.ClassFile.FieldType.boolean)) ∈ wT := w_tab (List.mem_append_right _ (List.mem_append_left _ (List.mem_of_getElem? (i := 150) rfl))) rfl
theorem wm_1_151 : (Jvm.Cond.methodLink "CapWallets" (238 : Nat) ({ cls := "CapWallets", name := "mixedWallet", desc := "(JI)J" } : Jvm.MethodName)) ∈ wT := w_tab (List.mem_append_right _ (List.mem_append_left _ (List.mem_of_getElem? (i := 151) rfl))) rfl
theorem wm_1_153 : (Jvm.Cond.instanceMethod ({ cls := "CapWallets", name := "mixedWallet", desc := "(JI)J" } : Jvm.MethodName)) ∈ wT := w_tab (List.mem_append_right _ (List.mem_append_left _ (List.mem_of_getElem? (i := 153) rfl))) rfl
theorem wm_1_154 : (Jvm.Cond.code ({ cls := "CapWallets", name := "mixedWallet", desc := "(JI)J" } : Jvm.MethodName) prog_1_method_42_code (11 : Nat) (Option.some Jvm.ClassFile.FieldType.long)) ∈ wT := w_tab (List.mem_append_right _ (List.mem_append_left _ (List.mem_of_getElem? (i := 154) rfl))) rfl
theorem wm_1_155 : (Jvm.Cond.fieldLink "CapWallets" (344 : Nat) "CapWallets" "HASHED_DAYS" "[I") ∈ wT := w_tab (List.mem_append_right _ (List.mem_append_left _ (List.mem_of_getElem? (i := 155) rfl))) rfl
theorem wm_1_157 : (Jvm.Cond.methodLink "CapWallets" (192 : Nat) ({ cls := "CapWallets", name := "dayNumber", desc := "(III)I" } : Jvm.MethodName)) ∈ wT := w_tab (List.mem_append_right _ (List.mem_append_left _ (List.mem_of_getElem? (i := 157) rfl))) rfl
theorem wm_1_159 : (Jvm.Cond.instanceMethod ({ cls := "CapWallets", name := "dayNumber", desc := "(III)I" } : Jvm.MethodName)) ∈ wT := w_tab (List.mem_append_right _ (List.mem_append_left _ (List.mem_of_getElem? (i := 159) rfl))) rfl
theorem wm_1_16 : (Jvm.Cond.fieldLink "CapWallets" (40 : Nat) "CapWallets" "buffer" "[I") ∈ wT := w_tab (List.mem_append_right _ (List.mem_append_left _ (List.mem_of_getElem? (i := 16) rfl))) rfl
theorem wm_1_160 : (Jvm.Cond.code ({ cls := "CapWallets", name := "dayNumber", desc := "(III)I" } : Jvm.MethodName) prog_1_method_36_code (4 : Nat) (Option.some Jvm.ClassFile.FieldType.int)) ∈ wT := w_tab (List.mem_append_right _ (List.mem_append_left _ (List.mem_of_getElem? (i := 160) rfl))) rfl
theorem wm_1_161 : (Jvm.Cond.methodLink "CapWallets" (311 : Nat) ({ cls := "CapWallets", name := "dayCell", desc := "(II)I" } : Jvm.MethodName)) ∈ wT := w_tab (List.mem_append_right _ (List.mem_append_left _ (List.mem_of_getElem? (i := 161) rfl))) rfl
theorem wm_1_162 : (Jvm.Cond.methodLink "CapWallets" (317 : Nat) ({ cls := "CapWallets$Rides", name := "dayCost", desc := "(II)I" } : Jvm.MethodName)) ∈ wT := w_tab (List.mem_append_right _ (List.mem_append_left _ (List.mem_of_getElem? (i := 162) rfl))) rfl
theorem wm_1_163 : (Jvm.Cond.methodLink "CapWallets" (195 : Nat) ({ cls := "CapWallets", name := "weekNumber", desc := "(III)I" } : Jvm.MethodName)) ∈ wT := w_tab (List.mem_append_right _ (List.mem_append_left _ (List.mem_of_getElem? (i := 163) rfl))) rfl
theorem wm_1_165 : (Jvm.Cond.instanceMethod ({ cls := "CapWallets", name := "weekNumber", desc := "(III)I" } : Jvm.MethodName)) ∈ wT := w_tab (List.mem_append_right _ (List.mem_append_left _ (List.mem_of_getElem? (i := 165) rfl))) rfl
theorem wm_1_166 : (Jvm.Cond.code ({ cls := "CapWallets", name := "weekNumber", desc := "(III)I" } : Jvm.MethodName) prog_1_method_37_code (4 : Nat) (Option.some Jvm.ClassFile.FieldType.int)) ∈ wT := w_tab (List.mem_append_right _ (List.mem_append_left _ (List.mem_of_getElem? (i := 166) rfl))) rfl
theorem wm_1_167 : (Jvm.Cond.methodLink "CapWallets" (320 : Nat) ({ cls := "CapWallets$Rides", name := "weekSum", desc := "([III)I" } : Jvm.MethodName)) ∈ wT := w_tab (List.mem_append_right _ (List.mem_append_left _ (List.mem_of_getElem? (i := 167) rfl))) rfl
theorem wm_1_168 : (Jvm.Cond.static ({ cls := "CapWallets$Rides", name := "weekSum", desc := "([III)I" } : Jvm.MethodName)) ∈ wT := w_tab (List.mem_append_right _ (List.mem_append_left _ (List.mem_of_getElem? (i := 168) rfl))) rfl
theorem wm_1_169 : (Jvm.Cond.code ({ cls := "CapWallets$Rides", name := "weekSum", desc := "([III)I" } : Jvm.MethodName) prog_2_method_10_code (5 : Nat) (Option.some Jvm.ClassFile.FieldType.int)) ∈ wT := w_tab (List.mem_append_right _ (List.mem_append_left _ (List.mem_of_getElem? (i := 169) rfl))) rfl
theorem wm_1_17 : (Jvm.Cond.fieldLink "CapWallets" (44 : Nat) "CapWallets" "bufferLength" "I") ∈ wT := w_tab (List.mem_append_right _ (List.mem_append_left _ (List.mem_of_getElem? (i := 17) rfl))) rfl
theorem wm_1_170 : (Jvm.Cond.methodLink "CapWallets" (324 : Nat) ({ cls := "CapWallets$Rides", name := "weekDaysCost", desc := "(II)I" } : Jvm.MethodName)) ∈ wT := w_tab (List.mem_append_right _ (List.mem_append_left _ (List.mem_of_getElem? (i := 170) rfl))) rfl
theorem wm_1_171 : (Jvm.Cond.methodLink "CapWallets" (203 : Nat) ({ cls := "CapWallets$State", name := "ledgerNumber", desc := "(III)I" } : Jvm.MethodName)) ∈ wT := w_tab (List.mem_append_right _ (List.mem_append_left _ (List.mem_of_getElem? (i := 171) rfl))) rfl
theorem wm_1_172 : (Jvm.Cond.instanceMethod ({ cls := "CapWallets$State", name := "ledgerNumber", desc := "(III)I" } : Jvm.MethodName)) ∈ wT := w_tab (List.mem_append_right _ (List.mem_append_left _ (List.mem_of_getElem? (i := 172) rfl))) rfl
theorem wm_1_173 : (Jvm.Cond.selects "CapWallets$State" ({ cls := "CapWallets$State", name := "ledgerNumber", desc := "(III)I" } : Jvm.MethodName) ({ cls := "CapWallets$State", name := "ledgerNumber", desc := "(III)I" } : Jvm.MethodName)) ∈ wT := w_tab (List.mem_append_right _ (List.mem_append_left _ (List.mem_of_getElem? (i := 173) rfl))) rfl
theorem wm_1_174 : (Jvm.Cond.code ({ cls := "CapWallets$State", name := "ledgerNumber", desc := "(III)I" } : Jvm.MethodName) prog_5_method_5_code (4 : Nat) (Option.some Jvm.ClassFile.FieldType.int)) ∈ wT := w_tab (List.mem_append_right _ (List.mem_append_left _ (List.mem_of_getElem? (i := 174) rfl))) rfl
theorem wm_1_175 : (Jvm.Cond.methodLink "CapWallets$State" (68 : Nat) ({ cls := "CapWallets$Rows", name := "at", desc := "([II)I" } : Jvm.MethodName)) ∈ wT := w_tab (List.mem_append_right _ (List.mem_append_left _ (List.mem_of_getElem? (i := 175) rfl))) rfl
theorem wm_1_176 : (Jvm.Cond.methodLink "CapWallets" (91 : Nat) ({ cls := "CapWallets$Tap", name := "make", desc := "(IIIIZ)I" } : Jvm.MethodName)) ∈ wT := w_tab (List.mem_append_right _ (List.mem_append_left _ (List.mem_of_getElem? (i := 176) rfl))) rfl
theorem wm_1_177 : (Jvm.Cond.methodLink "CapWallets" (206 : Nat) ({ cls := "CapWallets", name := "raisedChange", desc := "(I)I" } : Jvm.MethodName)) ∈ wT := w_tab (List.mem_append_right _ (List.mem_append_left _ (List.mem_of_getElem? (i := 177) rfl))) rfl
theorem wm_1_179 : (Jvm.Cond.instanceMethod ({ cls := "CapWallets", name := "raisedChange", desc := "(I)I" } : Jvm.MethodName)) ∈ wT := w_tab (List.mem_append_right _ (List.mem_append_left _ (List.mem_of_getElem? (i := 179) rfl))) rfl
theorem wm_1_18 : (Jvm.Cond.fieldLink "CapWallets" (51 : Nat) "CapWallets" "reader" "LCapWallets$TextReader;") ∈ wT := w_tab (List.mem_append_right _ (List.mem_append_left _ (List.mem_of_getElem? (i := 18) rfl))) rfl
theorem wm_1_180 : (Jvm.Cond.code ({ cls := "CapWallets", name := "raisedChange", desc := "(I)I" } : Jvm.MethodName) prog_1_method_32_code (4 : Nat) (Option.some Jvm.ClassFile.FieldType.int)) ∈ wT := w_tab (List.mem_append_right _ (List.mem_append_left _ (List.mem_of_getElem? (i := 180) rfl))) rfl
theorem wm_1_181 : (Jvm.Cond.methodLink "CapWallets" (286 : Nat) ({ cls := "CapWallets", name := "tryTap", desc := "(I)I" } : Jvm.MethodName)) ∈ wT := w_tab (List.mem_append_right _ (List.mem_append_left _ (List.mem_of_getElem? (i := 181) rfl))) rfl
theorem wm_1_183 : (Jvm.Cond.instanceMethod ({ cls := "CapWallets", name := "tryTap", desc := "(I)I" } : Jvm.MethodName)) ∈ wT := w_tab (List.mem_append_right _ (List.mem_append_left _ (List.mem_of_getElem? (i := 183) rfl))) rfl
theorem wm_1_184 : (Jvm.Cond.code ({ cls := "CapWallets", name := "tryTap", desc := "(I)I" } : Jvm.MethodName) prog_1_method_31_code (3 : Nat) (Option.some Jvm.ClassFile.FieldType.int)) ∈ wT := w_tab (List.mem_append_right _ (List.mem_append_left _ (List.mem_of_getElem? (i := 184) rfl))) rfl
theorem wm_1_185 : (Jvm.Cond.methodLink "CapWallets" (292 : Nat) ({ cls := "CapWallets$TapRow", name := "copyFrom", desc := "(LCapWallets$TapRow;)V" } : Jvm.MethodName)) ∈ wT := w_tab (List.mem_append_right _ (List.mem_append_left _ (List.mem_of_getElem? (i := 185) rfl))) rfl
theorem wm_1_186 : (Jvm.Cond.instanceMethod ({ cls := "CapWallets$TapRow", name := "copyFrom", desc := "(LCapWallets$TapRow;)V" } : Jvm.MethodName)) ∈ wT := w_tab (List.mem_append_right _ (List.mem_append_left _ (List.mem_of_getElem? (i := 186) rfl))) rfl
theorem wm_1_187 : (Jvm.Cond.selects "CapWallets$TapRow" ({ cls := "CapWallets$TapRow", name := "copyFrom", desc := "(LCapWallets$TapRow;)V" } : Jvm.MethodName) ({ cls := "CapWallets$TapRow", name := "copyFrom", desc := "(LCapWallets$TapRow;)V" } : Jvm.MethodName)) ∈ wT := w_tab (List.mem_append_right _ (List.mem_append_left _ (List.mem_of_getElem? (i := 187) rfl))) rfl
theorem wm_1_188 : (Jvm.Cond.code ({ cls := "CapWallets$TapRow", name := "copyFrom", desc := "(LCapWallets$TapRow;)V" } : Jvm.MethodName) prog_7_method_5_code (2 : Nat) (Option.none : Option Jvm.ClassFile.FieldType)) ∈ wT := w_tab (List.mem_append_right _ (List.mem_append_left _ (List.mem_of_getElem? (i := 188) rfl))) rfl
theorem wm_1_189 : (Jvm.Cond.methodLink "CapWallets$TapRow" (38 : Nat) ({ cls := "CapWallets$Rows", name := "copy", desc := "([I[I)V" } : Jvm.MethodName)) ∈ wT := w_tab (List.mem_append_right _ (List.mem_append_left _ (List.mem_of_getElem? (i := 189) rfl))) rfl
theorem wm_1_19 : (Jvm.Cond.laysFinal "CapWallets" "CapWallets" "state" "LCapWallets$State;") ∈ wT := w_tab (List.mem_append_right _ (List.mem_append_left _ (List.mem_of_getElem? (i := 19) rfl))) rfl
theorem wm_1_190 : (Jvm.Cond.methodLink "CapWallets" (97 : Nat) ({ cls := "CapWallets$TapRow", name := "insert", desc := "(I)I" } : Jvm.MethodName)) ∈ wT := w_tab (List.mem_append_right _ (List.mem_append_left _ (List.mem_of_getElem? (i := 190) rfl))) rfl
theorem wm_1_191 : (Jvm.Cond.instanceMethod ({ cls := "CapWallets$TapRow", name := "insert", desc := "(I)I" } : Jvm.MethodName)) ∈ wT := w_tab (List.mem_append_right _ (List.mem_append_left _ (List.mem_of_getElem? (i := 191) rfl))) rfl
theorem wm_1_192 : (Jvm.Cond.selects "CapWallets$TapRow" ({ cls := "CapWallets$TapRow", name := "insert", desc := "(I)I" } : Jvm.MethodName) ({ cls := "CapWallets$TapRow", name := "insert", desc := "(I)I" } : Jvm.MethodName)) ∈ wT := w_tab (List.mem_append_right _ (List.mem_append_left _ (List.mem_of_getElem? (i := 192) rfl))) rfl
theorem wm_1_193 : (Jvm.Cond.code ({ cls := "CapWallets$TapRow", name := "insert", desc := "(I)I" } : Jvm.MethodName) prog_7_method_3_code (3 : Nat) (Option.some Jvm.ClassFile.FieldType.int)) ∈ wT := w_tab (List.mem_append_right _ (List.mem_append_left _ (List.mem_of_getElem? (i := 193) rfl))) rfl
theorem wm_1_194 : (Jvm.Cond.methodLink "CapWallets$TapRow" (25 : Nat) ({ cls := "CapWallets$TapRow", name := "tapAt", desc := "(I)I" } : Jvm.MethodName)) ∈ wT := w_tab (List.mem_append_right _ (List.mem_append_left _ (List.mem_of_getElem? (i := 194) rfl))) rfl
theorem wm_1_195 : (Jvm.Cond.methodLink "CapWallets$TapRow" (29 : Nat) ({ cls := "CapWallets$Tap", name := "timeOf", desc := "(I)I" } : Jvm.MethodName)) ∈ wT := w_tab (List.mem_append_right _ (List.mem_append_left _ (List.mem_of_getElem? (i := 195) rfl))) rfl
theorem wm_1_196 : (Jvm.Cond.static ({ cls := "CapWallets$Tap", name := "timeOf", desc := "(I)I" } : Jvm.MethodName)) ∈ wT := w_tab (List.mem_append_right _ (List.mem_append_left _ (List.mem_of_getElem? (i := 196) rfl))) rfl
theorem wm_1_197 : (Jvm.Cond.code ({ cls := "CapWallets$Tap", name := "timeOf", desc := "(I)I" } : Jvm.MethodName) prog_6_method_4_code (1 : Nat) (Option.some Jvm.ClassFile.FieldType.int)) ∈ wT := w_tab (List.mem_append_right _ (List.mem_append_left _ (List.mem_of_getElem? (i := 197) rfl))) rfl
theorem wm_1_198 : (Jvm.Cond.methodLink "CapWallets$TapRow" (34 : Nat) ({ cls := "CapWallets$Rows", name := "put", desc := "([III)V" } : Jvm.MethodName)) ∈ wT := w_tab (List.mem_append_right _ (List.mem_append_left _ (List.mem_of_getElem? (i := 198) rfl))) rfl
theorem wm_1_199 : (Jvm.Cond.methodLink "CapWallets" (274 : Nat) ({ cls := "CapWallets$Tap", name := "weekOf", desc := "(I)I" } : Jvm.MethodName)) ∈ wT := w_tab (List.mem_append_right _ (List.mem_append_left _ (List.mem_of_getElem? (i := 199) rfl))) rfl
theorem wm_1_200 : (Jvm.Cond.static ({ cls := "CapWallets$Tap", name := "weekOf", desc := "(I)I" } : Jvm.MethodName)) ∈ wT := w_tab (List.mem_append_right _ (List.mem_append_left _ (List.mem_of_getElem? (i := 200) rfl))) rfl
theorem wm_1_201 : (Jvm.Cond.code ({ cls := "CapWallets$Tap", name := "weekOf", desc := "(I)I" } : Jvm.MethodName) prog_6_method_6_code (1 : Nat) (Option.some Jvm.ClassFile.FieldType.int)) ∈ wT := w_tab (List.mem_append_right _ (List.mem_append_left _ (List.mem_of_getElem? (i := 201) rfl))) rfl
theorem wm_1_202 : (Jvm.Cond.methodLink "CapWallets$Tap" (15 : Nat) ({ cls := "CapWallets$Tap", name := "dayOf", desc := "(I)I" } : Jvm.MethodName)) ∈ wT := w_tab (List.mem_append_right _ (List.mem_append_left _ (List.mem_of_getElem? (i := 202) rfl))) rfl
theorem wm_1_203 : (Jvm.Cond.constant "CapWallets" (142 : Nat) (100000 : Int32)) ∈ wT := w_tab (List.mem_append_right _ (List.mem_append_left _ (List.mem_of_getElem? (i := 203) rfl))) rfl
theorem wm_1_204 : (Jvm.Cond.methodLink "CapWallets" (242 : Nat) ({ cls := "CapWallets", name := "leaky", desc := "()I" } : Jvm.MethodName)) ∈ wT := w_tab (List.mem_append_right _ (List.mem_append_left _ (List.mem_of_getElem? (i := 204) rfl))) rfl
theorem wm_1_205 : (Jvm.Cond.methodLink "CapWallets" (245 : Nat) ({ cls := "CapWallets", name := "leastCap", desc := "()I" } : Jvm.MethodName)) ∈ wT := w_tab (List.mem_append_right _ (List.mem_append_left _ (List.mem_of_getElem? (i := 205) rfl))) rfl
theorem wm_1_206 : (Jvm.Cond.methodLink "CapWallets" (248 : Nat) ({ cls := "CapWallets", name := "capShare", desc := "()D" } : Jvm.MethodName)) ∈ wT := w_tab (List.mem_append_right _ (List.mem_append_left _ (List.mem_of_getElem? (i := 206) rfl))) rfl
theorem wm_1_207 : (Jvm.Cond.methodLink "CapWallets" (252 : Nat) ({ cls := "CapWallets", name := "bitsOfShare", desc := "(D)J" } : Jvm.MethodName)) ∈ wT := w_tab (List.mem_append_right _ (List.mem_append_left _ (List.mem_of_getElem? (i := 207) rfl))) rfl
theorem wm_1_208 : (Jvm.Cond.static ({ cls := "CapWallets", name := "bitsOfShare", desc := "(D)J" } : Jvm.MethodName)) ∈ wT := w_tab (List.mem_append_right _ (List.mem_append_left _ (List.mem_of_getElem? (i := 208) rfl))) rfl
theorem wm_1_209 : (Jvm.Cond.code ({ cls := "CapWallets", name := "bitsOfShare", desc := "(D)J" } : Jvm.MethodName) prog_1_method_43_code (8 : Nat) (Option.some Jvm.ClassFile.FieldType.long)) ∈ wT := w_tab (List.mem_append_right _ (List.mem_append_left _ (List.mem_of_getElem? (i := 209) rfl))) rfl
theorem wm_1_21 : (Jvm.Cond.laysFinal "CapWallets" "CapWallets" "rides" "LCapWallets$Rides;") ∈ wT := w_tab (List.mem_append_right _ (List.mem_append_left _ (List.mem_of_getElem? (i := 21) rfl))) rfl
theorem wm_1_210 : (Jvm.Cond.constantLong "CapWallets" (347 : Nat) (1023 : Int64)) ∈ wT := w_tab (List.mem_append_right _ (List.mem_append_left _ (List.mem_of_getElem? (i := 210) rfl))) rfl
theorem wm_1_211 : (Jvm.Cond.constantDouble "CapWallets" (349 : Nat) (4611686018427387904 : UInt64)) ∈ wT := w_tab (List.mem_append_right _ (List.mem_append_left _ (List.mem_of_getElem? (i := 211) rfl))) rfl
theorem wm_1_212 : (Jvm.Cond.constantDouble "CapWallets" (351 : Nat) (4841369599423283200 : UInt64)) ∈ wT := w_tab (List.mem_append_right _ (List.mem_append_left _ (List.mem_of_getElem? (i := 212) rfl))) rfl
theorem wm_1_213 : (Jvm.Cond.methodLink "CapWalletsLaw" (69 : Nat) ({ cls := "CapWalletsLaw", name := "tap", desc := "(LCapWallets;IIIIZ[J)I" } : Jvm.MethodName)) ∈ wT := w_tab (List.mem_append_right _ (List.mem_append_left _ (List.mem_of_getElem? (i := 213) rfl))) rfl
theorem wm_1_214 : (Jvm.Cond.static ({ cls := "CapWalletsLaw", name := "tap", desc := "(LCapWallets;IIIIZ[J)I" } : Jvm.MethodName)) ∈ wT := w_tab (List.mem_append_right _ (List.mem_append_left _ (List.mem_of_getElem? (i := 214) rfl))) rfl
theorem wm_1_215 : (Jvm.Cond.codeWith ({ cls := "CapWalletsLaw", name := "tap", desc := "(LCapWallets;IIIIZ[J)I" } : Jvm.MethodName) method_3_code (8 : Nat) (Option.some Jvm.ClassFile.FieldType.int) [((0 : Nat), (16 : Nat), (19 : Nat), (13 : Nat)), ((0 : Nat), (16 : Nat), (23 : Nat), (15 : Nat))]) ∈ wT := w_tab (List.mem_append_right _ (List.mem_append_left _ (List.mem_of_getElem? (i := 215) rfl))) rfl
theorem wm_1_216 : (Jvm.Cond.classLink "CapWalletsLaw" (13 : Nat) "java/lang/IllegalArgumentException") ∈ wT := w_tab (List.mem_append_right _ (List.mem_append_left _ (List.mem_of_getElem? (i := 216) rfl))) rfl
theorem wm_1_217 : (Jvm.Cond.classLink "CapWalletsLaw" (15 : Nat) "java/lang/IllegalStateException") ∈ wT := w_tab (List.mem_append_right _ (List.mem_append_left _ (List.mem_of_getElem? (i := 217) rfl))) rfl
theorem wm_1_218 : (Jvm.Cond.methodLink "CapWalletsLaw" (7 : Nat) ({ cls := "CapWallets", name := "tap", desc := "(IIIIZ)I" } : Jvm.MethodName)) ∈ wT := w_tab (List.mem_append_right _ (List.mem_append_left _ (List.mem_of_getElem? (i := 218) rfl))) rfl
theorem wm_1_219 : (Jvm.Cond.instanceMethod ({ cls := "CapWallets", name := "tap", desc := "(IIIIZ)I" } : Jvm.MethodName)) ∈ wT := w_tab (List.mem_append_right _ (List.mem_append_left _ (List.mem_of_getElem? (i := 219) rfl))) rfl
theorem wm_1_220 : (Jvm.Cond.selects "CapWallets" ({ cls := "CapWallets", name := "tap", desc := "(IIIIZ)I" } : Jvm.MethodName) ({ cls := "CapWallets", name := "tap", desc := "(IIIIZ)I" } : Jvm.MethodName)) ∈ wT := w_tab (List.mem_append_right _ (List.mem_append_left _ (List.mem_of_getElem? (i := 220) rfl))) rfl
theorem wm_1_221 : (Jvm.Cond.code ({ cls := "CapWallets", name := "tap", desc := "(IIIIZ)I" } : Jvm.MethodName) prog_1_method_2_code (7 : Nat) (Option.some Jvm.ClassFile.FieldType.int)) ∈ wT := w_tab (List.mem_append_right _ (List.mem_append_left _ (List.mem_of_getElem? (i := 221) rfl))) rfl
theorem wm_1_222 : (Jvm.Cond.methodLink "CapWallets" (65 : Nat) ({ cls := "CapWallets", name := "isWalletDay", desc := "(II)Z" } : Jvm.MethodName)) ∈ wT := w_tab (List.mem_append_right _ (List.mem_append_left _ (List.mem_of_getElem? (i := 222) rfl))) rfl
theorem wm_1_223 : (Jvm.Cond.static ({ cls := "CapWallets", name := "isWalletDay", desc := "(II)Z" } : Jvm.MethodName)) ∈ wT := w_tab (List.mem_append_right _ (List.mem_append_left _ (List.mem_of_getElem? (i := 223) rfl))) rfl
theorem wm_1_224 : (Jvm.Cond.code ({ cls := "CapWallets", name := "isWalletDay", desc := "(II)Z" } : Jvm.MethodName) prog_1_method_24_code (2 : Nat) (Option.some Jvm.ClassFile.FieldType.boolean)) ∈ wT := w_tab (List.mem_append_right _ (List.mem_append_left _ (List.mem_of_getElem? (i := 224) rfl))) rfl
theorem wm_1_225 : (Jvm.Cond.methodLink "CapWallets" (130 : Nat) ({ cls := "CapWallets", name := "isBelow", desc := "(II)Z" } : Jvm.MethodName)) ∈ wT := w_tab (List.mem_append_right _ (List.mem_append_left _ (List.mem_of_getElem? (i := 225) rfl))) rfl
theorem wm_1_226 : (Jvm.Cond.methodLink "CapWallets" (69 : Nat) ({ cls := "CapWallets", name := "isMinuteStation", desc := "(II)Z" } : Jvm.MethodName)) ∈ wT := w_tab (List.mem_append_right _ (List.mem_append_left _ (List.mem_of_getElem? (i := 226) rfl))) rfl
theorem wm_1_227 : (Jvm.Cond.static ({ cls := "CapWallets", name := "isMinuteStation", desc := "(II)Z" } : Jvm.MethodName)) ∈ wT := w_tab (List.mem_append_right _ (List.mem_append_left _ (List.mem_of_getElem? (i := 227) rfl))) rfl
theorem wm_1_228 : (Jvm.Cond.code ({ cls := "CapWallets", name := "isMinuteStation", desc := "(II)Z" } : Jvm.MethodName) prog_1_method_25_code (2 : Nat) (Option.some Jvm.ClassFile.FieldType.boolean)) ∈ wT := w_tab (List.mem_append_right _ (List.mem_append_left _ (List.mem_of_getElem? (i := 228) rfl))) rfl
theorem wm_1_229 : (Jvm.Cond.classLink "CapWallets" (72 : Nat) "java/lang/IllegalArgumentException") ∈ wT := w_tab (List.mem_append_right _ (List.mem_append_left _ (List.mem_of_getElem? (i := 229) rfl))) rfl
theorem wm_1_23 : (Jvm.Cond.laysFinal "CapWallets" "CapWallets" "saves" "LCapWallets$Saves;") ∈ wT := w_tab (List.mem_append_right _ (List.mem_append_left _ (List.mem_of_getElem? (i := 23) rfl))) rfl
theorem wm_1_230 : (Jvm.Cond.instantiable "java/lang/IllegalArgumentException" (6 : Nat)) ∈ wT := w_tab (List.mem_append_right _ (List.mem_append_left _ (List.mem_of_getElem? (i := 230) rfl))) rfl
theorem wm_1_25 : (Jvm.Cond.laysFinal "CapWallets" "CapWallets" "triedTaps" "LCapWallets$TapRow;") ∈ wT := w_tab (List.mem_append_right _ (List.mem_append_left _ (List.mem_of_getElem? (i := 25) rfl))) rfl
theorem wm_1_27 : (Jvm.Cond.laysFinal "CapWallets" "CapWallets" "triedRides" "LCapWallets$Rides;") ∈ wT := w_tab (List.mem_append_right _ (List.mem_append_left _ (List.mem_of_getElem? (i := 27) rfl))) rfl
theorem wm_1_29 : (Jvm.Cond.laysFinal "CapWallets" "CapWallets" "buffer" "[I") ∈ wT := w_tab (List.mem_append_right _ (List.mem_append_left _ (List.mem_of_getElem? (i := 29) rfl))) rfl
theorem wm_1_3 : (Jvm.Cond.static ({ cls := "CapWallets", name := "dayCell", desc := "(II)I" } : Jvm.MethodName)) ∈ wT := w_tab (List.mem_append_right _ (List.mem_append_left _ (List.mem_of_getElem? (i := 3) rfl))) rfl
theorem wm_1_31 : (Jvm.Cond.lays "CapWallets" "CapWallets" "bufferLength" "I") ∈ wT := w_tab (List.mem_append_right _ (List.mem_append_left _ (List.mem_of_getElem? (i := 31) rfl))) rfl
theorem wm_1_33 : (Jvm.Cond.laysFinal "CapWallets" "CapWallets" "reader" "LCapWallets$TextReader;") ∈ wT := w_tab (List.mem_append_right _ (List.mem_append_left _ (List.mem_of_getElem? (i := 33) rfl))) rfl
theorem wm_1_36 : (Jvm.Cond.methodLink "CapWalletsLaw" (96 : Nat) ({ cls := "CapWallets", name := "clearBuffer", desc := "()I" } : Jvm.MethodName)) ∈ wT := w_tab (List.mem_append_right _ (List.mem_append_left _ (List.mem_of_getElem? (i := 36) rfl))) rfl
theorem wm_1_37 : (Jvm.Cond.instanceMethod ({ cls := "CapWallets", name := "clearBuffer", desc := "()I" } : Jvm.MethodName)) ∈ wT := w_tab (List.mem_append_right _ (List.mem_append_left _ (List.mem_of_getElem? (i := 37) rfl))) rfl
theorem wm_1_38 : (Jvm.Cond.selects "CapWallets" ({ cls := "CapWallets", name := "clearBuffer", desc := "()I" } : Jvm.MethodName) ({ cls := "CapWallets", name := "clearBuffer", desc := "()I" } : Jvm.MethodName)) ∈ wT := w_tab (List.mem_append_right _ (List.mem_append_left _ (List.mem_of_getElem? (i := 38) rfl))) rfl
theorem wm_1_39 : (Jvm.Cond.code ({ cls := "CapWallets", name := "clearBuffer", desc := "()I" } : Jvm.MethodName) prog_1_method_8_code (2 : Nat) (Option.some Jvm.ClassFile.FieldType.int)) ∈ wT := w_tab (List.mem_append_right _ (List.mem_append_left _ (List.mem_of_getElem? (i := 39) rfl))) rfl
theorem wm_1_4 : (Jvm.Cond.code ({ cls := "CapWallets", name := "dayCell", desc := "(II)I" } : Jvm.MethodName) prog_1_method_34_code (2 : Nat) (Option.some Jvm.ClassFile.FieldType.int)) ∈ wT := w_tab (List.mem_append_right _ (List.mem_append_left _ (List.mem_of_getElem? (i := 4) rfl))) rfl
theorem wm_1_40 : (Jvm.Cond.methodLink "CapWalletsLaw" (100 : Nat) ({ cls := "CapWallets", name := "firstError", desc := "()I" } : Jvm.MethodName)) ∈ wT := w_tab (List.mem_append_right _ (List.mem_append_left _ (List.mem_of_getElem? (i := 40) rfl))) rfl
theorem wm_1_41 : (Jvm.Cond.instanceMethod ({ cls := "CapWallets", name := "firstError", desc := "()I" } : Jvm.MethodName)) ∈ wT := w_tab (List.mem_append_right _ (List.mem_append_left _ (List.mem_of_getElem? (i := 41) rfl))) rfl
theorem wm_1_42 : (Jvm.Cond.selects "CapWallets" ({ cls := "CapWallets", name := "firstError", desc := "()I" } : Jvm.MethodName) ({ cls := "CapWallets", name := "firstError", desc := "()I" } : Jvm.MethodName)) ∈ wT := w_tab (List.mem_append_right _ (List.mem_append_left _ (List.mem_of_getElem? (i := 42) rfl))) rfl
theorem wm_1_43 : (Jvm.Cond.code ({ cls := "CapWallets", name := "firstError", desc := "()I" } : Jvm.MethodName) prog_1_method_9_code (1 : Nat) (Option.some Jvm.ClassFile.FieldType.int)) ∈ wT := w_tab (List.mem_append_right _ (List.mem_append_left _ (List.mem_of_getElem? (i := 43) rfl))) rfl
theorem wm_1_44 : (Jvm.Cond.methodLink "CapWallets" (167 : Nat) ({ cls := "CapWallets$TextReader", name := "readUpTo", desc := "([II)I" } : Jvm.MethodName)) ∈ wT := w_tab (List.mem_append_right _ (List.mem_append_left _ (List.mem_of_getElem? (i := 44) rfl))) rfl
theorem wm_1_45 : (Jvm.Cond.instanceMethod ({ cls := "CapWallets$TextReader", name := "readUpTo", desc := "([II)I" } : Jvm.MethodName)) ∈ wT := w_tab (List.mem_append_right _ (List.mem_append_left _ (List.mem_of_getElem? (i := 45) rfl))) rfl
theorem wm_1_46 : (Jvm.Cond.selects "CapWallets$TextReader" ({ cls := "CapWallets$TextReader", name := "readUpTo", desc := "([II)I" } : Jvm.MethodName) ({ cls := "CapWallets$TextReader", name := "readUpTo", desc := "([II)I" } : Jvm.MethodName)) ∈ wT := w_tab (List.mem_append_right _ (List.mem_append_left _ (List.mem_of_getElem? (i := 46) rfl))) rfl
theorem wm_1_47 : (Jvm.Cond.code ({ cls := "CapWallets$TextReader", name := "readUpTo", desc := "([II)I" } : Jvm.MethodName) prog_8_method_2_code (4 : Nat) (Option.some Jvm.ClassFile.FieldType.int)) ∈ wT := w_tab (List.mem_append_right _ (List.mem_append_left _ (List.mem_of_getElem? (i := 47) rfl))) rfl
theorem wm_1_48 : (Jvm.Cond.methodLink "CapWallets$TextReader" (38 : Nat) ({ cls := "CapWallets$Rows", name := "at", desc := "([II)I" } : Jvm.MethodName)) ∈ wT := w_tab (List.mem_append_right _ (List.mem_append_left _ (List.mem_of_getElem? (i := 48) rfl))) rfl
theorem wm_1_49 : (Jvm.Cond.methodLink "CapWallets$TextReader" (44 : Nat) ({ cls := "CapWallets$TextReader", name := "takes", desc := "(I)Z" } : Jvm.MethodName)) ∈ wT := w_tab (List.mem_append_right _ (List.mem_append_left _ (List.mem_of_getElem? (i := 49) rfl))) rfl
theorem wm_1_5 : (Jvm.Cond.methodLink "CapWallets$Rides" (106 : Nat) ({ cls := "CapWallets$Rows", name := "raise", desc := "([III)V" } : Jvm.MethodName)) ∈ wT := w_tab (List.mem_append_right _ (List.mem_append_left _ (List.mem_of_getElem? (i := 5) rfl))) rfl
theorem wm_1_51 : (Jvm.Cond.instanceMethod ({ cls := "CapWallets$TextReader", name := "takes", desc := "(I)Z" } : Jvm.MethodName)) ∈ wT := w_tab (List.mem_append_right _ (List.mem_append_left _ (List.mem_of_getElem? (i := 51) rfl))) rfl
theorem wm_1_52 : (Jvm.Cond.code ({ cls := "CapWallets$TextReader", name := "takes", desc := "(I)Z" } : Jvm.MethodName) prog_8_method_4_code (2 : Nat) (Option.some Jvm.ClassFile.FieldType.boolean)) ∈ wT := w_tab (List.mem_append_right _ (List.mem_append_left _ (List.mem_of_getElem? (i := 52) rfl))) rfl
theorem wm_1_54 : (Jvm.Cond.static ({ cls := "CapWallets", name := "isBelow", desc := "(II)Z" } : Jvm.MethodName)) ∈ wT := w_tab (List.mem_append_right _ (List.mem_append_left _ (List.mem_of_getElem? (i := 54) rfl))) rfl
theorem wm_1_55 : (Jvm.Cond.code ({ cls := "CapWallets", name := "isBelow", desc := "(II)Z" } : Jvm.MethodName) prog_1_method_23_code (2 : Nat) (Option.some Jvm.ClassFile.FieldType.boolean)) ∈ wT := w_tab (List.mem_append_right _ (List.mem_append_left _ (List.mem_of_getElem? (i := 55) rfl))) rfl
theorem wm_1_56 : (Jvm.Cond.methodLink "CapWallets$TextReader" (52 : Nat) ({ cls := "CapWallets$TextReader", name := "goesOn", desc := "(ZI)Z" } : Jvm.MethodName)) ∈ wT := w_tab (List.mem_append_right _ (List.mem_append_left _ (List.mem_of_getElem? (i := 56) rfl))) rfl
theorem wm_1_58 : (Jvm.Cond.instanceMethod ({ cls := "CapWallets$TextReader", name := "goesOn", desc := "(ZI)Z" } : Jvm.MethodName)) ∈ wT := w_tab (List.mem_append_right _ (List.mem_append_left _ (List.mem_of_getElem? (i := 58) rfl))) rfl
theorem wm_1_59 : (Jvm.Cond.code ({ cls := "CapWallets$TextReader", name := "goesOn", desc := "(ZI)Z" } : Jvm.MethodName) prog_8_method_5_code (3 : Nat) (Option.some Jvm.ClassFile.FieldType.boolean)) ∈ wT := w_tab (List.mem_append_right _ (List.mem_append_left _ (List.mem_of_getElem? (i := 59) rfl))) rfl
theorem wm_1_6 : (Jvm.Cond.static ({ cls := "CapWallets$Rows", name := "raise", desc := "([III)V" } : Jvm.MethodName)) ∈ wT := w_tab (List.mem_append_right _ (List.mem_append_left _ (List.mem_of_getElem? (i := 6) rfl))) rfl
theorem wm_1_60 : (Jvm.Cond.methodLink "CapWallets$TextReader" (56 : Nat) ({ cls := "CapWallets$TextReader", name := "startsNumber", desc := "(II)Z" } : Jvm.MethodName)) ∈ wT := w_tab (List.mem_append_right _ (List.mem_append_left _ (List.mem_of_getElem? (i := 60) rfl))) rfl
theorem wm_1_62 : (Jvm.Cond.instanceMethod ({ cls := "CapWallets$TextReader", name := "startsNumber", desc := "(II)Z" } : Jvm.MethodName)) ∈ wT := w_tab (List.mem_append_right _ (List.mem_append_left _ (List.mem_of_getElem? (i := 62) rfl))) rfl
theorem wm_1_63 : (Jvm.Cond.code ({ cls := "CapWallets$TextReader", name := "startsNumber", desc := "(II)Z" } : Jvm.MethodName) prog_8_method_6_code (3 : Nat) (Option.some Jvm.ClassFile.FieldType.boolean)) ∈ wT := w_tab (List.mem_append_right _ (List.mem_append_left _ (List.mem_of_getElem? (i := 63) rfl))) rfl
theorem wm_1_64 : (Jvm.Cond.methodLink "CapWallets$TextReader" (59 : Nat) ({ cls := "CapWallets$TextReader", name := "lengthensNumber", desc := "(II)Z" } : Jvm.MethodName)) ∈ wT := w_tab (List.mem_append_right _ (List.mem_append_left _ (List.mem_of_getElem? (i := 64) rfl))) rfl
theorem wm_1_66 : (Jvm.Cond.instanceMethod ({ cls := "CapWallets$TextReader", name := "lengthensNumber", desc := "(II)Z" } : Jvm.MethodName)) ∈ wT := w_tab (List.mem_append_right _ (List.mem_append_left _ (List.mem_of_getElem? (i := 66) rfl))) rfl
theorem wm_1_67 : (Jvm.Cond.code ({ cls := "CapWallets$TextReader", name := "lengthensNumber", desc := "(II)Z" } : Jvm.MethodName) prog_8_method_7_code (4 : Nat) (Option.some Jvm.ClassFile.FieldType.boolean)) ∈ wT := w_tab (List.mem_append_right _ (List.mem_append_left _ (List.mem_of_getElem? (i := 67) rfl))) rfl
theorem wm_1_68 : (Jvm.Cond.methodLink "CapWallets$TextReader" (62 : Nat) ({ cls := "CapWallets$TextReader", name := "endsTap", desc := "(I)Z" } : Jvm.MethodName)) ∈ wT := w_tab (List.mem_append_right _ (List.mem_append_left _ (List.mem_of_getElem? (i := 68) rfl))) rfl
theorem wm_1_7 : (Jvm.Cond.code ({ cls := "CapWallets$Rows", name := "raise", desc := "([III)V" } : Jvm.MethodName) prog_3_method_4_code (3 : Nat) (Option.none : Option Jvm.ClassFile.FieldType)) ∈ wT := w_tab (List.mem_append_right _ (List.mem_append_left _ (List.mem_of_getElem? (i := 7) rfl))) rfl
theorem wm_1_70 : (Jvm.Cond.instanceMethod ({ cls := "CapWallets$TextReader", name := "endsTap", desc := "(I)Z" } : Jvm.MethodName)) ∈ wT := w_tab (List.mem_append_right _ (List.mem_append_left _ (List.mem_of_getElem? (i := 70) rfl))) rfl
theorem wm_1_71 : (Jvm.Cond.code ({ cls := "CapWallets$TextReader", name := "endsTap", desc := "(I)Z" } : Jvm.MethodName) prog_8_method_8_code (2 : Nat) (Option.some Jvm.ClassFile.FieldType.boolean)) ∈ wT := w_tab (List.mem_append_right _ (List.mem_append_left _ (List.mem_of_getElem? (i := 71) rfl))) rfl
theorem wm_1_72 : (Jvm.Cond.methodLink "CapWallets$TextReader" (65 : Nat) ({ cls := "CapWallets$Tap", name := "make", desc := "(IIIIZ)I" } : Jvm.MethodName)) ∈ wT := w_tab (List.mem_append_right _ (List.mem_append_left _ (List.mem_of_getElem? (i := 72) rfl))) rfl
theorem wm_1_73 : (Jvm.Cond.static ({ cls := "CapWallets$Tap", name := "make", desc := "(IIIIZ)I" } : Jvm.MethodName)) ∈ wT := w_tab (List.mem_append_right _ (List.mem_append_left _ (List.mem_of_getElem? (i := 73) rfl))) rfl
theorem wm_1_74 : (Jvm.Cond.code ({ cls := "CapWallets$Tap", name := "make", desc := "(IIIIZ)I" } : Jvm.MethodName) prog_6_method_2_code (5 : Nat) (Option.some Jvm.ClassFile.FieldType.int)) ∈ wT := w_tab (List.mem_append_right _ (List.mem_append_left _ (List.mem_of_getElem? (i := 74) rfl))) rfl
theorem wm_1_75 : (Jvm.Cond.methodLink "CapWallets$TextReader" (71 : Nat) ({ cls := "CapWallets$Rows", name := "put", desc := "([III)V" } : Jvm.MethodName)) ∈ wT := w_tab (List.mem_append_right _ (List.mem_append_left _ (List.mem_of_getElem? (i := 75) rfl))) rfl
theorem wm_1_76 : (Jvm.Cond.methodLink "CapWalletsLaw" (132 : Nat) ({ cls := "CapWallets", name := "leaky", desc := "()I" } : Jvm.MethodName)) ∈ wT := w_tab (List.mem_append_right _ (List.mem_append_left _ (List.mem_of_getElem? (i := 76) rfl))) rfl
theorem wm_1_77 : (Jvm.Cond.instanceMethod ({ cls := "CapWallets", name := "leaky", desc := "()I" } : Jvm.MethodName)) ∈ wT := w_tab (List.mem_append_right _ (List.mem_append_left _ (List.mem_of_getElem? (i := 77) rfl))) rfl
theorem wm_1_78 : (Jvm.Cond.selects "CapWallets" ({ cls := "CapWallets", name := "leaky", desc := "()I" } : Jvm.MethodName) ({ cls := "CapWallets", name := "leaky", desc := "()I" } : Jvm.MethodName)) ∈ wT := w_tab (List.mem_append_right _ (List.mem_append_left _ (List.mem_of_getElem? (i := 78) rfl))) rfl
theorem wm_1_79 : (Jvm.Cond.code ({ cls := "CapWallets", name := "leaky", desc := "()I" } : Jvm.MethodName) prog_1_method_19_code (5 : Nat) (Option.some Jvm.ClassFile.FieldType.int)) ∈ wT := w_tab (List.mem_append_right _ (List.mem_append_left _ (List.mem_of_getElem? (i := 79) rfl))) rfl
theorem wm_1_8 : (Jvm.Cond.methodLink "CapWallets$Rows" (7 : Nat) ({ cls := "CapWallets$Rows", name := "at", desc := "([II)I" } : Jvm.MethodName)) ∈ wT := w_tab (List.mem_append_right _ (List.mem_append_left _ (List.mem_of_getElem? (i := 8) rfl))) rfl
theorem wm_1_80 : (Jvm.Cond.methodLink "CapWallets" (148 : Nat) ({ cls := "CapWallets$Rows", name := "at", desc := "([II)I" } : Jvm.MethodName)) ∈ wT := w_tab (List.mem_append_right _ (List.mem_append_left _ (List.mem_of_getElem? (i := 80) rfl))) rfl
theorem wm_1_81 : (Jvm.Cond.methodLink "CapWalletsLaw" (136 : Nat) ({ cls := "CapWallets", name := "leastCap", desc := "()I" } : Jvm.MethodName)) ∈ wT := w_tab (List.mem_append_right _ (List.mem_append_left _ (List.mem_of_getElem? (i := 81) rfl))) rfl
theorem wm_1_82 : (Jvm.Cond.instanceMethod ({ cls := "CapWallets", name := "leastCap", desc := "()I" } : Jvm.MethodName)) ∈ wT := w_tab (List.mem_append_right _ (List.mem_append_left _ (List.mem_of_getElem? (i := 82) rfl))) rfl
theorem wm_1_83 : (Jvm.Cond.selects "CapWallets" ({ cls := "CapWallets", name := "leastCap", desc := "()I" } : Jvm.MethodName) ({ cls := "CapWallets", name := "leastCap", desc := "()I" } : Jvm.MethodName)) ∈ wT := w_tab (List.mem_append_right _ (List.mem_append_left _ (List.mem_of_getElem? (i := 83) rfl))) rfl
theorem wm_1_84 : (Jvm.Cond.code ({ cls := "CapWallets", name := "leastCap", desc := "()I" } : Jvm.MethodName) prog_1_method_20_code (4 : Nat) (Option.some Jvm.ClassFile.FieldType.int)) ∈ wT := w_tab (List.mem_append_right _ (List.mem_append_left _ (List.mem_of_getElem? (i := 84) rfl))) rfl
theorem wm_1_85 : (Jvm.Cond.methodLink "CapWallets" (135 : Nat) ({ cls := "CapWallets$Rides", name := "weekCost", desc := "(II)I" } : Jvm.MethodName)) ∈ wT := w_tab (List.mem_append_right _ (List.mem_append_left _ (List.mem_of_getElem? (i := 85) rfl))) rfl
theorem wm_1_86 : (Jvm.Cond.instanceMethod ({ cls := "CapWallets$Rides", name := "weekCost", desc := "(II)I" } : Jvm.MethodName)) ∈ wT := w_tab (List.mem_append_right _ (List.mem_append_left _ (List.mem_of_getElem? (i := 86) rfl))) rfl
theorem wm_1_87 : (Jvm.Cond.selects "CapWallets$Rides" ({ cls := "CapWallets$Rides", name := "weekCost", desc := "(II)I" } : Jvm.MethodName) ({ cls := "CapWallets$Rides", name := "weekCost", desc := "(II)I" } : Jvm.MethodName)) ∈ wT := w_tab (List.mem_append_right _ (List.mem_append_left _ (List.mem_of_getElem? (i := 87) rfl))) rfl
theorem wm_1_88 : (Jvm.Cond.code ({ cls := "CapWallets$Rides", name := "weekCost", desc := "(II)I" } : Jvm.MethodName) prog_2_method_9_code (3 : Nat) (Option.some Jvm.ClassFile.FieldType.int)) ∈ wT := w_tab (List.mem_append_right _ (List.mem_append_left _ (List.mem_of_getElem? (i := 88) rfl))) rfl
theorem wm_1_89 : (Jvm.Cond.methodLink "CapWallets$Rides" (118 : Nat) ({ cls := "CapWallets$Rides", name := "weekDaysCost", desc := "(II)I" } : Jvm.MethodName)) ∈ wT := w_tab (List.mem_append_right _ (List.mem_append_left _ (List.mem_of_getElem? (i := 89) rfl))) rfl
theorem wm_1_9 : (Jvm.Cond.methodLink "CapWallets$Rows" (13 : Nat) ({ cls := "CapWallets$Rows", name := "put", desc := "([III)V" } : Jvm.MethodName)) ∈ wT := w_tab (List.mem_append_right _ (List.mem_append_left _ (List.mem_of_getElem? (i := 9) rfl))) rfl
theorem wm_1_90 : (Jvm.Cond.instanceMethod ({ cls := "CapWallets$Rides", name := "weekDaysCost", desc := "(II)I" } : Jvm.MethodName)) ∈ wT := w_tab (List.mem_append_right _ (List.mem_append_left _ (List.mem_of_getElem? (i := 90) rfl))) rfl
theorem wm_1_91 : (Jvm.Cond.selects "CapWallets$Rides" ({ cls := "CapWallets$Rides", name := "weekDaysCost", desc := "(II)I" } : Jvm.MethodName) ({ cls := "CapWallets$Rides", name := "weekDaysCost", desc := "(II)I" } : Jvm.MethodName)) ∈ wT := w_tab (List.mem_append_right _ (List.mem_append_left _ (List.mem_of_getElem? (i := 91) rfl))) rfl
theorem wm_1_92 : (Jvm.Cond.code ({ cls := "CapWallets$Rides", name := "weekDaysCost", desc := "(II)I" } : Jvm.MethodName) prog_2_method_8_code (5 : Nat) (Option.some Jvm.ClassFile.FieldType.int)) ∈ wT := w_tab (List.mem_append_right _ (List.mem_append_left _ (List.mem_of_getElem? (i := 92) rfl))) rfl
theorem wm_1_93 : (Jvm.Cond.methodLink "CapWallets$Rides" (115 : Nat) ({ cls := "CapWallets$Rides", name := "dayCost", desc := "(II)I" } : Jvm.MethodName)) ∈ wT := w_tab (List.mem_append_right _ (List.mem_append_left _ (List.mem_of_getElem? (i := 93) rfl))) rfl
theorem wm_1_94 : (Jvm.Cond.instanceMethod ({ cls := "CapWallets$Rides", name := "dayCost", desc := "(II)I" } : Jvm.MethodName)) ∈ wT := w_tab (List.mem_append_right _ (List.mem_append_left _ (List.mem_of_getElem? (i := 94) rfl))) rfl
theorem wm_1_95 : (Jvm.Cond.selects "CapWallets$Rides" ({ cls := "CapWallets$Rides", name := "dayCost", desc := "(II)I" } : Jvm.MethodName) ({ cls := "CapWallets$Rides", name := "dayCost", desc := "(II)I" } : Jvm.MethodName)) ∈ wT := w_tab (List.mem_append_right _ (List.mem_append_left _ (List.mem_of_getElem? (i := 95) rfl))) rfl
theorem wm_1_96 : (Jvm.Cond.code ({ cls := "CapWallets$Rides", name := "dayCost", desc := "(II)I" } : Jvm.MethodName) prog_2_method_7_code (3 : Nat) (Option.some Jvm.ClassFile.FieldType.int)) ∈ wT := w_tab (List.mem_append_right _ (List.mem_append_left _ (List.mem_of_getElem? (i := 96) rfl))) rfl
theorem wm_1_97 : (Jvm.Cond.methodLink "CapWallets$Rides" (112 : Nat) ({ cls := "java/lang/Math", name := "min", desc := "(II)I" } : Jvm.MethodName)) ∈ wT := w_tab (List.mem_append_right _ (List.mem_append_left _ (List.mem_of_getElem? (i := 97) rfl))) rfl
theorem wm_1_98 : (Jvm.Cond.static ({ cls := "java/lang/Math", name := "min", desc := "(II)I" } : Jvm.MethodName)) ∈ wT := w_tab (List.mem_append_right _ (List.mem_append_left _ (List.mem_of_getElem? (i := 98) rfl))) rfl
theorem wm_1_99 : (Jvm.Cond.code ({ cls := "java/lang/Math", name := "min", desc := "(II)I" } : Jvm.MethodName) prog_16_method_69_code (2 : Nat) (Option.some Jvm.ClassFile.FieldType.int)) ∈ wT := w_tab (List.mem_append_right _ (List.mem_append_left _ (List.mem_of_getElem? (i := 99) rfl))) rfl
theorem wm_2_101 : (Jvm.Cond.instanceMethod ({ cls := "CapWallets", name := "isPlace", desc := "(I)Z" } : Jvm.MethodName)) ∈ wT := w_tab (List.mem_append_right _ (List.mem_append_right _ (List.mem_append_left _ (List.mem_of_getElem? (i := 101) rfl)))) rfl
theorem wm_2_102 : (Jvm.Cond.code ({ cls := "CapWallets", name := "isPlace", desc := "(I)Z" } : Jvm.MethodName) prog_1_method_26_code (2 : Nat) (Option.some Jvm.ClassFile.FieldType.boolean)) ∈ wT := w_tab (List.mem_append_right _ (List.mem_append_right _ (List.mem_append_left _ (List.mem_of_getElem? (i := 102) rfl)))) rfl
theorem wm_2_103 : (Jvm.Cond.classLink "CapWallets" (108 : Nat) "java/lang/IndexOutOfBoundsException") ∈ wT := w_tab (List.mem_append_right _ (List.mem_append_right _ (List.mem_append_left _ (List.mem_of_getElem? (i := 103) rfl)))) rfl
theorem wm_2_104 : (Jvm.Cond.instantiable "java/lang/IndexOutOfBoundsException" (6 : Nat)) ∈ wT := w_tab (List.mem_append_right _ (List.mem_append_right _ (List.mem_append_left _ (List.mem_of_getElem? (i := 104) rfl)))) rfl
theorem wm_2_113 : (Jvm.Cond.methodLink "CapWallets" (112 : Nat) ({ cls := "java/lang/IndexOutOfBoundsException", name := "<init>", desc := "(Ljava/lang/String;)V" } : Jvm.MethodName)) ∈ wT := w_tab (List.mem_append_right _ (List.mem_append_right _ (List.mem_append_left _ (List.mem_of_getElem? (i := 113) rfl)))) rfl
theorem wm_2_119 : (Jvm.Cond.methodLink "CapWallets" (113 : Nat) ({ cls := "CapWallets$TapRow", name := "takeAway", desc := "(I)V" } : Jvm.MethodName)) ∈ wT := w_tab (List.mem_append_right _ (List.mem_append_right _ (List.mem_append_left _ (List.mem_of_getElem? (i := 119) rfl)))) rfl
theorem wm_2_120 : (Jvm.Cond.instanceMethod ({ cls := "CapWallets$TapRow", name := "takeAway", desc := "(I)V" } : Jvm.MethodName)) ∈ wT := w_tab (List.mem_append_right _ (List.mem_append_right _ (List.mem_append_left _ (List.mem_of_getElem? (i := 120) rfl)))) rfl
theorem wm_2_121 : (Jvm.Cond.selects "CapWallets$TapRow" ({ cls := "CapWallets$TapRow", name := "takeAway", desc := "(I)V" } : Jvm.MethodName) ({ cls := "CapWallets$TapRow", name := "takeAway", desc := "(I)V" } : Jvm.MethodName)) ∈ wT := w_tab (List.mem_append_right _ (List.mem_append_right _ (List.mem_append_left _ (List.mem_of_getElem? (i := 121) rfl)))) rfl
theorem wm_2_122 : (Jvm.Cond.code ({ cls := "CapWallets$TapRow", name := "takeAway", desc := "(I)V" } : Jvm.MethodName) prog_7_method_4_code (3 : Nat) (Option.none : Option Jvm.ClassFile.FieldType)) ∈ wT := w_tab (List.mem_append_right _ (List.mem_append_right _ (List.mem_append_left _ (List.mem_of_getElem? (i := 122) rfl)))) rfl
theorem wm_2_123 : (Jvm.Cond.methodLink "CapWalletsLaw" (82 : Nat) ({ cls := "CapWalletsLaw", name := "claim", desc := "(LCapWallets;III[J)I" } : Jvm.MethodName)) ∈ wT := w_tab (List.mem_append_right _ (List.mem_append_right _ (List.mem_append_left _ (List.mem_of_getElem? (i := 123) rfl)))) rfl
theorem wm_2_124 : (Jvm.Cond.static ({ cls := "CapWalletsLaw", name := "claim", desc := "(LCapWallets;III[J)I" } : Jvm.MethodName)) ∈ wT := w_tab (List.mem_append_right _ (List.mem_append_right _ (List.mem_append_left _ (List.mem_of_getElem? (i := 124) rfl)))) rfl
theorem wm_2_125 : (Jvm.Cond.codeWith ({ cls := "CapWalletsLaw", name := "claim", desc := "(LCapWallets;III[J)I" } : Jvm.MethodName) method_5_code (6 : Nat) (Option.some Jvm.ClassFile.FieldType.int) [((0 : Nat), (12 : Nat), (15 : Nat), (13 : Nat))]) ∈ wT := w_tab (List.mem_append_right _ (List.mem_append_right _ (List.mem_append_left _ (List.mem_of_getElem? (i := 125) rfl)))) rfl
theorem wm_2_126 : (Jvm.Cond.methodLink "CapWalletsLaw" (23 : Nat) ({ cls := "CapWallets", name := "claim", desc := "(III)I" } : Jvm.MethodName)) ∈ wT := w_tab (List.mem_append_right _ (List.mem_append_right _ (List.mem_append_left _ (List.mem_of_getElem? (i := 126) rfl)))) rfl
theorem wm_2_127 : (Jvm.Cond.instanceMethod ({ cls := "CapWallets", name := "claim", desc := "(III)I" } : Jvm.MethodName)) ∈ wT := w_tab (List.mem_append_right _ (List.mem_append_right _ (List.mem_append_left _ (List.mem_of_getElem? (i := 127) rfl)))) rfl
theorem wm_2_128 : (Jvm.Cond.selects "CapWallets" ({ cls := "CapWallets", name := "claim", desc := "(III)I" } : Jvm.MethodName) ({ cls := "CapWallets", name := "claim", desc := "(III)I" } : Jvm.MethodName)) ∈ wT := w_tab (List.mem_append_right _ (List.mem_append_right _ (List.mem_append_left _ (List.mem_of_getElem? (i := 128) rfl)))) rfl
theorem wm_2_129 : (Jvm.Cond.code ({ cls := "CapWallets", name := "claim", desc := "(III)I" } : Jvm.MethodName) prog_1_method_4_code (5 : Nat) (Option.some Jvm.ClassFile.FieldType.int)) ∈ wT := w_tab (List.mem_append_right _ (List.mem_append_right _ (List.mem_append_left _ (List.mem_of_getElem? (i := 129) rfl)))) rfl
theorem wm_2_131 : (Jvm.Cond.methodLink "CapWallets" (119 : Nat) ({ cls := "CapWallets", name := "refusal", desc := "(III)I" } : Jvm.MethodName)) ∈ wT := w_tab (List.mem_append_right _ (List.mem_append_right _ (List.mem_append_left _ (List.mem_of_getElem? (i := 131) rfl)))) rfl
theorem wm_2_133 : (Jvm.Cond.instanceMethod ({ cls := "CapWallets", name := "refusal", desc := "(III)I" } : Jvm.MethodName)) ∈ wT := w_tab (List.mem_append_right _ (List.mem_append_right _ (List.mem_append_left _ (List.mem_of_getElem? (i := 133) rfl)))) rfl
theorem wm_2_134 : (Jvm.Cond.code ({ cls := "CapWallets", name := "refusal", desc := "(III)I" } : Jvm.MethodName) prog_1_method_28_code (5 : Nat) (Option.some Jvm.ClassFile.FieldType.int)) ∈ wT := w_tab (List.mem_append_right _ (List.mem_append_right _ (List.mem_append_left _ (List.mem_of_getElem? (i := 134) rfl)))) rfl
theorem wm_2_135 : (Jvm.Cond.methodLink "CapWallets" (280 : Nat) ({ cls := "CapWallets$Tap", name := "missingOf", desc := "(III)I" } : Jvm.MethodName)) ∈ wT := w_tab (List.mem_append_right _ (List.mem_append_right _ (List.mem_append_left _ (List.mem_of_getElem? (i := 135) rfl)))) rfl
theorem wm_2_136 : (Jvm.Cond.static ({ cls := "CapWallets$Tap", name := "missingOf", desc := "(III)I" } : Jvm.MethodName)) ∈ wT := w_tab (List.mem_append_right _ (List.mem_append_right _ (List.mem_append_left _ (List.mem_of_getElem? (i := 136) rfl)))) rfl
theorem wm_2_137 : (Jvm.Cond.code ({ cls := "CapWallets$Tap", name := "missingOf", desc := "(III)I" } : Jvm.MethodName) prog_6_method_3_code (3 : Nat) (Option.some Jvm.ClassFile.FieldType.int)) ∈ wT := w_tab (List.mem_append_right _ (List.mem_append_right _ (List.mem_append_left _ (List.mem_of_getElem? (i := 137) rfl)))) rfl
theorem wm_2_138 : (Jvm.Cond.methodLink "CapWallets$Tap" (11 : Nat) ({ cls := "CapWallets$Tap", name := "walletOf", desc := "(I)I" } : Jvm.MethodName)) ∈ wT := w_tab (List.mem_append_right _ (List.mem_append_right _ (List.mem_append_left _ (List.mem_of_getElem? (i := 138) rfl)))) rfl
theorem wm_2_139 : (Jvm.Cond.methodLink "CapWallets$Tap" (18 : Nat) ({ cls := "CapWallets$Tap", name := "isIn", desc := "(I)Z" } : Jvm.MethodName)) ∈ wT := w_tab (List.mem_append_right _ (List.mem_append_right _ (List.mem_append_left _ (List.mem_of_getElem? (i := 139) rfl)))) rfl
theorem wm_2_140 : (Jvm.Cond.methodLink "CapWallets$Tap" (22 : Nat) ({ cls := "CapWallets$Tap", name := "make", desc := "(IIIIZ)I" } : Jvm.MethodName)) ∈ wT := w_tab (List.mem_append_right _ (List.mem_append_right _ (List.mem_append_left _ (List.mem_of_getElem? (i := 140) rfl)))) rfl
theorem wm_2_141 : (Jvm.Cond.methodLink "CapWallets" (283 : Nat) ({ cls := "CapWallets", name := "wouldRideWith", desc := "(II)Z" } : Jvm.MethodName)) ∈ wT := w_tab (List.mem_append_right _ (List.mem_append_right _ (List.mem_append_left _ (List.mem_of_getElem? (i := 141) rfl)))) rfl
theorem wm_2_143 : (Jvm.Cond.instanceMethod ({ cls := "CapWallets", name := "wouldRideWith", desc := "(II)Z" } : Jvm.MethodName)) ∈ wT := w_tab (List.mem_append_right _ (List.mem_append_right _ (List.mem_append_left _ (List.mem_of_getElem? (i := 143) rfl)))) rfl
theorem wm_2_144 : (Jvm.Cond.code ({ cls := "CapWallets", name := "wouldRideWith", desc := "(II)Z" } : Jvm.MethodName) prog_1_method_29_code (5 : Nat) (Option.some Jvm.ClassFile.FieldType.boolean)) ∈ wT := w_tab (List.mem_append_right _ (List.mem_append_right _ (List.mem_append_left _ (List.mem_of_getElem? (i := 144) rfl)))) rfl
theorem wm_2_145 : (Jvm.Cond.methodLink "CapWallets" (123 : Nat) ({ cls := "CapWallets", name := "fillIn", desc := "(III)V" } : Jvm.MethodName)) ∈ wT := w_tab (List.mem_append_right _ (List.mem_append_right _ (List.mem_append_left _ (List.mem_of_getElem? (i := 145) rfl)))) rfl
theorem wm_2_147 : (Jvm.Cond.instanceMethod ({ cls := "CapWallets", name := "fillIn", desc := "(III)V" } : Jvm.MethodName)) ∈ wT := w_tab (List.mem_append_right _ (List.mem_append_right _ (List.mem_append_left _ (List.mem_of_getElem? (i := 147) rfl)))) rfl
theorem wm_2_148 : (Jvm.Cond.code ({ cls := "CapWallets", name := "fillIn", desc := "(III)V" } : Jvm.MethodName) prog_1_method_30_code (5 : Nat) (Option.none : Option Jvm.ClassFile.FieldType)) ∈ wT := w_tab (List.mem_append_right _ (List.mem_append_right _ (List.mem_append_left _ (List.mem_of_getElem? (i := 148) rfl)))) rfl
theorem wm_2_149 : (Jvm.Cond.methodLink "CapWallets" (289 : Nat) ({ cls := "CapWallets$Rows", name := "raise", desc := "([III)V" } : Jvm.MethodName)) ∈ wT := w_tab (List.mem_append_right _ (List.mem_append_right _ (List.mem_append_left _ (List.mem_of_getElem? (i := 149) rfl)))) rfl
theorem wm_2_150 : (Jvm.Cond.methodLink "CapWalletsLaw" (86 : Nat) ({ cls := "CapWalletsLaw", name := "settle", desc := "(LCapWallets;I[J)I" } : Jvm.MethodName)) ∈ wT := w_tab (List.mem_append_right _ (List.mem_append_right _ (List.mem_append_left _ (List.mem_of_getElem? (i := 150) rfl)))) rfl
theorem wm_2_151 : (Jvm.Cond.static ({ cls := "CapWalletsLaw", name := "settle", desc := "(LCapWallets;I[J)I" } : Jvm.MethodName)) ∈ wT := w_tab (List.mem_append_right _ (List.mem_append_right _ (List.mem_append_left _ (List.mem_of_getElem? (i := 151) rfl)))) rfl
theorem wm_2_152 : (Jvm.Cond.codeWith ({ cls := "CapWalletsLaw", name := "settle", desc := "(LCapWallets;I[J)I" } : Jvm.MethodName) method_6_code (4 : Nat) (Option.some Jvm.ClassFile.FieldType.int) [((0 : Nat), (9 : Nat), (12 : Nat), (13 : Nat))]) ∈ wT := w_tab (List.mem_append_right _ (List.mem_append_right _ (List.mem_append_left _ (List.mem_of_getElem? (i := 152) rfl)))) rfl
theorem wm_2_153 : (Jvm.Cond.methodLink "CapWalletsLaw" (27 : Nat) ({ cls := "CapWallets", name := "settle", desc := "(I)I" } : Jvm.MethodName)) ∈ wT := w_tab (List.mem_append_right _ (List.mem_append_right _ (List.mem_append_left _ (List.mem_of_getElem? (i := 153) rfl)))) rfl
theorem wm_2_154 : (Jvm.Cond.instanceMethod ({ cls := "CapWallets", name := "settle", desc := "(I)I" } : Jvm.MethodName)) ∈ wT := w_tab (List.mem_append_right _ (List.mem_append_right _ (List.mem_append_left _ (List.mem_of_getElem? (i := 154) rfl)))) rfl
theorem wm_2_155 : (Jvm.Cond.selects "CapWallets" ({ cls := "CapWallets", name := "settle", desc := "(I)I" } : Jvm.MethodName) ({ cls := "CapWallets", name := "settle", desc := "(I)I" } : Jvm.MethodName)) ∈ wT := w_tab (List.mem_append_right _ (List.mem_append_right _ (List.mem_append_left _ (List.mem_of_getElem? (i := 155) rfl)))) rfl
theorem wm_2_156 : (Jvm.Cond.code ({ cls := "CapWallets", name := "settle", desc := "(I)I" } : Jvm.MethodName) prog_1_method_5_code (4 : Nat) (Option.some Jvm.ClassFile.FieldType.int)) ∈ wT := w_tab (List.mem_append_right _ (List.mem_append_right _ (List.mem_append_left _ (List.mem_of_getElem? (i := 156) rfl)))) rfl
theorem wm_2_158 : (Jvm.Cond.methodLink "CapWallets" (139 : Nat) ({ cls := "CapWallets$State", name := "charge", desc := "(III)I" } : Jvm.MethodName)) ∈ wT := w_tab (List.mem_append_right _ (List.mem_append_right _ (List.mem_append_left _ (List.mem_of_getElem? (i := 158) rfl)))) rfl
theorem wm_2_159 : (Jvm.Cond.instanceMethod ({ cls := "CapWallets$State", name := "charge", desc := "(III)I" } : Jvm.MethodName)) ∈ wT := w_tab (List.mem_append_right _ (List.mem_append_right _ (List.mem_append_left _ (List.mem_of_getElem? (i := 159) rfl)))) rfl
theorem wm_2_160 : (Jvm.Cond.selects "CapWallets$State" ({ cls := "CapWallets$State", name := "charge", desc := "(III)I" } : Jvm.MethodName) ({ cls := "CapWallets$State", name := "charge", desc := "(III)I" } : Jvm.MethodName)) ∈ wT := w_tab (List.mem_append_right _ (List.mem_append_right _ (List.mem_append_left _ (List.mem_of_getElem? (i := 160) rfl)))) rfl
theorem wm_2_161 : (Jvm.Cond.code ({ cls := "CapWallets$State", name := "charge", desc := "(III)I" } : Jvm.MethodName) prog_5_method_3_code (6 : Nat) (Option.some Jvm.ClassFile.FieldType.int)) ∈ wT := w_tab (List.mem_append_right _ (List.mem_append_right _ (List.mem_append_left _ (List.mem_of_getElem? (i := 161) rfl)))) rfl
theorem wm_2_163 : (Jvm.Cond.methodLink "CapWallets$State" (72 : Nat) ({ cls := "CapWallets$Rows", name := "put", desc := "([III)V" } : Jvm.MethodName)) ∈ wT := w_tab (List.mem_append_right _ (List.mem_append_right _ (List.mem_append_left _ (List.mem_of_getElem? (i := 163) rfl)))) rfl
theorem wm_2_164 : (Jvm.Cond.methodLink "CapWallets$State" (76 : Nat) ({ cls := "CapWallets$Rows", name := "raise", desc := "([III)V" } : Jvm.MethodName)) ∈ wT := w_tab (List.mem_append_right _ (List.mem_append_right _ (List.mem_append_left _ (List.mem_of_getElem? (i := 164) rfl)))) rfl
theorem wm_2_165 : (Jvm.Cond.methodLink "CapWallets$State" (79 : Nat) ({ cls := "CapWallets$State", name := "enter", desc := "([III)V" } : Jvm.MethodName)) ∈ wT := w_tab (List.mem_append_right _ (List.mem_append_right _ (List.mem_append_left _ (List.mem_of_getElem? (i := 165) rfl)))) rfl
theorem wm_2_166 : (Jvm.Cond.static ({ cls := "CapWallets$State", name := "enter", desc := "([III)V" } : Jvm.MethodName)) ∈ wT := w_tab (List.mem_append_right _ (List.mem_append_right _ (List.mem_append_left _ (List.mem_of_getElem? (i := 166) rfl)))) rfl
theorem wm_2_167 : (Jvm.Cond.code ({ cls := "CapWallets$State", name := "enter", desc := "([III)V" } : Jvm.MethodName) prog_5_method_4_code (5 : Nat) (Option.none : Option Jvm.ClassFile.FieldType)) ∈ wT := w_tab (List.mem_append_right _ (List.mem_append_right _ (List.mem_append_left _ (List.mem_of_getElem? (i := 167) rfl)))) rfl
theorem wm_2_168 : (Jvm.Cond.constant "CapWallets$State" (82 : Nat) (100000 : Int32)) ∈ wT := w_tab (List.mem_append_right _ (List.mem_append_right _ (List.mem_append_left _ (List.mem_of_getElem? (i := 168) rfl)))) rfl
theorem wm_2_169 : (Jvm.Cond.methodLink "CapWalletsLaw" (89 : Nat) ({ cls := "CapWalletsLaw", name := "set", desc := "(LCapWallets;II[J)I" } : Jvm.MethodName)) ∈ wT := w_tab (List.mem_append_right _ (List.mem_append_right _ (List.mem_append_left _ (List.mem_of_getElem? (i := 169) rfl)))) rfl
theorem wm_2_170 : (Jvm.Cond.static ({ cls := "CapWalletsLaw", name := "set", desc := "(LCapWallets;II[J)I" } : Jvm.MethodName)) ∈ wT := w_tab (List.mem_append_right _ (List.mem_append_right _ (List.mem_append_left _ (List.mem_of_getElem? (i := 170) rfl)))) rfl
theorem wm_2_171 : (Jvm.Cond.codeWith ({ cls := "CapWalletsLaw", name := "set", desc := "(LCapWallets;II[J)I" } : Jvm.MethodName) method_7_code (5 : Nat) (Option.some Jvm.ClassFile.FieldType.int) [((0 : Nat), (10 : Nat), (13 : Nat), (21 : Nat)), ((0 : Nat), (10 : Nat), (17 : Nat), (13 : Nat))]) ∈ wT := w_tab (List.mem_append_right _ (List.mem_append_right _ (List.mem_append_left _ (List.mem_of_getElem? (i := 171) rfl)))) rfl
theorem wm_2_172 : (Jvm.Cond.methodLink "CapWalletsLaw" (30 : Nat) ({ cls := "CapWallets", name := "set", desc := "(II)I" } : Jvm.MethodName)) ∈ wT := w_tab (List.mem_append_right _ (List.mem_append_right _ (List.mem_append_left _ (List.mem_of_getElem? (i := 172) rfl)))) rfl
theorem wm_2_173 : (Jvm.Cond.instanceMethod ({ cls := "CapWallets", name := "set", desc := "(II)I" } : Jvm.MethodName)) ∈ wT := w_tab (List.mem_append_right _ (List.mem_append_right _ (List.mem_append_left _ (List.mem_of_getElem? (i := 173) rfl)))) rfl
theorem wm_2_174 : (Jvm.Cond.selects "CapWallets" ({ cls := "CapWallets", name := "set", desc := "(II)I" } : Jvm.MethodName) ({ cls := "CapWallets", name := "set", desc := "(II)I" } : Jvm.MethodName)) ∈ wT := w_tab (List.mem_append_right _ (List.mem_append_right _ (List.mem_append_left _ (List.mem_of_getElem? (i := 174) rfl)))) rfl
theorem wm_2_175 : (Jvm.Cond.code ({ cls := "CapWallets", name := "set", desc := "(II)I" } : Jvm.MethodName) prog_1_method_6_code (4 : Nat) (Option.some Jvm.ClassFile.FieldType.int)) ∈ wT := w_tab (List.mem_append_right _ (List.mem_append_right _ (List.mem_append_left _ (List.mem_of_getElem? (i := 175) rfl)))) rfl
theorem wm_2_177 : (Jvm.Cond.fieldLink "CapWallets" (145 : Nat) "CapWallets" "LEAST_VALUES" "[I") ∈ wT := w_tab (List.mem_append_right _ (List.mem_append_right _ (List.mem_append_left _ (List.mem_of_getElem? (i := 177) rfl)))) rfl
theorem wm_2_179 : (Jvm.Cond.fieldLink "CapWallets" (154 : Nat) "CapWallets" "MOST_VALUES" "[I") ∈ wT := w_tab (List.mem_append_right _ (List.mem_append_right _ (List.mem_append_left _ (List.mem_of_getElem? (i := 179) rfl)))) rfl
theorem wm_2_182 : (Jvm.Cond.methodLink "CapWallets" (159 : Nat) ({ cls := "CapWallets$Rows", name := "put", desc := "([III)V" } : Jvm.MethodName)) ∈ wT := w_tab (List.mem_append_right _ (List.mem_append_right _ (List.mem_append_left _ (List.mem_of_getElem? (i := 182) rfl)))) rfl
theorem wm_2_183 : (Jvm.Cond.methodLink "CapWalletsLaw" (93 : Nat) ({ cls := "CapWalletsLaw", name := "append", desc := "(LCapWallets;I[J)I" } : Jvm.MethodName)) ∈ wT := w_tab (List.mem_append_right _ (List.mem_append_right _ (List.mem_append_left _ (List.mem_of_getElem? (i := 183) rfl)))) rfl
theorem wm_2_184 : (Jvm.Cond.static ({ cls := "CapWalletsLaw", name := "append", desc := "(LCapWallets;I[J)I" } : Jvm.MethodName)) ∈ wT := w_tab (List.mem_append_right _ (List.mem_append_right _ (List.mem_append_left _ (List.mem_of_getElem? (i := 184) rfl)))) rfl
theorem wm_2_185 : (Jvm.Cond.codeWith ({ cls := "CapWalletsLaw", name := "append", desc := "(LCapWallets;I[J)I" } : Jvm.MethodName) method_8_code (4 : Nat) (Option.some Jvm.ClassFile.FieldType.int) [((0 : Nat), (9 : Nat), (12 : Nat), (13 : Nat)), ((0 : Nat), (9 : Nat), (15 : Nat), (15 : Nat))]) ∈ wT := w_tab (List.mem_append_right _ (List.mem_append_right _ (List.mem_append_left _ (List.mem_of_getElem? (i := 185) rfl)))) rfl
theorem wm_2_186 : (Jvm.Cond.methodLink "CapWalletsLaw" (34 : Nat) ({ cls := "CapWallets", name := "append", desc := "(I)I" } : Jvm.MethodName)) ∈ wT := w_tab (List.mem_append_right _ (List.mem_append_right _ (List.mem_append_left _ (List.mem_of_getElem? (i := 186) rfl)))) rfl
theorem wm_2_187 : (Jvm.Cond.instanceMethod ({ cls := "CapWallets", name := "append", desc := "(I)I" } : Jvm.MethodName)) ∈ wT := w_tab (List.mem_append_right _ (List.mem_append_right _ (List.mem_append_left _ (List.mem_of_getElem? (i := 187) rfl)))) rfl
theorem wm_2_188 : (Jvm.Cond.selects "CapWallets" ({ cls := "CapWallets", name := "append", desc := "(I)I" } : Jvm.MethodName) ({ cls := "CapWallets", name := "append", desc := "(I)I" } : Jvm.MethodName)) ∈ wT := w_tab (List.mem_append_right _ (List.mem_append_right _ (List.mem_append_left _ (List.mem_of_getElem? (i := 188) rfl)))) rfl
theorem wm_2_189 : (Jvm.Cond.code ({ cls := "CapWallets", name := "append", desc := "(I)I" } : Jvm.MethodName) prog_1_method_7_code (2 : Nat) (Option.some Jvm.ClassFile.FieldType.int)) ∈ wT := w_tab (List.mem_append_right _ (List.mem_append_right _ (List.mem_append_left _ (List.mem_of_getElem? (i := 189) rfl)))) rfl
theorem wm_2_192 : (Jvm.Cond.methodLink "CapWalletsLaw" (104 : Nat) ({ cls := "CapWalletsLaw", name := "load", desc := "(LCapWallets;[J)I" } : Jvm.MethodName)) ∈ wT := w_tab (List.mem_append_right _ (List.mem_append_right _ (List.mem_append_left _ (List.mem_of_getElem? (i := 192) rfl)))) rfl
theorem wm_2_193 : (Jvm.Cond.static ({ cls := "CapWalletsLaw", name := "load", desc := "(LCapWallets;[J)I" } : Jvm.MethodName)) ∈ wT := w_tab (List.mem_append_right _ (List.mem_append_right _ (List.mem_append_left _ (List.mem_of_getElem? (i := 193) rfl)))) rfl
theorem wm_2_194 : (Jvm.Cond.codeWith ({ cls := "CapWalletsLaw", name := "load", desc := "(LCapWallets;[J)I" } : Jvm.MethodName) method_9_code (3 : Nat) (Option.some Jvm.ClassFile.FieldType.int) [((0 : Nat), (8 : Nat), (11 : Nat), (13 : Nat))]) ∈ wT := w_tab (List.mem_append_right _ (List.mem_append_right _ (List.mem_append_left _ (List.mem_of_getElem? (i := 194) rfl)))) rfl
theorem wm_2_195 : (Jvm.Cond.methodLink "CapWalletsLaw" (37 : Nat) ({ cls := "CapWallets", name := "load", desc := "()I" } : Jvm.MethodName)) ∈ wT := w_tab (List.mem_append_right _ (List.mem_append_right _ (List.mem_append_left _ (List.mem_of_getElem? (i := 195) rfl)))) rfl
theorem wm_2_196 : (Jvm.Cond.instanceMethod ({ cls := "CapWallets", name := "load", desc := "()I" } : Jvm.MethodName)) ∈ wT := w_tab (List.mem_append_right _ (List.mem_append_right _ (List.mem_append_left _ (List.mem_of_getElem? (i := 196) rfl)))) rfl
theorem wm_2_197 : (Jvm.Cond.selects "CapWallets" ({ cls := "CapWallets", name := "load", desc := "()I" } : Jvm.MethodName) ({ cls := "CapWallets", name := "load", desc := "()I" } : Jvm.MethodName)) ∈ wT := w_tab (List.mem_append_right _ (List.mem_append_right _ (List.mem_append_left _ (List.mem_of_getElem? (i := 197) rfl)))) rfl
theorem wm_2_198 : (Jvm.Cond.code ({ cls := "CapWallets", name := "load", desc := "()I" } : Jvm.MethodName) prog_1_method_10_code (2 : Nat) (Option.some Jvm.ClassFile.FieldType.int)) ∈ wT := w_tab (List.mem_append_right _ (List.mem_append_right _ (List.mem_append_left _ (List.mem_of_getElem? (i := 198) rfl)))) rfl
theorem wm_2_199 : (Jvm.Cond.methodLink "CapWallets" (170 : Nat) ({ cls := "CapWallets$TextReader", name := "isWhole", desc := "()Z" } : Jvm.MethodName)) ∈ wT := w_tab (List.mem_append_right _ (List.mem_append_right _ (List.mem_append_left _ (List.mem_of_getElem? (i := 199) rfl)))) rfl
theorem wm_2_200 : (Jvm.Cond.instanceMethod ({ cls := "CapWallets$TextReader", name := "isWhole", desc := "()Z" } : Jvm.MethodName)) ∈ wT := w_tab (List.mem_append_right _ (List.mem_append_right _ (List.mem_append_left _ (List.mem_of_getElem? (i := 200) rfl)))) rfl
theorem wm_2_201 : (Jvm.Cond.selects "CapWallets$TextReader" ({ cls := "CapWallets$TextReader", name := "isWhole", desc := "()Z" } : Jvm.MethodName) ({ cls := "CapWallets$TextReader", name := "isWhole", desc := "()Z" } : Jvm.MethodName)) ∈ wT := w_tab (List.mem_append_right _ (List.mem_append_right _ (List.mem_append_left _ (List.mem_of_getElem? (i := 201) rfl)))) rfl
theorem wm_2_202 : (Jvm.Cond.code ({ cls := "CapWallets$TextReader", name := "isWhole", desc := "()Z" } : Jvm.MethodName) prog_8_method_3_code (1 : Nat) (Option.some Jvm.ClassFile.FieldType.boolean)) ∈ wT := w_tab (List.mem_append_right _ (List.mem_append_right _ (List.mem_append_left _ (List.mem_of_getElem? (i := 202) rfl)))) rfl
theorem wm_2_204 : (Jvm.Cond.methodLink "CapWalletsLaw" (108 : Nat) ({ cls := "CapWalletsLaw", name := "undo", desc := "(LCapWallets;[J)I" } : Jvm.MethodName)) ∈ wT := w_tab (List.mem_append_right _ (List.mem_append_right _ (List.mem_append_left _ (List.mem_of_getElem? (i := 204) rfl)))) rfl
theorem wm_2_205 : (Jvm.Cond.static ({ cls := "CapWalletsLaw", name := "undo", desc := "(LCapWallets;[J)I" } : Jvm.MethodName)) ∈ wT := w_tab (List.mem_append_right _ (List.mem_append_right _ (List.mem_append_left _ (List.mem_of_getElem? (i := 205) rfl)))) rfl
theorem wm_2_206 : (Jvm.Cond.codeWith ({ cls := "CapWalletsLaw", name := "undo", desc := "(LCapWallets;[J)I" } : Jvm.MethodName) method_10_code (3 : Nat) (Option.some Jvm.ClassFile.FieldType.int) [((0 : Nat), (8 : Nat), (11 : Nat), (15 : Nat))]) ∈ wT := w_tab (List.mem_append_right _ (List.mem_append_right _ (List.mem_append_left _ (List.mem_of_getElem? (i := 206) rfl)))) rfl
theorem wm_2_207 : (Jvm.Cond.methodLink "CapWalletsLaw" (41 : Nat) ({ cls := "CapWallets", name := "undo", desc := "()I" } : Jvm.MethodName)) ∈ wT := w_tab (List.mem_append_right _ (List.mem_append_right _ (List.mem_append_left _ (List.mem_of_getElem? (i := 207) rfl)))) rfl
theorem wm_2_208 : (Jvm.Cond.instanceMethod ({ cls := "CapWallets", name := "undo", desc := "()I" } : Jvm.MethodName)) ∈ wT := w_tab (List.mem_append_right _ (List.mem_append_right _ (List.mem_append_left _ (List.mem_of_getElem? (i := 208) rfl)))) rfl
theorem wm_2_209 : (Jvm.Cond.selects "CapWallets" ({ cls := "CapWallets", name := "undo", desc := "()I" } : Jvm.MethodName) ({ cls := "CapWallets", name := "undo", desc := "()I" } : Jvm.MethodName)) ∈ wT := w_tab (List.mem_append_right _ (List.mem_append_right _ (List.mem_append_left _ (List.mem_of_getElem? (i := 209) rfl)))) rfl
theorem wm_2_210 : (Jvm.Cond.code ({ cls := "CapWallets", name := "undo", desc := "()I" } : Jvm.MethodName) prog_1_method_11_code (1 : Nat) (Option.some Jvm.ClassFile.FieldType.int)) ∈ wT := w_tab (List.mem_append_right _ (List.mem_append_right _ (List.mem_append_left _ (List.mem_of_getElem? (i := 210) rfl)))) rfl
theorem wm_2_212 : (Jvm.Cond.methodLink "CapWallets" (184 : Nat) ({ cls := "CapWallets$Saves", name := "popInto", desc := "(LCapWallets$State;)V" } : Jvm.MethodName)) ∈ wT := w_tab (List.mem_append_right _ (List.mem_append_right _ (List.mem_append_left _ (List.mem_of_getElem? (i := 212) rfl)))) rfl
theorem wm_2_213 : (Jvm.Cond.instanceMethod ({ cls := "CapWallets$Saves", name := "popInto", desc := "(LCapWallets$State;)V" } : Jvm.MethodName)) ∈ wT := w_tab (List.mem_append_right _ (List.mem_append_right _ (List.mem_append_left _ (List.mem_of_getElem? (i := 213) rfl)))) rfl
theorem wm_2_214 : (Jvm.Cond.selects "CapWallets$Saves" ({ cls := "CapWallets$Saves", name := "popInto", desc := "(LCapWallets$State;)V" } : Jvm.MethodName) ({ cls := "CapWallets$Saves", name := "popInto", desc := "(LCapWallets$State;)V" } : Jvm.MethodName)) ∈ wT := w_tab (List.mem_append_right _ (List.mem_append_right _ (List.mem_append_left _ (List.mem_of_getElem? (i := 214) rfl)))) rfl
theorem wm_2_215 : (Jvm.Cond.code ({ cls := "CapWallets$Saves", name := "popInto", desc := "(LCapWallets$State;)V" } : Jvm.MethodName) prog_4_method_4_code (3 : Nat) (Option.none : Option Jvm.ClassFile.FieldType)) ∈ wT := w_tab (List.mem_append_right _ (List.mem_append_right _ (List.mem_append_left _ (List.mem_of_getElem? (i := 215) rfl)))) rfl
theorem wm_2_216 : (Jvm.Cond.methodLink "CapWalletsLaw" (111 : Nat) ({ cls := "CapWalletsLaw", name := "tapOf", desc := "(LCapWallets;II[J)I" } : Jvm.MethodName)) ∈ wT := w_tab (List.mem_append_right _ (List.mem_append_right _ (List.mem_append_left _ (List.mem_of_getElem? (i := 216) rfl)))) rfl
theorem wm_2_217 : (Jvm.Cond.static ({ cls := "CapWalletsLaw", name := "tapOf", desc := "(LCapWallets;II[J)I" } : Jvm.MethodName)) ∈ wT := w_tab (List.mem_append_right _ (List.mem_append_right _ (List.mem_append_left _ (List.mem_of_getElem? (i := 217) rfl)))) rfl
theorem wm_2_218 : (Jvm.Cond.codeWith ({ cls := "CapWalletsLaw", name := "tapOf", desc := "(LCapWallets;II[J)I" } : Jvm.MethodName) method_11_code (5 : Nat) (Option.some Jvm.ClassFile.FieldType.int) [((0 : Nat), (10 : Nat), (13 : Nat), (21 : Nat)), ((0 : Nat), (10 : Nat), (17 : Nat), (13 : Nat))]) ∈ wT := w_tab (List.mem_append_right _ (List.mem_append_right _ (List.mem_append_left _ (List.mem_of_getElem? (i := 218) rfl)))) rfl
theorem wm_2_219 : (Jvm.Cond.methodLink "CapWalletsLaw" (44 : Nat) ({ cls := "CapWallets", name := "tapOf", desc := "(II)I" } : Jvm.MethodName)) ∈ wT := w_tab (List.mem_append_right _ (List.mem_append_right _ (List.mem_append_left _ (List.mem_of_getElem? (i := 219) rfl)))) rfl
theorem wm_2_220 : (Jvm.Cond.instanceMethod ({ cls := "CapWallets", name := "tapOf", desc := "(II)I" } : Jvm.MethodName)) ∈ wT := w_tab (List.mem_append_right _ (List.mem_append_right _ (List.mem_append_left _ (List.mem_of_getElem? (i := 220) rfl)))) rfl
theorem wm_2_221 : (Jvm.Cond.selects "CapWallets" ({ cls := "CapWallets", name := "tapOf", desc := "(II)I" } : Jvm.MethodName) ({ cls := "CapWallets", name := "tapOf", desc := "(II)I" } : Jvm.MethodName)) ∈ wT := w_tab (List.mem_append_right _ (List.mem_append_right _ (List.mem_append_left _ (List.mem_of_getElem? (i := 221) rfl)))) rfl
theorem wm_2_222 : (Jvm.Cond.code ({ cls := "CapWallets", name := "tapOf", desc := "(II)I" } : Jvm.MethodName) prog_1_method_12_code (3 : Nat) (Option.some Jvm.ClassFile.FieldType.int)) ∈ wT := w_tab (List.mem_append_right _ (List.mem_append_right _ (List.mem_append_left _ (List.mem_of_getElem? (i := 222) rfl)))) rfl
theorem wm_2_224 : (Jvm.Cond.methodLink "CapWalletsLaw" (114 : Nat) ({ cls := "CapWalletsLaw", name := "day", desc := "(LCapWallets;III[J)I" } : Jvm.MethodName)) ∈ wT := w_tab (List.mem_append_right _ (List.mem_append_right _ (List.mem_append_left _ (List.mem_of_getElem? (i := 224) rfl)))) rfl
theorem wm_2_225 : (Jvm.Cond.static ({ cls := "CapWalletsLaw", name := "day", desc := "(LCapWallets;III[J)I" } : Jvm.MethodName)) ∈ wT := w_tab (List.mem_append_right _ (List.mem_append_right _ (List.mem_append_left _ (List.mem_of_getElem? (i := 225) rfl)))) rfl
theorem wm_2_226 : (Jvm.Cond.codeWith ({ cls := "CapWalletsLaw", name := "day", desc := "(LCapWallets;III[J)I" } : Jvm.MethodName) method_12_code (6 : Nat) (Option.some Jvm.ClassFile.FieldType.int) [((0 : Nat), (12 : Nat), (15 : Nat), (13 : Nat))]) ∈ wT := w_tab (List.mem_append_right _ (List.mem_append_right _ (List.mem_append_left _ (List.mem_of_getElem? (i := 226) rfl)))) rfl
theorem wm_2_227 : (Jvm.Cond.methodLink "CapWalletsLaw" (47 : Nat) ({ cls := "CapWallets", name := "day", desc := "(III)I" } : Jvm.MethodName)) ∈ wT := w_tab (List.mem_append_right _ (List.mem_append_right _ (List.mem_append_left _ (List.mem_of_getElem? (i := 227) rfl)))) rfl
theorem wm_2_228 : (Jvm.Cond.instanceMethod ({ cls := "CapWallets", name := "day", desc := "(III)I" } : Jvm.MethodName)) ∈ wT := w_tab (List.mem_append_right _ (List.mem_append_right _ (List.mem_append_left _ (List.mem_of_getElem? (i := 228) rfl)))) rfl
theorem wm_2_229 : (Jvm.Cond.selects "CapWallets" ({ cls := "CapWallets", name := "day", desc := "(III)I" } : Jvm.MethodName) ({ cls := "CapWallets", name := "day", desc := "(III)I" } : Jvm.MethodName)) ∈ wT := w_tab (List.mem_append_right _ (List.mem_append_right _ (List.mem_append_left _ (List.mem_of_getElem? (i := 229) rfl)))) rfl
theorem wm_2_230 : (Jvm.Cond.code ({ cls := "CapWallets", name := "day", desc := "(III)I" } : Jvm.MethodName) prog_1_method_13_code (4 : Nat) (Option.some Jvm.ClassFile.FieldType.int)) ∈ wT := w_tab (List.mem_append_right _ (List.mem_append_right _ (List.mem_append_left _ (List.mem_of_getElem? (i := 230) rfl)))) rfl
theorem wm_2_231 : (Jvm.Cond.methodLink "CapWalletsLaw" (117 : Nat) ({ cls := "CapWalletsLaw", name := "week", desc := "(LCapWallets;III[J)I" } : Jvm.MethodName)) ∈ wT := w_tab (List.mem_append_right _ (List.mem_append_right _ (List.mem_append_left _ (List.mem_of_getElem? (i := 231) rfl)))) rfl
theorem wm_2_232 : (Jvm.Cond.static ({ cls := "CapWalletsLaw", name := "week", desc := "(LCapWallets;III[J)I" } : Jvm.MethodName)) ∈ wT := w_tab (List.mem_append_right _ (List.mem_append_right _ (List.mem_append_left _ (List.mem_of_getElem? (i := 232) rfl)))) rfl
theorem wm_2_233 : (Jvm.Cond.codeWith ({ cls := "CapWalletsLaw", name := "week", desc := "(LCapWallets;III[J)I" } : Jvm.MethodName) method_13_code (6 : Nat) (Option.some Jvm.ClassFile.FieldType.int) [((0 : Nat), (12 : Nat), (15 : Nat), (13 : Nat))]) ∈ wT := w_tab (List.mem_append_right _ (List.mem_append_right _ (List.mem_append_left _ (List.mem_of_getElem? (i := 233) rfl)))) rfl
theorem wm_2_234 : (Jvm.Cond.methodLink "CapWalletsLaw" (50 : Nat) ({ cls := "CapWallets", name := "week", desc := "(III)I" } : Jvm.MethodName)) ∈ wT := w_tab (List.mem_append_right _ (List.mem_append_right _ (List.mem_append_left _ (List.mem_of_getElem? (i := 234) rfl)))) rfl
theorem wm_2_235 : (Jvm.Cond.instanceMethod ({ cls := "CapWallets", name := "week", desc := "(III)I" } : Jvm.MethodName)) ∈ wT := w_tab (List.mem_append_right _ (List.mem_append_right _ (List.mem_append_left _ (List.mem_of_getElem? (i := 235) rfl)))) rfl
theorem wm_2_236 : (Jvm.Cond.selects "CapWallets" ({ cls := "CapWallets", name := "week", desc := "(III)I" } : Jvm.MethodName) ({ cls := "CapWallets", name := "week", desc := "(III)I" } : Jvm.MethodName)) ∈ wT := w_tab (List.mem_append_right _ (List.mem_append_right _ (List.mem_append_left _ (List.mem_of_getElem? (i := 236) rfl)))) rfl
theorem wm_2_237 : (Jvm.Cond.code ({ cls := "CapWallets", name := "week", desc := "(III)I" } : Jvm.MethodName) prog_1_method_14_code (4 : Nat) (Option.some Jvm.ClassFile.FieldType.int)) ∈ wT := w_tab (List.mem_append_right _ (List.mem_append_right _ (List.mem_append_left _ (List.mem_of_getElem? (i := 237) rfl)))) rfl
theorem wm_2_238 : (Jvm.Cond.methodLink "CapWalletsLaw" (120 : Nat) ({ cls := "CapWalletsLaw", name := "count", desc := "(LCapWallets;I[J)I" } : Jvm.MethodName)) ∈ wT := w_tab (List.mem_append_right _ (List.mem_append_right _ (List.mem_append_left _ (List.mem_of_getElem? (i := 238) rfl)))) rfl
theorem wm_2_239 : (Jvm.Cond.static ({ cls := "CapWalletsLaw", name := "count", desc := "(LCapWallets;I[J)I" } : Jvm.MethodName)) ∈ wT := w_tab (List.mem_append_right _ (List.mem_append_right _ (List.mem_append_left _ (List.mem_of_getElem? (i := 239) rfl)))) rfl
theorem wm_2_28 : (Jvm.Cond.instantiable "java/lang/Throwable" (6 : Nat)) ∈ wT := w_tab (List.mem_append_right _ (List.mem_append_right _ (List.mem_append_left _ (List.mem_of_getElem? (i := 28) rfl)))) rfl
theorem wm_2_29 : (Jvm.Cond.native ({ cls := "java/lang/Throwable", name := "fillInStackTrace", desc := "(I)Ljava/lang/Throwable;" } : Jvm.MethodName)) ∈ wT := w_tab (List.mem_append_right _ (List.mem_append_right _ (List.mem_append_left _ (List.mem_of_getElem? (i := 29) rfl)))) rfl
theorem wm_2_31 : (Jvm.Cond.methodLink "CapWallets" (76 : Nat) ({ cls := "java/lang/IllegalArgumentException", name := "<init>", desc := "(Ljava/lang/String;)V" } : Jvm.MethodName)) ∈ wT := w_tab (List.mem_append_right _ (List.mem_append_right _ (List.mem_append_left _ (List.mem_of_getElem? (i := 31) rfl)))) rfl
theorem wm_2_56 : (Jvm.Cond.arrayClass Jvm.ClassFile.FieldType.byte) ∈ wT := w_tab (List.mem_append_right _ (List.mem_append_right _ (List.mem_append_left _ (List.mem_of_getElem? (i := 56) rfl)))) rfl
theorem wm_2_57 : (Jvm.Cond.classLink "CapWallets" (82 : Nat) "java/lang/IllegalStateException") ∈ wT := w_tab (List.mem_append_right _ (List.mem_append_right _ (List.mem_append_left _ (List.mem_of_getElem? (i := 57) rfl)))) rfl
theorem wm_2_58 : (Jvm.Cond.instantiable "java/lang/IllegalStateException" (6 : Nat)) ∈ wT := w_tab (List.mem_append_right _ (List.mem_append_right _ (List.mem_append_left _ (List.mem_of_getElem? (i := 58) rfl)))) rfl
theorem wm_2_67 : (Jvm.Cond.methodLink "CapWallets" (86 : Nat) ({ cls := "java/lang/IllegalStateException", name := "<init>", desc := "(Ljava/lang/String;)V" } : Jvm.MethodName)) ∈ wT := w_tab (List.mem_append_right _ (List.mem_append_right _ (List.mem_append_left _ (List.mem_of_getElem? (i := 67) rfl)))) rfl
theorem wm_2_73 : (Jvm.Cond.methodLink "CapWallets" (87 : Nat) ({ cls := "CapWallets$Saves", name := "push", desc := "(LCapWallets$State;)V" } : Jvm.MethodName)) ∈ wT := w_tab (List.mem_append_right _ (List.mem_append_right _ (List.mem_append_left _ (List.mem_of_getElem? (i := 73) rfl)))) rfl
theorem wm_2_74 : (Jvm.Cond.instanceMethod ({ cls := "CapWallets$Saves", name := "push", desc := "(LCapWallets$State;)V" } : Jvm.MethodName)) ∈ wT := w_tab (List.mem_append_right _ (List.mem_append_right _ (List.mem_append_left _ (List.mem_of_getElem? (i := 74) rfl)))) rfl
theorem wm_2_75 : (Jvm.Cond.selects "CapWallets$Saves" ({ cls := "CapWallets$Saves", name := "push", desc := "(LCapWallets$State;)V" } : Jvm.MethodName) ({ cls := "CapWallets$Saves", name := "push", desc := "(LCapWallets$State;)V" } : Jvm.MethodName)) ∈ wT := w_tab (List.mem_append_right _ (List.mem_append_right _ (List.mem_append_left _ (List.mem_of_getElem? (i := 75) rfl)))) rfl
theorem wm_2_76 : (Jvm.Cond.code ({ cls := "CapWallets$Saves", name := "push", desc := "(LCapWallets$State;)V" } : Jvm.MethodName) prog_4_method_3_code (3 : Nat) (Option.none : Option Jvm.ClassFile.FieldType)) ∈ wT := w_tab (List.mem_append_right _ (List.mem_append_right _ (List.mem_append_left _ (List.mem_of_getElem? (i := 76) rfl)))) rfl
theorem wm_2_77 : (Jvm.Cond.methodLink "CapWallets$Saves" (25 : Nat) ({ cls := "CapWallets$Saves", name := "slot", desc := "(I)LCapWallets$State;" } : Jvm.MethodName)) ∈ wT := w_tab (List.mem_append_right _ (List.mem_append_right _ (List.mem_append_left _ (List.mem_of_getElem? (i := 77) rfl)))) rfl
theorem wm_2_79 : (Jvm.Cond.instanceMethod ({ cls := "CapWallets$Saves", name := "slot", desc := "(I)LCapWallets$State;" } : Jvm.MethodName)) ∈ wT := w_tab (List.mem_append_right _ (List.mem_append_right _ (List.mem_append_left _ (List.mem_of_getElem? (i := 79) rfl)))) rfl
theorem wm_2_80 : (Jvm.Cond.code ({ cls := "CapWallets$Saves", name := "slot", desc := "(I)LCapWallets$State;" } : Jvm.MethodName) prog_4_method_2_code (2 : Nat) (Option.some (Jvm.ClassFile.FieldType.object "CapWallets$State"))) ∈ wT := w_tab (List.mem_append_right _ (List.mem_append_right _ (List.mem_append_left _ (List.mem_of_getElem? (i := 80) rfl)))) rfl
theorem wm_2_81 : (Jvm.Cond.methodLink "CapWallets$Saves" (29 : Nat) ({ cls := "CapWallets$State", name := "copyFrom", desc := "(LCapWallets$State;)V" } : Jvm.MethodName)) ∈ wT := w_tab (List.mem_append_right _ (List.mem_append_right _ (List.mem_append_left _ (List.mem_of_getElem? (i := 81) rfl)))) rfl
theorem wm_2_82 : (Jvm.Cond.instanceMethod ({ cls := "CapWallets$State", name := "copyFrom", desc := "(LCapWallets$State;)V" } : Jvm.MethodName)) ∈ wT := w_tab (List.mem_append_right _ (List.mem_append_right _ (List.mem_append_left _ (List.mem_of_getElem? (i := 82) rfl)))) rfl
theorem wm_2_83 : (Jvm.Cond.selects "CapWallets$State" ({ cls := "CapWallets$State", name := "copyFrom", desc := "(LCapWallets$State;)V" } : Jvm.MethodName) ({ cls := "CapWallets$State", name := "copyFrom", desc := "(LCapWallets$State;)V" } : Jvm.MethodName)) ∈ wT := w_tab (List.mem_append_right _ (List.mem_append_right _ (List.mem_append_left _ (List.mem_of_getElem? (i := 83) rfl)))) rfl
theorem wm_2_84 : (Jvm.Cond.code ({ cls := "CapWallets$State", name := "copyFrom", desc := "(LCapWallets$State;)V" } : Jvm.MethodName) prog_5_method_2_code (2 : Nat) (Option.none : Option Jvm.ClassFile.FieldType)) ∈ wT := w_tab (List.mem_append_right _ (List.mem_append_right _ (List.mem_append_left _ (List.mem_of_getElem? (i := 84) rfl)))) rfl
theorem wm_2_85 : (Jvm.Cond.methodLink "CapWallets$State" (60 : Nat) ({ cls := "CapWallets$TapRow", name := "copyFrom", desc := "(LCapWallets$TapRow;)V" } : Jvm.MethodName)) ∈ wT := w_tab (List.mem_append_right _ (List.mem_append_right _ (List.mem_append_left _ (List.mem_of_getElem? (i := 85) rfl)))) rfl
theorem wm_2_86 : (Jvm.Cond.methodLink "CapWallets$Saves" (33 : Nat) ({ cls := "java/lang/Math", name := "min", desc := "(II)I" } : Jvm.MethodName)) ∈ wT := w_tab (List.mem_append_right _ (List.mem_append_right _ (List.mem_append_left _ (List.mem_of_getElem? (i := 86) rfl)))) rfl
theorem wm_2_87 : (Jvm.Cond.methodLink "CapWallets" (101 : Nat) ({ cls := "CapWallets", name := "readRides", desc := "()V" } : Jvm.MethodName)) ∈ wT := w_tab (List.mem_append_right _ (List.mem_append_right _ (List.mem_append_left _ (List.mem_of_getElem? (i := 87) rfl)))) rfl
theorem wm_2_89 : (Jvm.Cond.instanceMethod ({ cls := "CapWallets", name := "readRides", desc := "()V" } : Jvm.MethodName)) ∈ wT := w_tab (List.mem_append_right _ (List.mem_append_right _ (List.mem_append_left _ (List.mem_of_getElem? (i := 89) rfl)))) rfl
theorem wm_2_90 : (Jvm.Cond.code ({ cls := "CapWallets", name := "readRides", desc := "()V" } : Jvm.MethodName) prog_1_method_27_code (1 : Nat) (Option.none : Option Jvm.ClassFile.FieldType)) ∈ wT := w_tab (List.mem_append_right _ (List.mem_append_right _ (List.mem_append_left _ (List.mem_of_getElem? (i := 90) rfl)))) rfl
theorem wm_2_91 : (Jvm.Cond.methodLink "CapWalletsLaw" (78 : Nat) ({ cls := "CapWalletsLaw", name := "remove", desc := "(LCapWallets;I[J)I" } : Jvm.MethodName)) ∈ wT := w_tab (List.mem_append_right _ (List.mem_append_right _ (List.mem_append_left _ (List.mem_of_getElem? (i := 91) rfl)))) rfl
theorem wm_2_92 : (Jvm.Cond.static ({ cls := "CapWalletsLaw", name := "remove", desc := "(LCapWallets;I[J)I" } : Jvm.MethodName)) ∈ wT := w_tab (List.mem_append_right _ (List.mem_append_right _ (List.mem_append_left _ (List.mem_of_getElem? (i := 92) rfl)))) rfl
theorem wm_2_93 : (Jvm.Cond.codeWith ({ cls := "CapWalletsLaw", name := "remove", desc := "(LCapWallets;I[J)I" } : Jvm.MethodName) method_4_code (4 : Nat) (Option.some Jvm.ClassFile.FieldType.int) [((0 : Nat), (9 : Nat), (12 : Nat), (21 : Nat))]) ∈ wT := w_tab (List.mem_append_right _ (List.mem_append_right _ (List.mem_append_left _ (List.mem_of_getElem? (i := 93) rfl)))) rfl
theorem wm_2_94 : (Jvm.Cond.classLink "CapWalletsLaw" (21 : Nat) "java/lang/IndexOutOfBoundsException") ∈ wT := w_tab (List.mem_append_right _ (List.mem_append_right _ (List.mem_append_left _ (List.mem_of_getElem? (i := 94) rfl)))) rfl
theorem wm_2_95 : (Jvm.Cond.methodLink "CapWalletsLaw" (17 : Nat) ({ cls := "CapWallets", name := "remove", desc := "(I)I" } : Jvm.MethodName)) ∈ wT := w_tab (List.mem_append_right _ (List.mem_append_right _ (List.mem_append_left _ (List.mem_of_getElem? (i := 95) rfl)))) rfl
theorem wm_2_96 : (Jvm.Cond.instanceMethod ({ cls := "CapWallets", name := "remove", desc := "(I)I" } : Jvm.MethodName)) ∈ wT := w_tab (List.mem_append_right _ (List.mem_append_right _ (List.mem_append_left _ (List.mem_of_getElem? (i := 96) rfl)))) rfl
theorem wm_2_97 : (Jvm.Cond.selects "CapWallets" ({ cls := "CapWallets", name := "remove", desc := "(I)I" } : Jvm.MethodName) ({ cls := "CapWallets", name := "remove", desc := "(I)I" } : Jvm.MethodName)) ∈ wT := w_tab (List.mem_append_right _ (List.mem_append_right _ (List.mem_append_left _ (List.mem_of_getElem? (i := 97) rfl)))) rfl
theorem wm_2_98 : (Jvm.Cond.code ({ cls := "CapWallets", name := "remove", desc := "(I)I" } : Jvm.MethodName) prog_1_method_3_code (2 : Nat) (Option.some Jvm.ClassFile.FieldType.int)) ∈ wT := w_tab (List.mem_append_right _ (List.mem_append_right _ (List.mem_append_left _ (List.mem_of_getElem? (i := 98) rfl)))) rfl
theorem wm_2_99 : (Jvm.Cond.methodLink "CapWallets" (104 : Nat) ({ cls := "CapWallets", name := "isPlace", desc := "(I)Z" } : Jvm.MethodName)) ∈ wT := w_tab (List.mem_append_right _ (List.mem_append_right _ (List.mem_append_left _ (List.mem_of_getElem? (i := 99) rfl)))) rfl
theorem wm_3_0 : (Jvm.Cond.codeWith ({ cls := "CapWalletsLaw", name := "count", desc := "(LCapWallets;I[J)I" } : Jvm.MethodName) method_14_code (4 : Nat) (Option.some Jvm.ClassFile.FieldType.int) [((0 : Nat), (9 : Nat), (12 : Nat), (13 : Nat))]) ∈ wT := w_tab (List.mem_append_right _ (List.mem_append_right _ (List.mem_append_right _ (List.mem_append_left _ (List.mem_of_getElem? (i := 0) rfl))))) rfl
theorem wm_3_1 : (Jvm.Cond.methodLink "CapWalletsLaw" (53 : Nat) ({ cls := "CapWallets", name := "count", desc := "(I)I" } : Jvm.MethodName)) ∈ wT := w_tab (List.mem_append_right _ (List.mem_append_right _ (List.mem_append_right _ (List.mem_append_left _ (List.mem_of_getElem? (i := 1) rfl))))) rfl
theorem wm_3_10 : (Jvm.Cond.instanceMethod ({ cls := "CapWallets", name := "ledger", desc := "(III)I" } : Jvm.MethodName)) ∈ wT := w_tab (List.mem_append_right _ (List.mem_append_right _ (List.mem_append_right _ (List.mem_append_left _ (List.mem_of_getElem? (i := 10) rfl))))) rfl
theorem wm_3_100 : (Jvm.Cond.instanceMethod ({ cls := "CapWalletsModel", name := "comes", desc := "(IIIIII)I" } : Jvm.MethodName)) ∈ wT := w_tab (List.mem_append_right _ (List.mem_append_right _ (List.mem_append_right _ (List.mem_append_left _ (List.mem_of_getElem? (i := 100) rfl))))) rfl
theorem wm_3_101 : (Jvm.Cond.code ({ cls := "CapWalletsModel", name := "comes", desc := "(IIIIII)I" } : Jvm.MethodName) prog_10_method_12_code (10 : Nat) (Option.some Jvm.ClassFile.FieldType.int)) ∈ wT := w_tab (List.mem_append_right _ (List.mem_append_right _ (List.mem_append_right _ (List.mem_append_left _ (List.mem_of_getElem? (i := 101) rfl))))) rfl
theorem wm_3_102 : (Jvm.Cond.methodLink "CapWalletsModel" (43 : Nat) ({ cls := "CapWalletsModel", name := "timeOf", desc := "(I)I" } : Jvm.MethodName)) ∈ wT := w_tab (List.mem_append_right _ (List.mem_append_right _ (List.mem_append_right _ (List.mem_append_left _ (List.mem_of_getElem? (i := 102) rfl))))) rfl
theorem wm_3_104 : (Jvm.Cond.instanceMethod ({ cls := "CapWalletsModel", name := "timeOf", desc := "(I)I" } : Jvm.MethodName)) ∈ wT := w_tab (List.mem_append_right _ (List.mem_append_right _ (List.mem_append_right _ (List.mem_append_left _ (List.mem_of_getElem? (i := 104) rfl))))) rfl
theorem wm_3_105 : (Jvm.Cond.code ({ cls := "CapWalletsModel", name := "timeOf", desc := "(I)I" } : Jvm.MethodName) prog_10_method_11_code (2 : Nat) (Option.some Jvm.ClassFile.FieldType.int)) ∈ wT := w_tab (List.mem_append_right _ (List.mem_append_right _ (List.mem_append_right _ (List.mem_append_left _ (List.mem_of_getElem? (i := 105) rfl))))) rfl
theorem wm_3_106 : (Jvm.Cond.methodLink "CapWalletsModel" (39 : Nat) ({ cls := "CapWalletsModel", name := "of", desc := "(II)I" } : Jvm.MethodName)) ∈ wT := w_tab (List.mem_append_right _ (List.mem_append_right _ (List.mem_append_right _ (List.mem_append_left _ (List.mem_of_getElem? (i := 106) rfl))))) rfl
theorem wm_3_108 : (Jvm.Cond.instanceMethod ({ cls := "CapWalletsModel", name := "of", desc := "(II)I" } : Jvm.MethodName)) ∈ wT := w_tab (List.mem_append_right _ (List.mem_append_right _ (List.mem_append_right _ (List.mem_append_left _ (List.mem_of_getElem? (i := 108) rfl))))) rfl
theorem wm_3_109 : (Jvm.Cond.code ({ cls := "CapWalletsModel", name := "of", desc := "(II)I" } : Jvm.MethodName) prog_10_method_5_code (3 : Nat) (Option.some Jvm.ClassFile.FieldType.int)) ∈ wT := w_tab (List.mem_append_right _ (List.mem_append_right _ (List.mem_append_right _ (List.mem_append_left _ (List.mem_of_getElem? (i := 109) rfl))))) rfl
theorem wm_3_11 : (Jvm.Cond.selects "CapWallets" ({ cls := "CapWallets", name := "ledger", desc := "(III)I" } : Jvm.MethodName) ({ cls := "CapWallets", name := "ledger", desc := "(III)I" } : Jvm.MethodName)) ∈ wT := w_tab (List.mem_append_right _ (List.mem_append_right _ (List.mem_append_right _ (List.mem_append_left _ (List.mem_of_getElem? (i := 11) rfl))))) rfl
theorem wm_3_110 : (Jvm.Cond.methodLink "CapWalletsLaw" (81 : Nat) ({ cls := "CapWalletsModel", name := "remove", desc := "(I)I" } : Jvm.MethodName)) ∈ wT := w_tab (List.mem_append_right _ (List.mem_append_right _ (List.mem_append_right _ (List.mem_append_left _ (List.mem_of_getElem? (i := 110) rfl))))) rfl
theorem wm_3_111 : (Jvm.Cond.instanceMethod ({ cls := "CapWalletsModel", name := "remove", desc := "(I)I" } : Jvm.MethodName)) ∈ wT := w_tab (List.mem_append_right _ (List.mem_append_right _ (List.mem_append_right _ (List.mem_append_left _ (List.mem_of_getElem? (i := 111) rfl))))) rfl
theorem wm_3_112 : (Jvm.Cond.selects "CapWalletsModel" ({ cls := "CapWalletsModel", name := "remove", desc := "(I)I" } : Jvm.MethodName) ({ cls := "CapWalletsModel", name := "remove", desc := "(I)I" } : Jvm.MethodName)) ∈ wT := w_tab (List.mem_append_right _ (List.mem_append_right _ (List.mem_append_right _ (List.mem_append_left _ (List.mem_of_getElem? (i := 112) rfl))))) rfl
theorem wm_3_113 : (Jvm.Cond.code ({ cls := "CapWalletsModel", name := "remove", desc := "(I)I" } : Jvm.MethodName) prog_10_method_22_code (3 : Nat) (Option.some Jvm.ClassFile.FieldType.int)) ∈ wT := w_tab (List.mem_append_right _ (List.mem_append_right _ (List.mem_append_right _ (List.mem_append_left _ (List.mem_of_getElem? (i := 113) rfl))))) rfl
theorem wm_3_114 : (Jvm.Cond.methodLink "CapWalletsModel" (84 : Nat) ({ cls := "CapWalletsModel", name := "isTap", desc := "(I)Z" } : Jvm.MethodName)) ∈ wT := w_tab (List.mem_append_right _ (List.mem_append_right _ (List.mem_append_right _ (List.mem_append_left _ (List.mem_of_getElem? (i := 114) rfl))))) rfl
theorem wm_3_116 : (Jvm.Cond.instanceMethod ({ cls := "CapWalletsModel", name := "isTap", desc := "(I)Z" } : Jvm.MethodName)) ∈ wT := w_tab (List.mem_append_right _ (List.mem_append_right _ (List.mem_append_right _ (List.mem_append_left _ (List.mem_of_getElem? (i := 116) rfl))))) rfl
theorem wm_3_117 : (Jvm.Cond.code ({ cls := "CapWalletsModel", name := "isTap", desc := "(I)Z" } : Jvm.MethodName) prog_10_method_6_code (2 : Nat) (Option.some Jvm.ClassFile.FieldType.boolean)) ∈ wT := w_tab (List.mem_append_right _ (List.mem_append_right _ (List.mem_append_right _ (List.mem_append_left _ (List.mem_of_getElem? (i := 117) rfl))))) rfl
theorem wm_3_118 : (Jvm.Cond.methodLink "CapWalletsLaw" (85 : Nat) ({ cls := "CapWalletsModel", name := "claim", desc := "(III)I" } : Jvm.MethodName)) ∈ wT := w_tab (List.mem_append_right _ (List.mem_append_right _ (List.mem_append_right _ (List.mem_append_left _ (List.mem_of_getElem? (i := 118) rfl))))) rfl
theorem wm_3_119 : (Jvm.Cond.instanceMethod ({ cls := "CapWalletsModel", name := "claim", desc := "(III)I" } : Jvm.MethodName)) ∈ wT := w_tab (List.mem_append_right _ (List.mem_append_right _ (List.mem_append_right _ (List.mem_append_left _ (List.mem_of_getElem? (i := 119) rfl))))) rfl
theorem wm_3_12 : (Jvm.Cond.code ({ cls := "CapWallets", name := "ledger", desc := "(III)I" } : Jvm.MethodName) prog_1_method_16_code (4 : Nat) (Option.some Jvm.ClassFile.FieldType.int)) ∈ wT := w_tab (List.mem_append_right _ (List.mem_append_right _ (List.mem_append_right _ (List.mem_append_left _ (List.mem_of_getElem? (i := 12) rfl))))) rfl
theorem wm_3_120 : (Jvm.Cond.selects "CapWalletsModel" ({ cls := "CapWalletsModel", name := "claim", desc := "(III)I" } : Jvm.MethodName) ({ cls := "CapWalletsModel", name := "claim", desc := "(III)I" } : Jvm.MethodName)) ∈ wT := w_tab (List.mem_append_right _ (List.mem_append_right _ (List.mem_append_right _ (List.mem_append_left _ (List.mem_of_getElem? (i := 120) rfl))))) rfl
theorem wm_3_121 : (Jvm.Cond.code ({ cls := "CapWalletsModel", name := "claim", desc := "(III)I" } : Jvm.MethodName) prog_10_method_24_code (5 : Nat) (Option.some Jvm.ClassFile.FieldType.int)) ∈ wT := w_tab (List.mem_append_right _ (List.mem_append_right _ (List.mem_append_right _ (List.mem_append_left _ (List.mem_of_getElem? (i := 121) rfl))))) rfl
theorem wm_3_122 : (Jvm.Cond.methodLink "CapWalletsModel" (87 : Nat) ({ cls := "CapWalletsModel", name := "putAside", desc := "()V" } : Jvm.MethodName)) ∈ wT := w_tab (List.mem_append_right _ (List.mem_append_right _ (List.mem_append_right _ (List.mem_append_left _ (List.mem_of_getElem? (i := 122) rfl))))) rfl
theorem wm_3_124 : (Jvm.Cond.instanceMethod ({ cls := "CapWalletsModel", name := "putAside", desc := "()V" } : Jvm.MethodName)) ∈ wT := w_tab (List.mem_append_right _ (List.mem_append_right _ (List.mem_append_right _ (List.mem_append_left _ (List.mem_of_getElem? (i := 124) rfl))))) rfl
theorem wm_3_125 : (Jvm.Cond.code ({ cls := "CapWalletsModel", name := "putAside", desc := "()V" } : Jvm.MethodName) prog_10_method_9_code (2 : Nat) (Option.none : Option Jvm.ClassFile.FieldType)) ∈ wT := w_tab (List.mem_append_right _ (List.mem_append_right _ (List.mem_append_right _ (List.mem_append_left _ (List.mem_of_getElem? (i := 125) rfl))))) rfl
theorem wm_3_126 : (Jvm.Cond.methodLink "CapWalletsModel" (90 : Nat) ({ cls := "CapWalletsModel", name := "refuses", desc := "(III)I" } : Jvm.MethodName)) ∈ wT := w_tab (List.mem_append_right _ (List.mem_append_right _ (List.mem_append_right _ (List.mem_append_left _ (List.mem_of_getElem? (i := 126) rfl))))) rfl
theorem wm_3_128 : (Jvm.Cond.instanceMethod ({ cls := "CapWalletsModel", name := "refuses", desc := "(III)I" } : Jvm.MethodName)) ∈ wT := w_tab (List.mem_append_right _ (List.mem_append_right _ (List.mem_append_right _ (List.mem_append_left _ (List.mem_of_getElem? (i := 128) rfl))))) rfl
theorem wm_3_129 : (Jvm.Cond.code ({ cls := "CapWalletsModel", name := "refuses", desc := "(III)I" } : Jvm.MethodName) prog_10_method_23_code (8 : Nat) (Option.some Jvm.ClassFile.FieldType.int)) ∈ wT := w_tab (List.mem_append_right _ (List.mem_append_right _ (List.mem_append_right _ (List.mem_append_left _ (List.mem_of_getElem? (i := 129) rfl))))) rfl
theorem wm_3_13 : (Jvm.Cond.methodLink "CapWalletsLaw" (126 : Nat) ({ cls := "CapWalletsLaw", name := "ifTapped", desc := "(LCapWallets;IIIIZ[J)I" } : Jvm.MethodName)) ∈ wT := w_tab (List.mem_append_right _ (List.mem_append_right _ (List.mem_append_right _ (List.mem_append_left _ (List.mem_of_getElem? (i := 13) rfl))))) rfl
theorem wm_3_130 : (Jvm.Cond.methodLink "CapWalletsModel" (50 : Nat) ({ cls := "CapWalletsModel", name := "laysRides", desc := "()V" } : Jvm.MethodName)) ∈ wT := w_tab (List.mem_append_right _ (List.mem_append_right _ (List.mem_append_right _ (List.mem_append_left _ (List.mem_of_getElem? (i := 130) rfl))))) rfl
theorem wm_3_132 : (Jvm.Cond.instanceMethod ({ cls := "CapWalletsModel", name := "laysRides", desc := "()V" } : Jvm.MethodName)) ∈ wT := w_tab (List.mem_append_right _ (List.mem_append_right _ (List.mem_append_right _ (List.mem_append_left _ (List.mem_of_getElem? (i := 132) rfl))))) rfl
theorem wm_3_133 : (Jvm.Cond.code ({ cls := "CapWalletsModel", name := "laysRides", desc := "()V" } : Jvm.MethodName) prog_10_method_14_code (4 : Nat) (Option.none : Option Jvm.ClassFile.FieldType)) ∈ wT := w_tab (List.mem_append_right _ (List.mem_append_right _ (List.mem_append_right _ (List.mem_append_left _ (List.mem_of_getElem? (i := 133) rfl))))) rfl
theorem wm_3_134 : (Jvm.Cond.methodLink "CapWalletsModel" (47 : Nat) ({ cls := "CapWalletsModel", name := "nextOf", desc := "(I)I" } : Jvm.MethodName)) ∈ wT := w_tab (List.mem_append_right _ (List.mem_append_right _ (List.mem_append_right _ (List.mem_append_left _ (List.mem_of_getElem? (i := 134) rfl))))) rfl
theorem wm_3_136 : (Jvm.Cond.instanceMethod ({ cls := "CapWalletsModel", name := "nextOf", desc := "(I)I" } : Jvm.MethodName)) ∈ wT := w_tab (List.mem_append_right _ (List.mem_append_right _ (List.mem_append_right _ (List.mem_append_left _ (List.mem_of_getElem? (i := 136) rfl))))) rfl
theorem wm_3_137 : (Jvm.Cond.code ({ cls := "CapWalletsModel", name := "nextOf", desc := "(I)I" } : Jvm.MethodName) prog_10_method_13_code (3 : Nat) (Option.some Jvm.ClassFile.FieldType.int)) ∈ wT := w_tab (List.mem_append_right _ (List.mem_append_right _ (List.mem_append_right _ (List.mem_append_left _ (List.mem_of_getElem? (i := 137) rfl))))) rfl
theorem wm_3_138 : (Jvm.Cond.methodLink "CapWalletsModel" (93 : Nat) ({ cls := "CapWalletsModel", name := "takeBack", desc := "()V" } : Jvm.MethodName)) ∈ wT := w_tab (List.mem_append_right _ (List.mem_append_right _ (List.mem_append_right _ (List.mem_append_left _ (List.mem_of_getElem? (i := 138) rfl))))) rfl
theorem wm_3_14 : (Jvm.Cond.static ({ cls := "CapWalletsLaw", name := "ifTapped", desc := "(LCapWallets;IIIIZ[J)I" } : Jvm.MethodName)) ∈ wT := w_tab (List.mem_append_right _ (List.mem_append_right _ (List.mem_append_right _ (List.mem_append_left _ (List.mem_of_getElem? (i := 14) rfl))))) rfl
theorem wm_3_140 : (Jvm.Cond.instanceMethod ({ cls := "CapWalletsModel", name := "takeBack", desc := "()V" } : Jvm.MethodName)) ∈ wT := w_tab (List.mem_append_right _ (List.mem_append_right _ (List.mem_append_right _ (List.mem_append_left _ (List.mem_of_getElem? (i := 140) rfl))))) rfl
theorem wm_3_141 : (Jvm.Cond.code ({ cls := "CapWalletsModel", name := "takeBack", desc := "()V" } : Jvm.MethodName) prog_10_method_10_code (2 : Nat) (Option.none : Option Jvm.ClassFile.FieldType)) ∈ wT := w_tab (List.mem_append_right _ (List.mem_append_right _ (List.mem_append_right _ (List.mem_append_left _ (List.mem_of_getElem? (i := 141) rfl))))) rfl
theorem wm_3_142 : (Jvm.Cond.methodLink "CapWalletsLaw" (88 : Nat) ({ cls := "CapWalletsModel", name := "settle", desc := "(I)I" } : Jvm.MethodName)) ∈ wT := w_tab (List.mem_append_right _ (List.mem_append_right _ (List.mem_append_right _ (List.mem_append_left _ (List.mem_of_getElem? (i := 142) rfl))))) rfl
theorem wm_3_143 : (Jvm.Cond.instanceMethod ({ cls := "CapWalletsModel", name := "settle", desc := "(I)I" } : Jvm.MethodName)) ∈ wT := w_tab (List.mem_append_right _ (List.mem_append_right _ (List.mem_append_right _ (List.mem_append_left _ (List.mem_of_getElem? (i := 143) rfl))))) rfl
theorem wm_3_144 : (Jvm.Cond.selects "CapWalletsModel" ({ cls := "CapWalletsModel", name := "settle", desc := "(I)I" } : Jvm.MethodName) ({ cls := "CapWalletsModel", name := "settle", desc := "(I)I" } : Jvm.MethodName)) ∈ wT := w_tab (List.mem_append_right _ (List.mem_append_right _ (List.mem_append_right _ (List.mem_append_left _ (List.mem_of_getElem? (i := 144) rfl))))) rfl
theorem wm_3_145 : (Jvm.Cond.code ({ cls := "CapWalletsModel", name := "settle", desc := "(I)I" } : Jvm.MethodName) prog_10_method_26_code (6 : Nat) (Option.some Jvm.ClassFile.FieldType.int)) ∈ wT := w_tab (List.mem_append_right _ (List.mem_append_right _ (List.mem_append_right _ (List.mem_append_left _ (List.mem_of_getElem? (i := 145) rfl))))) rfl
theorem wm_3_146 : (Jvm.Cond.methodLink "CapWalletsModel" (96 : Nat) ({ cls := "CapWalletsModel", name := "costs", desc := "(II)I" } : Jvm.MethodName)) ∈ wT := w_tab (List.mem_append_right _ (List.mem_append_right _ (List.mem_append_right _ (List.mem_append_left _ (List.mem_of_getElem? (i := 146) rfl))))) rfl
theorem wm_3_148 : (Jvm.Cond.instanceMethod ({ cls := "CapWalletsModel", name := "costs", desc := "(II)I" } : Jvm.MethodName)) ∈ wT := w_tab (List.mem_append_right _ (List.mem_append_right _ (List.mem_append_right _ (List.mem_append_left _ (List.mem_of_getElem? (i := 148) rfl))))) rfl
theorem wm_3_149 : (Jvm.Cond.code ({ cls := "CapWalletsModel", name := "costs", desc := "(II)I" } : Jvm.MethodName) prog_10_method_19_code (4 : Nat) (Option.some Jvm.ClassFile.FieldType.int)) ∈ wT := w_tab (List.mem_append_right _ (List.mem_append_right _ (List.mem_append_right _ (List.mem_append_left _ (List.mem_of_getElem? (i := 149) rfl))))) rfl
theorem wm_3_15 : (Jvm.Cond.codeWith ({ cls := "CapWalletsLaw", name := "ifTapped", desc := "(LCapWallets;IIIIZ[J)I" } : Jvm.MethodName) method_16_code (8 : Nat) (Option.some Jvm.ClassFile.FieldType.int) [((0 : Nat), (16 : Nat), (19 : Nat), (13 : Nat))]) ∈ wT := w_tab (List.mem_append_right _ (List.mem_append_right _ (List.mem_append_right _ (List.mem_append_left _ (List.mem_of_getElem? (i := 15) rfl))))) rfl
theorem wm_3_150 : (Jvm.Cond.methodLink "CapWalletsModel" (64 : Nat) ({ cls := "CapWalletsModel", name := "overDays", desc := "(III)I" } : Jvm.MethodName)) ∈ wT := w_tab (List.mem_append_right _ (List.mem_append_right _ (List.mem_append_right _ (List.mem_append_left _ (List.mem_of_getElem? (i := 150) rfl))))) rfl
theorem wm_3_152 : (Jvm.Cond.instanceMethod ({ cls := "CapWalletsModel", name := "overDays", desc := "(III)I" } : Jvm.MethodName)) ∈ wT := w_tab (List.mem_append_right _ (List.mem_append_right _ (List.mem_append_right _ (List.mem_append_left _ (List.mem_of_getElem? (i := 152) rfl))))) rfl
theorem wm_3_153 : (Jvm.Cond.code ({ cls := "CapWalletsModel", name := "overDays", desc := "(III)I" } : Jvm.MethodName) prog_10_method_18_code (6 : Nat) (Option.some Jvm.ClassFile.FieldType.int)) ∈ wT := w_tab (List.mem_append_right _ (List.mem_append_right _ (List.mem_append_right _ (List.mem_append_left _ (List.mem_of_getElem? (i := 153) rfl))))) rfl
theorem wm_3_154 : (Jvm.Cond.methodLink "CapWalletsModel" (60 : Nat) ({ cls := "CapWalletsModel", name := "ofDay", desc := "(III)I" } : Jvm.MethodName)) ∈ wT := w_tab (List.mem_append_right _ (List.mem_append_right _ (List.mem_append_right _ (List.mem_append_left _ (List.mem_of_getElem? (i := 154) rfl))))) rfl
theorem wm_3_156 : (Jvm.Cond.instanceMethod ({ cls := "CapWalletsModel", name := "ofDay", desc := "(III)I" } : Jvm.MethodName)) ∈ wT := w_tab (List.mem_append_right _ (List.mem_append_right _ (List.mem_append_right _ (List.mem_append_left _ (List.mem_of_getElem? (i := 156) rfl))))) rfl
theorem wm_3_157 : (Jvm.Cond.code ({ cls := "CapWalletsModel", name := "ofDay", desc := "(III)I" } : Jvm.MethodName) prog_10_method_17_code (8 : Nat) (Option.some Jvm.ClassFile.FieldType.int)) ∈ wT := w_tab (List.mem_append_right _ (List.mem_append_right _ (List.mem_append_right _ (List.mem_append_left _ (List.mem_of_getElem? (i := 157) rfl))))) rfl
theorem wm_3_158 : (Jvm.Cond.methodLink "CapWalletsModel" (53 : Nat) ({ cls := "CapWalletsModel", name := "begins", desc := "(I)Z" } : Jvm.MethodName)) ∈ wT := w_tab (List.mem_append_right _ (List.mem_append_right _ (List.mem_append_right _ (List.mem_append_left _ (List.mem_of_getElem? (i := 158) rfl))))) rfl
theorem wm_3_16 : (Jvm.Cond.methodLink "CapWalletsLaw" (59 : Nat) ({ cls := "CapWallets", name := "ifTapped", desc := "(IIIIZ)I" } : Jvm.MethodName)) ∈ wT := w_tab (List.mem_append_right _ (List.mem_append_right _ (List.mem_append_right _ (List.mem_append_left _ (List.mem_of_getElem? (i := 16) rfl))))) rfl
theorem wm_3_160 : (Jvm.Cond.instanceMethod ({ cls := "CapWalletsModel", name := "begins", desc := "(I)Z" } : Jvm.MethodName)) ∈ wT := w_tab (List.mem_append_right _ (List.mem_append_right _ (List.mem_append_right _ (List.mem_append_left _ (List.mem_of_getElem? (i := 160) rfl))))) rfl
theorem wm_3_161 : (Jvm.Cond.code ({ cls := "CapWalletsModel", name := "begins", desc := "(I)Z" } : Jvm.MethodName) prog_10_method_16_code (2 : Nat) (Option.some Jvm.ClassFile.FieldType.boolean)) ∈ wT := w_tab (List.mem_append_right _ (List.mem_append_right _ (List.mem_append_right _ (List.mem_append_left _ (List.mem_of_getElem? (i := 161) rfl))))) rfl
theorem wm_3_162 : (Jvm.Cond.methodLink "CapWalletsModel" (57 : Nat) ({ cls := "CapWalletsModel", name := "fare", desc := "(I)I" } : Jvm.MethodName)) ∈ wT := w_tab (List.mem_append_right _ (List.mem_append_right _ (List.mem_append_right _ (List.mem_append_left _ (List.mem_of_getElem? (i := 162) rfl))))) rfl
theorem wm_3_164 : (Jvm.Cond.instanceMethod ({ cls := "CapWalletsModel", name := "fare", desc := "(I)I" } : Jvm.MethodName)) ∈ wT := w_tab (List.mem_append_right _ (List.mem_append_right _ (List.mem_append_right _ (List.mem_append_left _ (List.mem_of_getElem? (i := 164) rfl))))) rfl
theorem wm_3_165 : (Jvm.Cond.code ({ cls := "CapWalletsModel", name := "fare", desc := "(I)I" } : Jvm.MethodName) prog_10_method_15_code (3 : Nat) (Option.some Jvm.ClassFile.FieldType.int)) ∈ wT := w_tab (List.mem_append_right _ (List.mem_append_right _ (List.mem_append_right _ (List.mem_append_left _ (List.mem_of_getElem? (i := 165) rfl))))) rfl
theorem wm_3_166 : (Jvm.Cond.methodLink "CapWalletsModel" (99 : Nat) ({ cls := "CapWalletsModel", name := "entersLedger", desc := "(III)V" } : Jvm.MethodName)) ∈ wT := w_tab (List.mem_append_right _ (List.mem_append_right _ (List.mem_append_right _ (List.mem_append_left _ (List.mem_of_getElem? (i := 166) rfl))))) rfl
theorem wm_3_168 : (Jvm.Cond.instanceMethod ({ cls := "CapWalletsModel", name := "entersLedger", desc := "(III)V" } : Jvm.MethodName)) ∈ wT := w_tab (List.mem_append_right _ (List.mem_append_right _ (List.mem_append_right _ (List.mem_append_left _ (List.mem_of_getElem? (i := 168) rfl))))) rfl
theorem wm_3_169 : (Jvm.Cond.code ({ cls := "CapWalletsModel", name := "entersLedger", desc := "(III)V" } : Jvm.MethodName) prog_10_method_25_code (6 : Nat) (Option.none : Option Jvm.ClassFile.FieldType)) ∈ wT := w_tab (List.mem_append_right _ (List.mem_append_right _ (List.mem_append_right _ (List.mem_append_left _ (List.mem_of_getElem? (i := 169) rfl))))) rfl
theorem wm_3_17 : (Jvm.Cond.instanceMethod ({ cls := "CapWallets", name := "ifTapped", desc := "(IIIIZ)I" } : Jvm.MethodName)) ∈ wT := w_tab (List.mem_append_right _ (List.mem_append_right _ (List.mem_append_right _ (List.mem_append_left _ (List.mem_of_getElem? (i := 17) rfl))))) rfl
theorem wm_3_170 : (Jvm.Cond.constant "CapWalletsModel" (103 : Nat) (100000 : Int32)) ∈ wT := w_tab (List.mem_append_right _ (List.mem_append_right _ (List.mem_append_right _ (List.mem_append_left _ (List.mem_of_getElem? (i := 170) rfl))))) rfl
theorem wm_3_171 : (Jvm.Cond.methodLink "CapWalletsLaw" (92 : Nat) ({ cls := "CapWalletsModel", name := "set", desc := "(II)I" } : Jvm.MethodName)) ∈ wT := w_tab (List.mem_append_right _ (List.mem_append_right _ (List.mem_append_right _ (List.mem_append_left _ (List.mem_of_getElem? (i := 171) rfl))))) rfl
theorem wm_3_172 : (Jvm.Cond.instanceMethod ({ cls := "CapWalletsModel", name := "set", desc := "(II)I" } : Jvm.MethodName)) ∈ wT := w_tab (List.mem_append_right _ (List.mem_append_right _ (List.mem_append_right _ (List.mem_append_left _ (List.mem_of_getElem? (i := 172) rfl))))) rfl
theorem wm_3_173 : (Jvm.Cond.selects "CapWalletsModel" ({ cls := "CapWalletsModel", name := "set", desc := "(II)I" } : Jvm.MethodName) ({ cls := "CapWalletsModel", name := "set", desc := "(II)I" } : Jvm.MethodName)) ∈ wT := w_tab (List.mem_append_right _ (List.mem_append_right _ (List.mem_append_right _ (List.mem_append_left _ (List.mem_of_getElem? (i := 173) rfl))))) rfl
theorem wm_3_174 : (Jvm.Cond.code ({ cls := "CapWalletsModel", name := "set", desc := "(II)I" } : Jvm.MethodName) prog_10_method_28_code (4 : Nat) (Option.some Jvm.ClassFile.FieldType.int)) ∈ wT := w_tab (List.mem_append_right _ (List.mem_append_right _ (List.mem_append_right _ (List.mem_append_left _ (List.mem_of_getElem? (i := 174) rfl))))) rfl
theorem wm_3_175 : (Jvm.Cond.methodLink "CapWalletsModel" (104 : Nat) ({ cls := "CapWalletsModel", name := "isSetting", desc := "(II)Z" } : Jvm.MethodName)) ∈ wT := w_tab (List.mem_append_right _ (List.mem_append_right _ (List.mem_append_right _ (List.mem_append_left _ (List.mem_of_getElem? (i := 175) rfl))))) rfl
theorem wm_3_176 : (Jvm.Cond.static ({ cls := "CapWalletsModel", name := "isSetting", desc := "(II)Z" } : Jvm.MethodName)) ∈ wT := w_tab (List.mem_append_right _ (List.mem_append_right _ (List.mem_append_right _ (List.mem_append_left _ (List.mem_of_getElem? (i := 176) rfl))))) rfl
theorem wm_3_177 : (Jvm.Cond.code ({ cls := "CapWalletsModel", name := "isSetting", desc := "(II)Z" } : Jvm.MethodName) prog_10_method_27_code (2 : Nat) (Option.some Jvm.ClassFile.FieldType.boolean)) ∈ wT := w_tab (List.mem_append_right _ (List.mem_append_right _ (List.mem_append_right _ (List.mem_append_left _ (List.mem_of_getElem? (i := 177) rfl))))) rfl
theorem wm_3_178 : (Jvm.Cond.methodLink "CapWalletsLaw" (95 : Nat) ({ cls := "CapWalletsModel", name := "append", desc := "(I)I" } : Jvm.MethodName)) ∈ wT := w_tab (List.mem_append_right _ (List.mem_append_right _ (List.mem_append_right _ (List.mem_append_left _ (List.mem_of_getElem? (i := 178) rfl))))) rfl
theorem wm_3_179 : (Jvm.Cond.instanceMethod ({ cls := "CapWalletsModel", name := "append", desc := "(I)I" } : Jvm.MethodName)) ∈ wT := w_tab (List.mem_append_right _ (List.mem_append_right _ (List.mem_append_right _ (List.mem_append_left _ (List.mem_of_getElem? (i := 179) rfl))))) rfl
theorem wm_3_18 : (Jvm.Cond.selects "CapWallets" ({ cls := "CapWallets", name := "ifTapped", desc := "(IIIIZ)I" } : Jvm.MethodName) ({ cls := "CapWallets", name := "ifTapped", desc := "(IIIIZ)I" } : Jvm.MethodName)) ∈ wT := w_tab (List.mem_append_right _ (List.mem_append_right _ (List.mem_append_right _ (List.mem_append_left _ (List.mem_of_getElem? (i := 18) rfl))))) rfl
theorem wm_3_180 : (Jvm.Cond.selects "CapWalletsModel" ({ cls := "CapWalletsModel", name := "append", desc := "(I)I" } : Jvm.MethodName) ({ cls := "CapWalletsModel", name := "append", desc := "(I)I" } : Jvm.MethodName)) ∈ wT := w_tab (List.mem_append_right _ (List.mem_append_right _ (List.mem_append_right _ (List.mem_append_left _ (List.mem_of_getElem? (i := 180) rfl))))) rfl
theorem wm_3_181 : (Jvm.Cond.code ({ cls := "CapWalletsModel", name := "append", desc := "(I)I" } : Jvm.MethodName) prog_10_method_29_code (2 : Nat) (Option.some Jvm.ClassFile.FieldType.int)) ∈ wT := w_tab (List.mem_append_right _ (List.mem_append_right _ (List.mem_append_right _ (List.mem_append_left _ (List.mem_of_getElem? (i := 181) rfl))))) rfl
theorem wm_3_182 : (Jvm.Cond.methodLink "CapWalletsLaw" (99 : Nat) ({ cls := "CapWalletsModel", name := "clearBuffer", desc := "()I" } : Jvm.MethodName)) ∈ wT := w_tab (List.mem_append_right _ (List.mem_append_right _ (List.mem_append_right _ (List.mem_append_left _ (List.mem_of_getElem? (i := 182) rfl))))) rfl
theorem wm_3_183 : (Jvm.Cond.instanceMethod ({ cls := "CapWalletsModel", name := "clearBuffer", desc := "()I" } : Jvm.MethodName)) ∈ wT := w_tab (List.mem_append_right _ (List.mem_append_right _ (List.mem_append_right _ (List.mem_append_left _ (List.mem_of_getElem? (i := 183) rfl))))) rfl
theorem wm_3_184 : (Jvm.Cond.selects "CapWalletsModel" ({ cls := "CapWalletsModel", name := "clearBuffer", desc := "()I" } : Jvm.MethodName) ({ cls := "CapWalletsModel", name := "clearBuffer", desc := "()I" } : Jvm.MethodName)) ∈ wT := w_tab (List.mem_append_right _ (List.mem_append_right _ (List.mem_append_right _ (List.mem_append_left _ (List.mem_of_getElem? (i := 184) rfl))))) rfl
theorem wm_3_185 : (Jvm.Cond.code ({ cls := "CapWalletsModel", name := "clearBuffer", desc := "()I" } : Jvm.MethodName) prog_10_method_30_code (2 : Nat) (Option.some Jvm.ClassFile.FieldType.int)) ∈ wT := w_tab (List.mem_append_right _ (List.mem_append_right _ (List.mem_append_right _ (List.mem_append_left _ (List.mem_of_getElem? (i := 185) rfl))))) rfl
theorem wm_3_186 : (Jvm.Cond.methodLink "CapWalletsLaw" (103 : Nat) ({ cls := "CapWalletsModel", name := "firstError", desc := "()I" } : Jvm.MethodName)) ∈ wT := w_tab (List.mem_append_right _ (List.mem_append_right _ (List.mem_append_right _ (List.mem_append_left _ (List.mem_of_getElem? (i := 186) rfl))))) rfl
theorem wm_3_187 : (Jvm.Cond.instanceMethod ({ cls := "CapWalletsModel", name := "firstError", desc := "()I" } : Jvm.MethodName)) ∈ wT := w_tab (List.mem_append_right _ (List.mem_append_right _ (List.mem_append_right _ (List.mem_append_left _ (List.mem_of_getElem? (i := 187) rfl))))) rfl
theorem wm_3_188 : (Jvm.Cond.selects "CapWalletsModel" ({ cls := "CapWalletsModel", name := "firstError", desc := "()I" } : Jvm.MethodName) ({ cls := "CapWalletsModel", name := "firstError", desc := "()I" } : Jvm.MethodName)) ∈ wT := w_tab (List.mem_append_right _ (List.mem_append_right _ (List.mem_append_right _ (List.mem_append_left _ (List.mem_of_getElem? (i := 188) rfl))))) rfl
theorem wm_3_189 : (Jvm.Cond.code ({ cls := "CapWalletsModel", name := "firstError", desc := "()I" } : Jvm.MethodName) prog_10_method_36_code (1 : Nat) (Option.some Jvm.ClassFile.FieldType.int)) ∈ wT := w_tab (List.mem_append_right _ (List.mem_append_right _ (List.mem_append_right _ (List.mem_append_left _ (List.mem_of_getElem? (i := 189) rfl))))) rfl
theorem wm_3_19 : (Jvm.Cond.code ({ cls := "CapWallets", name := "ifTapped", desc := "(IIIIZ)I" } : Jvm.MethodName) prog_1_method_17_code (6 : Nat) (Option.some Jvm.ClassFile.FieldType.int)) ∈ wT := w_tab (List.mem_append_right _ (List.mem_append_right _ (List.mem_append_right _ (List.mem_append_left _ (List.mem_of_getElem? (i := 19) rfl))))) rfl
theorem wm_3_190 : (Jvm.Cond.methodLink "CapWalletsModel" (135 : Nat) ({ cls := "CapWalletsModel", name := "readsAll", desc := "()V" } : Jvm.MethodName)) ∈ wT := w_tab (List.mem_append_right _ (List.mem_append_right _ (List.mem_append_right _ (List.mem_append_left _ (List.mem_of_getElem? (i := 190) rfl))))) rfl
theorem wm_3_192 : (Jvm.Cond.instanceMethod ({ cls := "CapWalletsModel", name := "readsAll", desc := "()V" } : Jvm.MethodName)) ∈ wT := w_tab (List.mem_append_right _ (List.mem_append_right _ (List.mem_append_right _ (List.mem_append_left _ (List.mem_of_getElem? (i := 192) rfl))))) rfl
theorem wm_3_193 : (Jvm.Cond.code ({ cls := "CapWalletsModel", name := "readsAll", desc := "()V" } : Jvm.MethodName) prog_10_method_35_code (1 : Nat) (Option.none : Option Jvm.ClassFile.FieldType)) ∈ wT := w_tab (List.mem_append_right _ (List.mem_append_right _ (List.mem_append_right _ (List.mem_append_left _ (List.mem_of_getElem? (i := 193) rfl))))) rfl
theorem wm_3_194 : (Jvm.Cond.methodLink "CapWalletsModel" (132 : Nat) ({ cls := "CapWalletsModel", name := "readsTap", desc := "()V" } : Jvm.MethodName)) ∈ wT := w_tab (List.mem_append_right _ (List.mem_append_right _ (List.mem_append_right _ (List.mem_append_left _ (List.mem_of_getElem? (i := 194) rfl))))) rfl
theorem wm_3_196 : (Jvm.Cond.instanceMethod ({ cls := "CapWalletsModel", name := "readsTap", desc := "()V" } : Jvm.MethodName)) ∈ wT := w_tab (List.mem_append_right _ (List.mem_append_right _ (List.mem_append_right _ (List.mem_append_left _ (List.mem_of_getElem? (i := 196) rfl))))) rfl
theorem wm_3_197 : (Jvm.Cond.code ({ cls := "CapWalletsModel", name := "readsTap", desc := "()V" } : Jvm.MethodName) prog_10_method_34_code (3 : Nat) (Option.none : Option Jvm.ClassFile.FieldType)) ∈ wT := w_tab (List.mem_append_right _ (List.mem_append_right _ (List.mem_append_right _ (List.mem_append_left _ (List.mem_of_getElem? (i := 197) rfl))))) rfl
theorem wm_3_198 : (Jvm.Cond.methodLink "CapWalletsModel" (125 : Nat) ({ cls := "CapWalletsModel", name := "number", desc := "(I)I" } : Jvm.MethodName)) ∈ wT := w_tab (List.mem_append_right _ (List.mem_append_right _ (List.mem_append_right _ (List.mem_append_left _ (List.mem_of_getElem? (i := 198) rfl))))) rfl
theorem wm_3_2 : (Jvm.Cond.instanceMethod ({ cls := "CapWallets", name := "count", desc := "(I)I" } : Jvm.MethodName)) ∈ wT := w_tab (List.mem_append_right _ (List.mem_append_right _ (List.mem_append_right _ (List.mem_append_left _ (List.mem_of_getElem? (i := 2) rfl))))) rfl
theorem wm_3_20 : (Jvm.Cond.methodLink "CapWalletsLaw" (129 : Nat) ({ cls := "CapWalletsLaw", name := "whyNot", desc := "(LCapWallets;III[J)I" } : Jvm.MethodName)) ∈ wT := w_tab (List.mem_append_right _ (List.mem_append_right _ (List.mem_append_right _ (List.mem_append_left _ (List.mem_of_getElem? (i := 20) rfl))))) rfl
theorem wm_3_200 : (Jvm.Cond.instanceMethod ({ cls := "CapWalletsModel", name := "number", desc := "(I)I" } : Jvm.MethodName)) ∈ wT := w_tab (List.mem_append_right _ (List.mem_append_right _ (List.mem_append_right _ (List.mem_append_left _ (List.mem_of_getElem? (i := 200) rfl))))) rfl
theorem wm_3_201 : (Jvm.Cond.code ({ cls := "CapWalletsModel", name := "number", desc := "(I)I" } : Jvm.MethodName) prog_10_method_33_code (3 : Nat) (Option.some Jvm.ClassFile.FieldType.int)) ∈ wT := w_tab (List.mem_append_right _ (List.mem_append_right _ (List.mem_append_right _ (List.mem_append_left _ (List.mem_of_getElem? (i := 201) rfl))))) rfl
theorem wm_3_202 : (Jvm.Cond.methodLink "CapWalletsModel" (118 : Nat) ({ cls := "CapWalletsModel", name := "sign", desc := "()I" } : Jvm.MethodName)) ∈ wT := w_tab (List.mem_append_right _ (List.mem_append_right _ (List.mem_append_right _ (List.mem_append_left _ (List.mem_of_getElem? (i := 202) rfl))))) rfl
theorem wm_3_204 : (Jvm.Cond.instanceMethod ({ cls := "CapWalletsModel", name := "sign", desc := "()I" } : Jvm.MethodName)) ∈ wT := w_tab (List.mem_append_right _ (List.mem_append_right _ (List.mem_append_right _ (List.mem_append_left _ (List.mem_of_getElem? (i := 204) rfl))))) rfl
theorem wm_3_205 : (Jvm.Cond.code ({ cls := "CapWalletsModel", name := "sign", desc := "()I" } : Jvm.MethodName) prog_10_method_31_code (1 : Nat) (Option.some Jvm.ClassFile.FieldType.int)) ∈ wT := w_tab (List.mem_append_right _ (List.mem_append_right _ (List.mem_append_right _ (List.mem_append_left _ (List.mem_of_getElem? (i := 205) rfl))))) rfl
theorem wm_3_206 : (Jvm.Cond.methodLink "CapWalletsModel" (128 : Nat) ({ cls := "CapWalletsModel", name := "wants", desc := "(I)V" } : Jvm.MethodName)) ∈ wT := w_tab (List.mem_append_right _ (List.mem_append_right _ (List.mem_append_right _ (List.mem_append_left _ (List.mem_of_getElem? (i := 206) rfl))))) rfl
theorem wm_3_208 : (Jvm.Cond.instanceMethod ({ cls := "CapWalletsModel", name := "wants", desc := "(I)V" } : Jvm.MethodName)) ∈ wT := w_tab (List.mem_append_right _ (List.mem_append_right _ (List.mem_append_right _ (List.mem_append_left _ (List.mem_of_getElem? (i := 208) rfl))))) rfl
theorem wm_3_209 : (Jvm.Cond.code ({ cls := "CapWalletsModel", name := "wants", desc := "(I)V" } : Jvm.MethodName) prog_10_method_32_code (2 : Nat) (Option.none : Option Jvm.ClassFile.FieldType)) ∈ wT := w_tab (List.mem_append_right _ (List.mem_append_right _ (List.mem_append_right _ (List.mem_append_left _ (List.mem_of_getElem? (i := 209) rfl))))) rfl
theorem wm_3_21 : (Jvm.Cond.static ({ cls := "CapWalletsLaw", name := "whyNot", desc := "(LCapWallets;III[J)I" } : Jvm.MethodName)) ∈ wT := w_tab (List.mem_append_right _ (List.mem_append_right _ (List.mem_append_right _ (List.mem_append_left _ (List.mem_of_getElem? (i := 21) rfl))))) rfl
theorem wm_3_210 : (Jvm.Cond.methodLink "CapWalletsLaw" (107 : Nat) ({ cls := "CapWalletsModel", name := "load", desc := "()I" } : Jvm.MethodName)) ∈ wT := w_tab (List.mem_append_right _ (List.mem_append_right _ (List.mem_append_right _ (List.mem_append_left _ (List.mem_of_getElem? (i := 210) rfl))))) rfl
theorem wm_3_211 : (Jvm.Cond.instanceMethod ({ cls := "CapWalletsModel", name := "load", desc := "()I" } : Jvm.MethodName)) ∈ wT := w_tab (List.mem_append_right _ (List.mem_append_right _ (List.mem_append_right _ (List.mem_append_left _ (List.mem_of_getElem? (i := 211) rfl))))) rfl
theorem wm_3_212 : (Jvm.Cond.selects "CapWalletsModel" ({ cls := "CapWalletsModel", name := "load", desc := "()I" } : Jvm.MethodName) ({ cls := "CapWalletsModel", name := "load", desc := "()I" } : Jvm.MethodName)) ∈ wT := w_tab (List.mem_append_right _ (List.mem_append_right _ (List.mem_append_right _ (List.mem_append_left _ (List.mem_of_getElem? (i := 212) rfl))))) rfl
theorem wm_3_213 : (Jvm.Cond.code ({ cls := "CapWalletsModel", name := "load", desc := "()I" } : Jvm.MethodName) prog_10_method_37_code (2 : Nat) (Option.some Jvm.ClassFile.FieldType.int)) ∈ wT := w_tab (List.mem_append_right _ (List.mem_append_right _ (List.mem_append_right _ (List.mem_append_left _ (List.mem_of_getElem? (i := 213) rfl))))) rfl
theorem wm_3_214 : (Jvm.Cond.methodLink "CapWalletsLaw" (110 : Nat) ({ cls := "CapWalletsModel", name := "undo", desc := "()I" } : Jvm.MethodName)) ∈ wT := w_tab (List.mem_append_right _ (List.mem_append_right _ (List.mem_append_right _ (List.mem_append_left _ (List.mem_of_getElem? (i := 214) rfl))))) rfl
theorem wm_3_215 : (Jvm.Cond.instanceMethod ({ cls := "CapWalletsModel", name := "undo", desc := "()I" } : Jvm.MethodName)) ∈ wT := w_tab (List.mem_append_right _ (List.mem_append_right _ (List.mem_append_right _ (List.mem_append_left _ (List.mem_of_getElem? (i := 215) rfl))))) rfl
theorem wm_3_216 : (Jvm.Cond.selects "CapWalletsModel" ({ cls := "CapWalletsModel", name := "undo", desc := "()I" } : Jvm.MethodName) ({ cls := "CapWalletsModel", name := "undo", desc := "()I" } : Jvm.MethodName)) ∈ wT := w_tab (List.mem_append_right _ (List.mem_append_right _ (List.mem_append_right _ (List.mem_append_left _ (List.mem_of_getElem? (i := 216) rfl))))) rfl
theorem wm_3_217 : (Jvm.Cond.code ({ cls := "CapWalletsModel", name := "undo", desc := "()I" } : Jvm.MethodName) prog_10_method_38_code (2 : Nat) (Option.some Jvm.ClassFile.FieldType.int)) ∈ wT := w_tab (List.mem_append_right _ (List.mem_append_right _ (List.mem_append_right _ (List.mem_append_left _ (List.mem_of_getElem? (i := 217) rfl))))) rfl
theorem wm_3_218 : (Jvm.Cond.methodLink "CapWalletsLaw" (113 : Nat) ({ cls := "CapWalletsModel", name := "tapOf", desc := "(II)I" } : Jvm.MethodName)) ∈ wT := w_tab (List.mem_append_right _ (List.mem_append_right _ (List.mem_append_right _ (List.mem_append_left _ (List.mem_of_getElem? (i := 218) rfl))))) rfl
theorem wm_3_219 : (Jvm.Cond.instanceMethod ({ cls := "CapWalletsModel", name := "tapOf", desc := "(II)I" } : Jvm.MethodName)) ∈ wT := w_tab (List.mem_append_right _ (List.mem_append_right _ (List.mem_append_right _ (List.mem_append_left _ (List.mem_of_getElem? (i := 219) rfl))))) rfl
theorem wm_3_22 : (Jvm.Cond.codeWith ({ cls := "CapWalletsLaw", name := "whyNot", desc := "(LCapWallets;III[J)I" } : Jvm.MethodName) method_17_code (6 : Nat) (Option.some Jvm.ClassFile.FieldType.int) [((0 : Nat), (12 : Nat), (15 : Nat), (13 : Nat))]) ∈ wT := w_tab (List.mem_append_right _ (List.mem_append_right _ (List.mem_append_right _ (List.mem_append_left _ (List.mem_of_getElem? (i := 22) rfl))))) rfl
theorem wm_3_220 : (Jvm.Cond.selects "CapWalletsModel" ({ cls := "CapWalletsModel", name := "tapOf", desc := "(II)I" } : Jvm.MethodName) ({ cls := "CapWalletsModel", name := "tapOf", desc := "(II)I" } : Jvm.MethodName)) ∈ wT := w_tab (List.mem_append_right _ (List.mem_append_right _ (List.mem_append_right _ (List.mem_append_left _ (List.mem_of_getElem? (i := 220) rfl))))) rfl
theorem wm_3_221 : (Jvm.Cond.code ({ cls := "CapWalletsModel", name := "tapOf", desc := "(II)I" } : Jvm.MethodName) prog_10_method_40_code (3 : Nat) (Option.some Jvm.ClassFile.FieldType.int)) ∈ wT := w_tab (List.mem_append_right _ (List.mem_append_right _ (List.mem_append_right _ (List.mem_append_left _ (List.mem_of_getElem? (i := 221) rfl))))) rfl
theorem wm_3_222 : (Jvm.Cond.methodLink "CapWalletsModel" (138 : Nat) ({ cls := "CapWalletsModel", name := "tellsTap", desc := "(II)I" } : Jvm.MethodName)) ∈ wT := w_tab (List.mem_append_right _ (List.mem_append_right _ (List.mem_append_right _ (List.mem_append_left _ (List.mem_of_getElem? (i := 222) rfl))))) rfl
theorem wm_3_224 : (Jvm.Cond.instanceMethod ({ cls := "CapWalletsModel", name := "tellsTap", desc := "(II)I" } : Jvm.MethodName)) ∈ wT := w_tab (List.mem_append_right _ (List.mem_append_right _ (List.mem_append_right _ (List.mem_append_left _ (List.mem_of_getElem? (i := 224) rfl))))) rfl
theorem wm_3_225 : (Jvm.Cond.code ({ cls := "CapWalletsModel", name := "tellsTap", desc := "(II)I" } : Jvm.MethodName) prog_10_method_39_code (3 : Nat) (Option.some Jvm.ClassFile.FieldType.int)) ∈ wT := w_tab (List.mem_append_right _ (List.mem_append_right _ (List.mem_append_right _ (List.mem_append_left _ (List.mem_of_getElem? (i := 225) rfl))))) rfl
theorem wm_3_226 : (Jvm.Cond.methodLink "CapWalletsLaw" (116 : Nat) ({ cls := "CapWalletsModel", name := "day", desc := "(III)I" } : Jvm.MethodName)) ∈ wT := w_tab (List.mem_append_right _ (List.mem_append_right _ (List.mem_append_right _ (List.mem_append_left _ (List.mem_of_getElem? (i := 226) rfl))))) rfl
theorem wm_3_227 : (Jvm.Cond.instanceMethod ({ cls := "CapWalletsModel", name := "day", desc := "(III)I" } : Jvm.MethodName)) ∈ wT := w_tab (List.mem_append_right _ (List.mem_append_right _ (List.mem_append_right _ (List.mem_append_left _ (List.mem_of_getElem? (i := 227) rfl))))) rfl
theorem wm_3_228 : (Jvm.Cond.selects "CapWalletsModel" ({ cls := "CapWalletsModel", name := "day", desc := "(III)I" } : Jvm.MethodName) ({ cls := "CapWalletsModel", name := "day", desc := "(III)I" } : Jvm.MethodName)) ∈ wT := w_tab (List.mem_append_right _ (List.mem_append_right _ (List.mem_append_right _ (List.mem_append_left _ (List.mem_of_getElem? (i := 228) rfl))))) rfl
theorem wm_3_229 : (Jvm.Cond.code ({ cls := "CapWalletsModel", name := "day", desc := "(III)I" } : Jvm.MethodName) prog_10_method_41_code (4 : Nat) (Option.some Jvm.ClassFile.FieldType.int)) ∈ wT := w_tab (List.mem_append_right _ (List.mem_append_right _ (List.mem_append_right _ (List.mem_append_left _ (List.mem_of_getElem? (i := 229) rfl))))) rfl
theorem wm_3_23 : (Jvm.Cond.methodLink "CapWalletsLaw" (62 : Nat) ({ cls := "CapWallets", name := "whyNot", desc := "(III)I" } : Jvm.MethodName)) ∈ wT := w_tab (List.mem_append_right _ (List.mem_append_right _ (List.mem_append_right _ (List.mem_append_left _ (List.mem_of_getElem? (i := 23) rfl))))) rfl
theorem wm_3_230 : (Jvm.Cond.methodLink "CapWalletsLaw" (119 : Nat) ({ cls := "CapWalletsModel", name := "week", desc := "(III)I" } : Jvm.MethodName)) ∈ wT := w_tab (List.mem_append_right _ (List.mem_append_right _ (List.mem_append_right _ (List.mem_append_left _ (List.mem_of_getElem? (i := 230) rfl))))) rfl
theorem wm_3_231 : (Jvm.Cond.instanceMethod ({ cls := "CapWalletsModel", name := "week", desc := "(III)I" } : Jvm.MethodName)) ∈ wT := w_tab (List.mem_append_right _ (List.mem_append_right _ (List.mem_append_right _ (List.mem_append_left _ (List.mem_of_getElem? (i := 231) rfl))))) rfl
theorem wm_3_232 : (Jvm.Cond.selects "CapWalletsModel" ({ cls := "CapWalletsModel", name := "week", desc := "(III)I" } : Jvm.MethodName) ({ cls := "CapWalletsModel", name := "week", desc := "(III)I" } : Jvm.MethodName)) ∈ wT := w_tab (List.mem_append_right _ (List.mem_append_right _ (List.mem_append_right _ (List.mem_append_left _ (List.mem_of_getElem? (i := 232) rfl))))) rfl
theorem wm_3_233 : (Jvm.Cond.code ({ cls := "CapWalletsModel", name := "week", desc := "(III)I" } : Jvm.MethodName) prog_10_method_43_code (4 : Nat) (Option.some Jvm.ClassFile.FieldType.int)) ∈ wT := w_tab (List.mem_append_right _ (List.mem_append_right _ (List.mem_append_right _ (List.mem_append_left _ (List.mem_of_getElem? (i := 233) rfl))))) rfl
theorem wm_3_234 : (Jvm.Cond.methodLink "CapWalletsModel" (141 : Nat) ({ cls := "CapWalletsModel", name := "tellsWeek", desc := "(III)I" } : Jvm.MethodName)) ∈ wT := w_tab (List.mem_append_right _ (List.mem_append_right _ (List.mem_append_right _ (List.mem_append_left _ (List.mem_of_getElem? (i := 234) rfl))))) rfl
theorem wm_3_236 : (Jvm.Cond.instanceMethod ({ cls := "CapWalletsModel", name := "tellsWeek", desc := "(III)I" } : Jvm.MethodName)) ∈ wT := w_tab (List.mem_append_right _ (List.mem_append_right _ (List.mem_append_right _ (List.mem_append_left _ (List.mem_of_getElem? (i := 236) rfl))))) rfl
theorem wm_3_237 : (Jvm.Cond.code ({ cls := "CapWalletsModel", name := "tellsWeek", desc := "(III)I" } : Jvm.MethodName) prog_10_method_42_code (5 : Nat) (Option.some Jvm.ClassFile.FieldType.int)) ∈ wT := w_tab (List.mem_append_right _ (List.mem_append_right _ (List.mem_append_right _ (List.mem_append_left _ (List.mem_of_getElem? (i := 237) rfl))))) rfl
theorem wm_3_238 : (Jvm.Cond.methodLink "CapWalletsLaw" (122 : Nat) ({ cls := "CapWalletsModel", name := "count", desc := "(I)I" } : Jvm.MethodName)) ∈ wT := w_tab (List.mem_append_right _ (List.mem_append_right _ (List.mem_append_right _ (List.mem_append_left _ (List.mem_of_getElem? (i := 238) rfl))))) rfl
theorem wm_3_239 : (Jvm.Cond.instanceMethod ({ cls := "CapWalletsModel", name := "count", desc := "(I)I" } : Jvm.MethodName)) ∈ wT := w_tab (List.mem_append_right _ (List.mem_append_right _ (List.mem_append_right _ (List.mem_append_left _ (List.mem_of_getElem? (i := 239) rfl))))) rfl
theorem wm_3_24 : (Jvm.Cond.instanceMethod ({ cls := "CapWallets", name := "whyNot", desc := "(III)I" } : Jvm.MethodName)) ∈ wT := w_tab (List.mem_append_right _ (List.mem_append_right _ (List.mem_append_right _ (List.mem_append_left _ (List.mem_of_getElem? (i := 24) rfl))))) rfl
theorem wm_3_25 : (Jvm.Cond.selects "CapWallets" ({ cls := "CapWallets", name := "whyNot", desc := "(III)I" } : Jvm.MethodName) ({ cls := "CapWallets", name := "whyNot", desc := "(III)I" } : Jvm.MethodName)) ∈ wT := w_tab (List.mem_append_right _ (List.mem_append_right _ (List.mem_append_right _ (List.mem_append_left _ (List.mem_of_getElem? (i := 25) rfl))))) rfl
theorem wm_3_26 : (Jvm.Cond.code ({ cls := "CapWallets", name := "whyNot", desc := "(III)I" } : Jvm.MethodName) prog_1_method_18_code (4 : Nat) (Option.some Jvm.ClassFile.FieldType.int)) ∈ wT := w_tab (List.mem_append_right _ (List.mem_append_right _ (List.mem_append_right _ (List.mem_append_left _ (List.mem_of_getElem? (i := 26) rfl))))) rfl
theorem wm_3_27 : (Jvm.Cond.classLink "CapWalletsLaw" (66 : Nat) "CapWalletsModel") ∈ wT := w_tab (List.mem_append_right _ (List.mem_append_right _ (List.mem_append_right _ (List.mem_append_left _ (List.mem_of_getElem? (i := 27) rfl))))) rfl
theorem wm_3_28 : (Jvm.Cond.instantiable "CapWalletsModel" (13 : Nat)) ∈ wT := w_tab (List.mem_append_right _ (List.mem_append_right _ (List.mem_append_right _ (List.mem_append_left _ (List.mem_of_getElem? (i := 28) rfl))))) rfl
theorem wm_3_29 : (Jvm.Cond.methodLink "CapWalletsLaw" (68 : Nat) ({ cls := "CapWalletsModel", name := "<init>", desc := "()V" } : Jvm.MethodName)) ∈ wT := w_tab (List.mem_append_right _ (List.mem_append_right _ (List.mem_append_right _ (List.mem_append_left _ (List.mem_of_getElem? (i := 29) rfl))))) rfl
theorem wm_3_3 : (Jvm.Cond.selects "CapWallets" ({ cls := "CapWallets", name := "count", desc := "(I)I" } : Jvm.MethodName) ({ cls := "CapWallets", name := "count", desc := "(I)I" } : Jvm.MethodName)) ∈ wT := w_tab (List.mem_append_right _ (List.mem_append_right _ (List.mem_append_right _ (List.mem_append_left _ (List.mem_of_getElem? (i := 3) rfl))))) rfl
theorem wm_3_30 : (Jvm.Cond.instanceMethod ({ cls := "CapWalletsModel", name := "<init>", desc := "()V" } : Jvm.MethodName)) ∈ wT := w_tab (List.mem_append_right _ (List.mem_append_right _ (List.mem_append_right _ (List.mem_append_left _ (List.mem_of_getElem? (i := 30) rfl))))) rfl
theorem wm_3_31 : (Jvm.Cond.code ({ cls := "CapWalletsModel", name := "<init>", desc := "()V" } : Jvm.MethodName) prog_10_method_1_code (1 : Nat) (Option.none : Option Jvm.ClassFile.FieldType)) ∈ wT := w_tab (List.mem_append_right _ (List.mem_append_right _ (List.mem_append_right _ (List.mem_append_left _ (List.mem_of_getElem? (i := 31) rfl))))) rfl
theorem wm_3_32 : (Jvm.Cond.methodLink "CapWalletsModel" (1 : Nat) ({ cls := "java/lang/Object", name := "<init>", desc := "()V" } : Jvm.MethodName)) ∈ wT := w_tab (List.mem_append_right _ (List.mem_append_right _ (List.mem_append_right _ (List.mem_append_left _ (List.mem_of_getElem? (i := 32) rfl))))) rfl
theorem wm_3_33 : (Jvm.Cond.fieldLink "CapWalletsModel" (28 : Nat) "CapWalletsModel" "thrown" "I") ∈ wT := w_tab (List.mem_append_right _ (List.mem_append_right _ (List.mem_append_right _ (List.mem_append_left _ (List.mem_of_getElem? (i := 33) rfl))))) rfl
theorem wm_3_34 : (Jvm.Cond.fieldLink "CapWalletsModel" (7 : Nat) "CapWalletsModel" "s" "[I") ∈ wT := w_tab (List.mem_append_right _ (List.mem_append_right _ (List.mem_append_right _ (List.mem_append_left _ (List.mem_of_getElem? (i := 34) rfl))))) rfl
theorem wm_3_35 : (Jvm.Cond.fieldLink "CapWalletsModel" (13 : Nat) "CapWalletsModel" "aside" "[I") ∈ wT := w_tab (List.mem_append_right _ (List.mem_append_right _ (List.mem_append_right _ (List.mem_append_left _ (List.mem_of_getElem? (i := 35) rfl))))) rfl
theorem wm_3_36 : (Jvm.Cond.fieldLink "CapWalletsModel" (16 : Nat) "CapWalletsModel" "saved" "[I") ∈ wT := w_tab (List.mem_append_right _ (List.mem_append_right _ (List.mem_append_right _ (List.mem_append_left _ (List.mem_of_getElem? (i := 36) rfl))))) rfl
theorem wm_3_37 : (Jvm.Cond.fieldLink "CapWalletsModel" (36 : Nat) "CapWalletsModel" "savedMany" "I") ∈ wT := w_tab (List.mem_append_right _ (List.mem_append_right _ (List.mem_append_right _ (List.mem_append_left _ (List.mem_of_getElem? (i := 37) rfl))))) rfl
theorem wm_3_38 : (Jvm.Cond.fieldLink "CapWalletsModel" (19 : Nat) "CapWalletsModel" "buffer" "[I") ∈ wT := w_tab (List.mem_append_right _ (List.mem_append_right _ (List.mem_append_right _ (List.mem_append_left _ (List.mem_of_getElem? (i := 38) rfl))))) rfl
theorem wm_3_39 : (Jvm.Cond.fieldLink "CapWalletsModel" (108 : Nat) "CapWalletsModel" "length" "I") ∈ wT := w_tab (List.mem_append_right _ (List.mem_append_right _ (List.mem_append_right _ (List.mem_append_left _ (List.mem_of_getElem? (i := 39) rfl))))) rfl
theorem wm_3_4 : (Jvm.Cond.code ({ cls := "CapWallets", name := "count", desc := "(I)I" } : Jvm.MethodName) prog_1_method_15_code (2 : Nat) (Option.some Jvm.ClassFile.FieldType.int)) ∈ wT := w_tab (List.mem_append_right _ (List.mem_append_right _ (List.mem_append_right _ (List.mem_append_left _ (List.mem_of_getElem? (i := 4) rfl))))) rfl
theorem wm_3_40 : (Jvm.Cond.fieldLink "CapWalletsModel" (22 : Nat) "CapWalletsModel" "mates" "[I") ∈ wT := w_tab (List.mem_append_right _ (List.mem_append_right _ (List.mem_append_right _ (List.mem_append_left _ (List.mem_of_getElem? (i := 40) rfl))))) rfl
theorem wm_3_41 : (Jvm.Cond.fieldLink "CapWalletsModel" (111 : Nat) "CapWalletsModel" "at" "I") ∈ wT := w_tab (List.mem_append_right _ (List.mem_append_right _ (List.mem_append_right _ (List.mem_append_left _ (List.mem_of_getElem? (i := 41) rfl))))) rfl
theorem wm_3_42 : (Jvm.Cond.fieldLink "CapWalletsModel" (114 : Nat) "CapWalletsModel" "isWell" "Z") ∈ wT := w_tab (List.mem_append_right _ (List.mem_append_right _ (List.mem_append_right _ (List.mem_append_left _ (List.mem_of_getElem? (i := 42) rfl))))) rfl
theorem wm_3_43 : (Jvm.Cond.fieldLink "CapWalletsModel" (25 : Nat) "CapWalletsModel" "read" "[I") ∈ wT := w_tab (List.mem_append_right _ (List.mem_append_right _ (List.mem_append_right _ (List.mem_append_left _ (List.mem_of_getElem? (i := 43) rfl))))) rfl
theorem wm_3_44 : (Jvm.Cond.fieldLink "CapWalletsModel" (122 : Nat) "CapWalletsModel" "readMany" "I") ∈ wT := w_tab (List.mem_append_right _ (List.mem_append_right _ (List.mem_append_right _ (List.mem_append_left _ (List.mem_of_getElem? (i := 44) rfl))))) rfl
theorem wm_3_45 : (Jvm.Cond.fieldLink "CapWalletsModel" (175 : Nat) "CapWalletsModel" "hash" "J") ∈ wT := w_tab (List.mem_append_right _ (List.mem_append_right _ (List.mem_append_right _ (List.mem_append_left _ (List.mem_of_getElem? (i := 45) rfl))))) rfl
theorem wm_3_46 : (Jvm.Cond.lays "CapWalletsModel" "CapWalletsModel" "thrown" "I") ∈ wT := w_tab (List.mem_append_right _ (List.mem_append_right _ (List.mem_append_right _ (List.mem_append_left _ (List.mem_of_getElem? (i := 46) rfl))))) rfl
theorem wm_3_48 : (Jvm.Cond.laysFinal "CapWalletsModel" "CapWalletsModel" "s" "[I") ∈ wT := w_tab (List.mem_append_right _ (List.mem_append_right _ (List.mem_append_right _ (List.mem_append_left _ (List.mem_of_getElem? (i := 48) rfl))))) rfl
theorem wm_3_50 : (Jvm.Cond.laysFinal "CapWalletsModel" "CapWalletsModel" "aside" "[I") ∈ wT := w_tab (List.mem_append_right _ (List.mem_append_right _ (List.mem_append_right _ (List.mem_append_left _ (List.mem_of_getElem? (i := 50) rfl))))) rfl
theorem wm_3_52 : (Jvm.Cond.laysFinal "CapWalletsModel" "CapWalletsModel" "saved" "[I") ∈ wT := w_tab (List.mem_append_right _ (List.mem_append_right _ (List.mem_append_right _ (List.mem_append_left _ (List.mem_of_getElem? (i := 52) rfl))))) rfl
theorem wm_3_54 : (Jvm.Cond.lays "CapWalletsModel" "CapWalletsModel" "savedMany" "I") ∈ wT := w_tab (List.mem_append_right _ (List.mem_append_right _ (List.mem_append_right _ (List.mem_append_left _ (List.mem_of_getElem? (i := 54) rfl))))) rfl
theorem wm_3_56 : (Jvm.Cond.laysFinal "CapWalletsModel" "CapWalletsModel" "buffer" "[I") ∈ wT := w_tab (List.mem_append_right _ (List.mem_append_right _ (List.mem_append_right _ (List.mem_append_left _ (List.mem_of_getElem? (i := 56) rfl))))) rfl
theorem wm_3_58 : (Jvm.Cond.lays "CapWalletsModel" "CapWalletsModel" "length" "I") ∈ wT := w_tab (List.mem_append_right _ (List.mem_append_right _ (List.mem_append_right _ (List.mem_append_left _ (List.mem_of_getElem? (i := 58) rfl))))) rfl
theorem wm_3_6 : (Jvm.Cond.methodLink "CapWalletsLaw" (123 : Nat) ({ cls := "CapWalletsLaw", name := "ledger", desc := "(LCapWallets;III[J)I" } : Jvm.MethodName)) ∈ wT := w_tab (List.mem_append_right _ (List.mem_append_right _ (List.mem_append_right _ (List.mem_append_left _ (List.mem_of_getElem? (i := 6) rfl))))) rfl
theorem wm_3_60 : (Jvm.Cond.laysFinal "CapWalletsModel" "CapWalletsModel" "mates" "[I") ∈ wT := w_tab (List.mem_append_right _ (List.mem_append_right _ (List.mem_append_right _ (List.mem_append_left _ (List.mem_of_getElem? (i := 60) rfl))))) rfl
theorem wm_3_62 : (Jvm.Cond.lays "CapWalletsModel" "CapWalletsModel" "at" "I") ∈ wT := w_tab (List.mem_append_right _ (List.mem_append_right _ (List.mem_append_right _ (List.mem_append_left _ (List.mem_of_getElem? (i := 62) rfl))))) rfl
theorem wm_3_64 : (Jvm.Cond.lays "CapWalletsModel" "CapWalletsModel" "isWell" "Z") ∈ wT := w_tab (List.mem_append_right _ (List.mem_append_right _ (List.mem_append_right _ (List.mem_append_left _ (List.mem_of_getElem? (i := 64) rfl))))) rfl
theorem wm_3_66 : (Jvm.Cond.laysFinal "CapWalletsModel" "CapWalletsModel" "read" "[I") ∈ wT := w_tab (List.mem_append_right _ (List.mem_append_right _ (List.mem_append_right _ (List.mem_append_left _ (List.mem_of_getElem? (i := 66) rfl))))) rfl
theorem wm_3_68 : (Jvm.Cond.lays "CapWalletsModel" "CapWalletsModel" "readMany" "I") ∈ wT := w_tab (List.mem_append_right _ (List.mem_append_right _ (List.mem_append_right _ (List.mem_append_left _ (List.mem_of_getElem? (i := 68) rfl))))) rfl
theorem wm_3_7 : (Jvm.Cond.static ({ cls := "CapWalletsLaw", name := "ledger", desc := "(LCapWallets;III[J)I" } : Jvm.MethodName)) ∈ wT := w_tab (List.mem_append_right _ (List.mem_append_right _ (List.mem_append_right _ (List.mem_append_left _ (List.mem_of_getElem? (i := 7) rfl))))) rfl
theorem wm_3_70 : (Jvm.Cond.lays "CapWalletsModel" "CapWalletsModel" "hash" "J") ∈ wT := w_tab (List.mem_append_right _ (List.mem_append_right _ (List.mem_append_right _ (List.mem_append_left _ (List.mem_of_getElem? (i := 70) rfl))))) rfl
theorem wm_3_73 : (Jvm.Cond.methodLink "CapWalletsLaw" (75 : Nat) ({ cls := "CapWalletsModel", name := "thrown", desc := "()I" } : Jvm.MethodName)) ∈ wT := w_tab (List.mem_append_right _ (List.mem_append_right _ (List.mem_append_right _ (List.mem_append_left _ (List.mem_of_getElem? (i := 73) rfl))))) rfl
theorem wm_3_74 : (Jvm.Cond.instanceMethod ({ cls := "CapWalletsModel", name := "thrown", desc := "()I" } : Jvm.MethodName)) ∈ wT := w_tab (List.mem_append_right _ (List.mem_append_right _ (List.mem_append_right _ (List.mem_append_left _ (List.mem_of_getElem? (i := 74) rfl))))) rfl
theorem wm_3_75 : (Jvm.Cond.selects "CapWalletsModel" ({ cls := "CapWalletsModel", name := "thrown", desc := "()I" } : Jvm.MethodName) ({ cls := "CapWalletsModel", name := "thrown", desc := "()I" } : Jvm.MethodName)) ∈ wT := w_tab (List.mem_append_right _ (List.mem_append_right _ (List.mem_append_right _ (List.mem_append_left _ (List.mem_of_getElem? (i := 75) rfl))))) rfl
theorem wm_3_76 : (Jvm.Cond.code ({ cls := "CapWalletsModel", name := "thrown", desc := "()I" } : Jvm.MethodName) prog_10_method_2_code (1 : Nat) (Option.some Jvm.ClassFile.FieldType.int)) ∈ wT := w_tab (List.mem_append_right _ (List.mem_append_right _ (List.mem_append_right _ (List.mem_append_left _ (List.mem_of_getElem? (i := 76) rfl))))) rfl
theorem wm_3_77 : (Jvm.Cond.methodLink "CapWalletsLaw" (74 : Nat) ({ cls := "CapWalletsModel", name := "tap", desc := "(IIIIZ)I" } : Jvm.MethodName)) ∈ wT := w_tab (List.mem_append_right _ (List.mem_append_right _ (List.mem_append_right _ (List.mem_append_left _ (List.mem_of_getElem? (i := 77) rfl))))) rfl
theorem wm_3_78 : (Jvm.Cond.instanceMethod ({ cls := "CapWalletsModel", name := "tap", desc := "(IIIIZ)I" } : Jvm.MethodName)) ∈ wT := w_tab (List.mem_append_right _ (List.mem_append_right _ (List.mem_append_right _ (List.mem_append_left _ (List.mem_of_getElem? (i := 78) rfl))))) rfl
theorem wm_3_79 : (Jvm.Cond.selects "CapWalletsModel" ({ cls := "CapWalletsModel", name := "tap", desc := "(IIIIZ)I" } : Jvm.MethodName) ({ cls := "CapWalletsModel", name := "tap", desc := "(IIIIZ)I" } : Jvm.MethodName)) ∈ wT := w_tab (List.mem_append_right _ (List.mem_append_right _ (List.mem_append_right _ (List.mem_append_left _ (List.mem_of_getElem? (i := 79) rfl))))) rfl
theorem wm_3_8 : (Jvm.Cond.codeWith ({ cls := "CapWalletsLaw", name := "ledger", desc := "(LCapWallets;III[J)I" } : Jvm.MethodName) method_15_code (6 : Nat) (Option.some Jvm.ClassFile.FieldType.int) [((0 : Nat), (12 : Nat), (15 : Nat), (13 : Nat))]) ∈ wT := w_tab (List.mem_append_right _ (List.mem_append_right _ (List.mem_append_right _ (List.mem_append_left _ (List.mem_of_getElem? (i := 8) rfl))))) rfl
theorem wm_3_80 : (Jvm.Cond.code ({ cls := "CapWalletsModel", name := "tap", desc := "(IIIIZ)I" } : Jvm.MethodName) prog_10_method_21_code (6 : Nat) (Option.some Jvm.ClassFile.FieldType.int)) ∈ wT := w_tab (List.mem_append_right _ (List.mem_append_right _ (List.mem_append_right _ (List.mem_append_left _ (List.mem_of_getElem? (i := 80) rfl))))) rfl
theorem wm_3_81 : (Jvm.Cond.methodLink "CapWalletsModel" (70 : Nat) ({ cls := "CapWalletsModel", name := "isTold", desc := "(IIII)Z" } : Jvm.MethodName)) ∈ wT := w_tab (List.mem_append_right _ (List.mem_append_right _ (List.mem_append_right _ (List.mem_append_left _ (List.mem_of_getElem? (i := 81) rfl))))) rfl
theorem wm_3_82 : (Jvm.Cond.static ({ cls := "CapWalletsModel", name := "isTold", desc := "(IIII)Z" } : Jvm.MethodName)) ∈ wT := w_tab (List.mem_append_right _ (List.mem_append_right _ (List.mem_append_right _ (List.mem_append_left _ (List.mem_of_getElem? (i := 82) rfl))))) rfl
theorem wm_3_83 : (Jvm.Cond.code ({ cls := "CapWalletsModel", name := "isTold", desc := "(IIII)Z" } : Jvm.MethodName) prog_10_method_20_code (4 : Nat) (Option.some Jvm.ClassFile.FieldType.boolean)) ∈ wT := w_tab (List.mem_append_right _ (List.mem_append_right _ (List.mem_append_right _ (List.mem_append_left _ (List.mem_of_getElem? (i := 83) rfl))))) rfl
theorem wm_3_84 : (Jvm.Cond.methodLink "CapWalletsModel" (67 : Nat) ({ cls := "CapWalletsModel", name := "isWallet", desc := "(I)Z" } : Jvm.MethodName)) ∈ wT := w_tab (List.mem_append_right _ (List.mem_append_right _ (List.mem_append_right _ (List.mem_append_left _ (List.mem_of_getElem? (i := 84) rfl))))) rfl
theorem wm_3_85 : (Jvm.Cond.static ({ cls := "CapWalletsModel", name := "isWallet", desc := "(I)Z" } : Jvm.MethodName)) ∈ wT := w_tab (List.mem_append_right _ (List.mem_append_right _ (List.mem_append_right _ (List.mem_append_left _ (List.mem_of_getElem? (i := 85) rfl))))) rfl
theorem wm_3_86 : (Jvm.Cond.code ({ cls := "CapWalletsModel", name := "isWallet", desc := "(I)Z" } : Jvm.MethodName) prog_10_method_7_code (1 : Nat) (Option.some Jvm.ClassFile.FieldType.boolean)) ∈ wT := w_tab (List.mem_append_right _ (List.mem_append_right _ (List.mem_append_right _ (List.mem_append_left _ (List.mem_of_getElem? (i := 86) rfl))))) rfl
theorem wm_3_87 : (Jvm.Cond.methodLink "CapWalletsModel" (32 : Nat) ({ cls := "CapWalletsModel", name := "in", desc := "(III)Z" } : Jvm.MethodName)) ∈ wT := w_tab (List.mem_append_right _ (List.mem_append_right _ (List.mem_append_right _ (List.mem_append_left _ (List.mem_of_getElem? (i := 87) rfl))))) rfl
theorem wm_3_88 : (Jvm.Cond.static ({ cls := "CapWalletsModel", name := "in", desc := "(III)Z" } : Jvm.MethodName)) ∈ wT := w_tab (List.mem_append_right _ (List.mem_append_right _ (List.mem_append_right _ (List.mem_append_left _ (List.mem_of_getElem? (i := 88) rfl))))) rfl
theorem wm_3_89 : (Jvm.Cond.code ({ cls := "CapWalletsModel", name := "in", desc := "(III)Z" } : Jvm.MethodName) prog_10_method_3_code (3 : Nat) (Option.some Jvm.ClassFile.FieldType.boolean)) ∈ wT := w_tab (List.mem_append_right _ (List.mem_append_right _ (List.mem_append_right _ (List.mem_append_left _ (List.mem_of_getElem? (i := 89) rfl))))) rfl
theorem wm_3_9 : (Jvm.Cond.methodLink "CapWalletsLaw" (56 : Nat) ({ cls := "CapWallets", name := "ledger", desc := "(III)I" } : Jvm.MethodName)) ∈ wT := w_tab (List.mem_append_right _ (List.mem_append_right _ (List.mem_append_right _ (List.mem_append_left _ (List.mem_of_getElem? (i := 9) rfl))))) rfl
theorem wm_3_90 : (Jvm.Cond.methodLink "CapWalletsModel" (74 : Nat) ({ cls := "CapWalletsModel", name := "fails", desc := "(I)I" } : Jvm.MethodName)) ∈ wT := w_tab (List.mem_append_right _ (List.mem_append_right _ (List.mem_append_right _ (List.mem_append_left _ (List.mem_of_getElem? (i := 90) rfl))))) rfl
theorem wm_3_92 : (Jvm.Cond.instanceMethod ({ cls := "CapWalletsModel", name := "fails", desc := "(I)I" } : Jvm.MethodName)) ∈ wT := w_tab (List.mem_append_right _ (List.mem_append_right _ (List.mem_append_right _ (List.mem_append_left _ (List.mem_of_getElem? (i := 92) rfl))))) rfl
theorem wm_3_93 : (Jvm.Cond.code ({ cls := "CapWalletsModel", name := "fails", desc := "(I)I" } : Jvm.MethodName) prog_10_method_4_code (2 : Nat) (Option.some Jvm.ClassFile.FieldType.int)) ∈ wT := w_tab (List.mem_append_right _ (List.mem_append_right _ (List.mem_append_right _ (List.mem_append_left _ (List.mem_of_getElem? (i := 93) rfl))))) rfl
theorem wm_3_94 : (Jvm.Cond.methodLink "CapWalletsModel" (77 : Nat) ({ cls := "CapWalletsModel", name := "saves", desc := "()V" } : Jvm.MethodName)) ∈ wT := w_tab (List.mem_append_right _ (List.mem_append_right _ (List.mem_append_right _ (List.mem_append_left _ (List.mem_of_getElem? (i := 94) rfl))))) rfl
theorem wm_3_96 : (Jvm.Cond.instanceMethod ({ cls := "CapWalletsModel", name := "saves", desc := "()V" } : Jvm.MethodName)) ∈ wT := w_tab (List.mem_append_right _ (List.mem_append_right _ (List.mem_append_right _ (List.mem_append_left _ (List.mem_of_getElem? (i := 96) rfl))))) rfl
theorem wm_3_97 : (Jvm.Cond.code ({ cls := "CapWalletsModel", name := "saves", desc := "()V" } : Jvm.MethodName) prog_10_method_8_code (2 : Nat) (Option.none : Option Jvm.ClassFile.FieldType)) ∈ wT := w_tab (List.mem_append_right _ (List.mem_append_right _ (List.mem_append_right _ (List.mem_append_left _ (List.mem_of_getElem? (i := 97) rfl))))) rfl
theorem wm_3_98 : (Jvm.Cond.methodLink "CapWalletsModel" (80 : Nat) ({ cls := "CapWalletsModel", name := "comes", desc := "(IIIIII)I" } : Jvm.MethodName)) ∈ wT := w_tab (List.mem_append_right _ (List.mem_append_right _ (List.mem_append_right _ (List.mem_append_left _ (List.mem_of_getElem? (i := 98) rfl))))) rfl
theorem wm_4_0 : (Jvm.Cond.selects "CapWalletsModel" ({ cls := "CapWalletsModel", name := "count", desc := "(I)I" } : Jvm.MethodName) ({ cls := "CapWalletsModel", name := "count", desc := "(I)I" } : Jvm.MethodName)) ∈ wT := w_tab (List.mem_append_right _ (List.mem_append_right _ (List.mem_append_right _ (List.mem_append_right _ (List.mem_of_getElem? (i := 0) rfl))))) rfl
theorem wm_4_1 : (Jvm.Cond.code ({ cls := "CapWalletsModel", name := "count", desc := "(I)I" } : Jvm.MethodName) prog_10_method_48_code (2 : Nat) (Option.some Jvm.ClassFile.FieldType.int)) ∈ wT := w_tab (List.mem_append_right _ (List.mem_append_right _ (List.mem_append_right _ (List.mem_append_right _ (List.mem_of_getElem? (i := 1) rfl))))) rfl
theorem wm_4_10 : (Jvm.Cond.methodLink "CapWalletsModel" (147 : Nat) ({ cls := "CapWalletsModel", name := "alone", desc := "()I" } : Jvm.MethodName)) ∈ wT := w_tab (List.mem_append_right _ (List.mem_append_right _ (List.mem_append_right _ (List.mem_append_right _ (List.mem_of_getElem? (i := 10) rfl))))) rfl
theorem wm_4_12 : (Jvm.Cond.instanceMethod ({ cls := "CapWalletsModel", name := "alone", desc := "()I" } : Jvm.MethodName)) ∈ wT := w_tab (List.mem_append_right _ (List.mem_append_right _ (List.mem_append_right _ (List.mem_append_right _ (List.mem_of_getElem? (i := 12) rfl))))) rfl
theorem wm_4_13 : (Jvm.Cond.code ({ cls := "CapWalletsModel", name := "alone", desc := "()I" } : Jvm.MethodName) prog_10_method_45_code (3 : Nat) (Option.some Jvm.ClassFile.FieldType.int)) ∈ wT := w_tab (List.mem_append_right _ (List.mem_append_right _ (List.mem_append_right _ (List.mem_append_right _ (List.mem_of_getElem? (i := 13) rfl))))) rfl
theorem wm_4_14 : (Jvm.Cond.methodLink "CapWalletsModel" (150 : Nat) ({ cls := "CapWalletsModel", name := "unsettled", desc := "()I" } : Jvm.MethodName)) ∈ wT := w_tab (List.mem_append_right _ (List.mem_append_right _ (List.mem_append_right _ (List.mem_append_right _ (List.mem_of_getElem? (i := 14) rfl))))) rfl
theorem wm_4_16 : (Jvm.Cond.instanceMethod ({ cls := "CapWalletsModel", name := "unsettled", desc := "()I" } : Jvm.MethodName)) ∈ wT := w_tab (List.mem_append_right _ (List.mem_append_right _ (List.mem_append_right _ (List.mem_append_right _ (List.mem_of_getElem? (i := 16) rfl))))) rfl
theorem wm_4_17 : (Jvm.Cond.code ({ cls := "CapWalletsModel", name := "unsettled", desc := "()I" } : Jvm.MethodName) prog_10_method_46_code (3 : Nat) (Option.some Jvm.ClassFile.FieldType.int)) ∈ wT := w_tab (List.mem_append_right _ (List.mem_append_right _ (List.mem_append_right _ (List.mem_append_right _ (List.mem_of_getElem? (i := 17) rfl))))) rfl
theorem wm_4_18 : (Jvm.Cond.methodLink "CapWalletsLaw" (125 : Nat) ({ cls := "CapWalletsModel", name := "ledger", desc := "(III)I" } : Jvm.MethodName)) ∈ wT := w_tab (List.mem_append_right _ (List.mem_append_right _ (List.mem_append_right _ (List.mem_append_right _ (List.mem_of_getElem? (i := 18) rfl))))) rfl
theorem wm_4_19 : (Jvm.Cond.instanceMethod ({ cls := "CapWalletsModel", name := "ledger", desc := "(III)I" } : Jvm.MethodName)) ∈ wT := w_tab (List.mem_append_right _ (List.mem_append_right _ (List.mem_append_right _ (List.mem_append_right _ (List.mem_of_getElem? (i := 19) rfl))))) rfl
theorem wm_4_2 : (Jvm.Cond.methodLink "CapWalletsModel" (153 : Nat) ({ cls := "CapWalletsModel", name := "counts", desc := "(I)I" } : Jvm.MethodName)) ∈ wT := w_tab (List.mem_append_right _ (List.mem_append_right _ (List.mem_append_right _ (List.mem_append_right _ (List.mem_of_getElem? (i := 2) rfl))))) rfl
theorem wm_4_20 : (Jvm.Cond.selects "CapWalletsModel" ({ cls := "CapWalletsModel", name := "ledger", desc := "(III)I" } : Jvm.MethodName) ({ cls := "CapWalletsModel", name := "ledger", desc := "(III)I" } : Jvm.MethodName)) ∈ wT := w_tab (List.mem_append_right _ (List.mem_append_right _ (List.mem_append_right _ (List.mem_append_right _ (List.mem_of_getElem? (i := 20) rfl))))) rfl
theorem wm_4_21 : (Jvm.Cond.code ({ cls := "CapWalletsModel", name := "ledger", desc := "(III)I" } : Jvm.MethodName) prog_10_method_50_code (4 : Nat) (Option.some Jvm.ClassFile.FieldType.int)) ∈ wT := w_tab (List.mem_append_right _ (List.mem_append_right _ (List.mem_append_right _ (List.mem_append_right _ (List.mem_of_getElem? (i := 21) rfl))))) rfl
theorem wm_4_22 : (Jvm.Cond.methodLink "CapWalletsModel" (156 : Nat) ({ cls := "CapWalletsModel", name := "entry", desc := "(III)I" } : Jvm.MethodName)) ∈ wT := w_tab (List.mem_append_right _ (List.mem_append_right _ (List.mem_append_right _ (List.mem_append_right _ (List.mem_of_getElem? (i := 22) rfl))))) rfl
theorem wm_4_24 : (Jvm.Cond.instanceMethod ({ cls := "CapWalletsModel", name := "entry", desc := "(III)I" } : Jvm.MethodName)) ∈ wT := w_tab (List.mem_append_right _ (List.mem_append_right _ (List.mem_append_right _ (List.mem_append_right _ (List.mem_of_getElem? (i := 24) rfl))))) rfl
theorem wm_4_25 : (Jvm.Cond.code ({ cls := "CapWalletsModel", name := "entry", desc := "(III)I" } : Jvm.MethodName) prog_10_method_49_code (5 : Nat) (Option.some Jvm.ClassFile.FieldType.int)) ∈ wT := w_tab (List.mem_append_right _ (List.mem_append_right _ (List.mem_append_right _ (List.mem_append_right _ (List.mem_of_getElem? (i := 25) rfl))))) rfl
theorem wm_4_26 : (Jvm.Cond.methodLink "CapWalletsLaw" (128 : Nat) ({ cls := "CapWalletsModel", name := "ifTapped", desc := "(IIIIZ)I" } : Jvm.MethodName)) ∈ wT := w_tab (List.mem_append_right _ (List.mem_append_right _ (List.mem_append_right _ (List.mem_append_right _ (List.mem_of_getElem? (i := 26) rfl))))) rfl
theorem wm_4_27 : (Jvm.Cond.instanceMethod ({ cls := "CapWalletsModel", name := "ifTapped", desc := "(IIIIZ)I" } : Jvm.MethodName)) ∈ wT := w_tab (List.mem_append_right _ (List.mem_append_right _ (List.mem_append_right _ (List.mem_append_right _ (List.mem_of_getElem? (i := 27) rfl))))) rfl
theorem wm_4_28 : (Jvm.Cond.selects "CapWalletsModel" ({ cls := "CapWalletsModel", name := "ifTapped", desc := "(IIIIZ)I" } : Jvm.MethodName) ({ cls := "CapWalletsModel", name := "ifTapped", desc := "(IIIIZ)I" } : Jvm.MethodName)) ∈ wT := w_tab (List.mem_append_right _ (List.mem_append_right _ (List.mem_append_right _ (List.mem_append_right _ (List.mem_of_getElem? (i := 28) rfl))))) rfl
theorem wm_4_29 : (Jvm.Cond.code ({ cls := "CapWalletsModel", name := "ifTapped", desc := "(IIIIZ)I" } : Jvm.MethodName) prog_10_method_52_code (6 : Nat) (Option.some Jvm.ClassFile.FieldType.int)) ∈ wT := w_tab (List.mem_append_right _ (List.mem_append_right _ (List.mem_append_right _ (List.mem_append_right _ (List.mem_of_getElem? (i := 29) rfl))))) rfl
theorem wm_4_30 : (Jvm.Cond.methodLink "CapWalletsModel" (159 : Nat) ({ cls := "CapWalletsModel", name := "would", desc := "(IIIII)I" } : Jvm.MethodName)) ∈ wT := w_tab (List.mem_append_right _ (List.mem_append_right _ (List.mem_append_right _ (List.mem_append_right _ (List.mem_of_getElem? (i := 30) rfl))))) rfl
theorem wm_4_32 : (Jvm.Cond.instanceMethod ({ cls := "CapWalletsModel", name := "would", desc := "(IIIII)I" } : Jvm.MethodName)) ∈ wT := w_tab (List.mem_append_right _ (List.mem_append_right _ (List.mem_append_right _ (List.mem_append_right _ (List.mem_of_getElem? (i := 32) rfl))))) rfl
theorem wm_4_33 : (Jvm.Cond.code ({ cls := "CapWalletsModel", name := "would", desc := "(IIIII)I" } : Jvm.MethodName) prog_10_method_51_code (8 : Nat) (Option.some Jvm.ClassFile.FieldType.int)) ∈ wT := w_tab (List.mem_append_right _ (List.mem_append_right _ (List.mem_append_right _ (List.mem_append_right _ (List.mem_of_getElem? (i := 33) rfl))))) rfl
theorem wm_4_34 : (Jvm.Cond.methodLink "CapWalletsLaw" (131 : Nat) ({ cls := "CapWalletsModel", name := "whyNot", desc := "(III)I" } : Jvm.MethodName)) ∈ wT := w_tab (List.mem_append_right _ (List.mem_append_right _ (List.mem_append_right _ (List.mem_append_right _ (List.mem_of_getElem? (i := 34) rfl))))) rfl
theorem wm_4_35 : (Jvm.Cond.instanceMethod ({ cls := "CapWalletsModel", name := "whyNot", desc := "(III)I" } : Jvm.MethodName)) ∈ wT := w_tab (List.mem_append_right _ (List.mem_append_right _ (List.mem_append_right _ (List.mem_append_right _ (List.mem_of_getElem? (i := 35) rfl))))) rfl
theorem wm_4_36 : (Jvm.Cond.selects "CapWalletsModel" ({ cls := "CapWalletsModel", name := "whyNot", desc := "(III)I" } : Jvm.MethodName) ({ cls := "CapWalletsModel", name := "whyNot", desc := "(III)I" } : Jvm.MethodName)) ∈ wT := w_tab (List.mem_append_right _ (List.mem_append_right _ (List.mem_append_right _ (List.mem_append_right _ (List.mem_of_getElem? (i := 36) rfl))))) rfl
theorem wm_4_37 : (Jvm.Cond.code ({ cls := "CapWalletsModel", name := "whyNot", desc := "(III)I" } : Jvm.MethodName) prog_10_method_53_code (5 : Nat) (Option.some Jvm.ClassFile.FieldType.int)) ∈ wT := w_tab (List.mem_append_right _ (List.mem_append_right _ (List.mem_append_right _ (List.mem_append_right _ (List.mem_of_getElem? (i := 37) rfl))))) rfl
theorem wm_4_38 : (Jvm.Cond.methodLink "CapWalletsLaw" (135 : Nat) ({ cls := "CapWalletsModel", name := "leaky", desc := "()I" } : Jvm.MethodName)) ∈ wT := w_tab (List.mem_append_right _ (List.mem_append_right _ (List.mem_append_right _ (List.mem_append_right _ (List.mem_of_getElem? (i := 38) rfl))))) rfl
theorem wm_4_39 : (Jvm.Cond.instanceMethod ({ cls := "CapWalletsModel", name := "leaky", desc := "()I" } : Jvm.MethodName)) ∈ wT := w_tab (List.mem_append_right _ (List.mem_append_right _ (List.mem_append_right _ (List.mem_append_right _ (List.mem_of_getElem? (i := 39) rfl))))) rfl
theorem wm_4_4 : (Jvm.Cond.instanceMethod ({ cls := "CapWalletsModel", name := "counts", desc := "(I)I" } : Jvm.MethodName)) ∈ wT := w_tab (List.mem_append_right _ (List.mem_append_right _ (List.mem_append_right _ (List.mem_append_right _ (List.mem_of_getElem? (i := 4) rfl))))) rfl
theorem wm_4_40 : (Jvm.Cond.selects "CapWalletsModel" ({ cls := "CapWalletsModel", name := "leaky", desc := "()I" } : Jvm.MethodName) ({ cls := "CapWalletsModel", name := "leaky", desc := "()I" } : Jvm.MethodName)) ∈ wT := w_tab (List.mem_append_right _ (List.mem_append_right _ (List.mem_append_right _ (List.mem_append_right _ (List.mem_of_getElem? (i := 40) rfl))))) rfl
theorem wm_4_41 : (Jvm.Cond.code ({ cls := "CapWalletsModel", name := "leaky", desc := "()I" } : Jvm.MethodName) prog_10_method_55_code (1 : Nat) (Option.some Jvm.ClassFile.FieldType.int)) ∈ wT := w_tab (List.mem_append_right _ (List.mem_append_right _ (List.mem_append_right _ (List.mem_append_right _ (List.mem_of_getElem? (i := 41) rfl))))) rfl
theorem wm_4_42 : (Jvm.Cond.methodLink "CapWalletsModel" (163 : Nat) ({ cls := "CapWalletsModel", name := "leakyOne", desc := "()I" } : Jvm.MethodName)) ∈ wT := w_tab (List.mem_append_right _ (List.mem_append_right _ (List.mem_append_right _ (List.mem_append_right _ (List.mem_of_getElem? (i := 42) rfl))))) rfl
theorem wm_4_44 : (Jvm.Cond.instanceMethod ({ cls := "CapWalletsModel", name := "leakyOne", desc := "()I" } : Jvm.MethodName)) ∈ wT := w_tab (List.mem_append_right _ (List.mem_append_right _ (List.mem_append_right _ (List.mem_append_right _ (List.mem_of_getElem? (i := 44) rfl))))) rfl
theorem wm_4_45 : (Jvm.Cond.code ({ cls := "CapWalletsModel", name := "leakyOne", desc := "()I" } : Jvm.MethodName) prog_10_method_54_code (6 : Nat) (Option.some Jvm.ClassFile.FieldType.int)) ∈ wT := w_tab (List.mem_append_right _ (List.mem_append_right _ (List.mem_append_right _ (List.mem_append_right _ (List.mem_of_getElem? (i := 45) rfl))))) rfl
theorem wm_4_46 : (Jvm.Cond.methodLink "CapWalletsLaw" (139 : Nat) ({ cls := "CapWalletsModel", name := "leastCap", desc := "()I" } : Jvm.MethodName)) ∈ wT := w_tab (List.mem_append_right _ (List.mem_append_right _ (List.mem_append_right _ (List.mem_append_right _ (List.mem_of_getElem? (i := 46) rfl))))) rfl
theorem wm_4_47 : (Jvm.Cond.instanceMethod ({ cls := "CapWalletsModel", name := "leastCap", desc := "()I" } : Jvm.MethodName)) ∈ wT := w_tab (List.mem_append_right _ (List.mem_append_right _ (List.mem_append_right _ (List.mem_append_right _ (List.mem_of_getElem? (i := 47) rfl))))) rfl
theorem wm_4_48 : (Jvm.Cond.selects "CapWalletsModel" ({ cls := "CapWalletsModel", name := "leastCap", desc := "()I" } : Jvm.MethodName) ({ cls := "CapWalletsModel", name := "leastCap", desc := "()I" } : Jvm.MethodName)) ∈ wT := w_tab (List.mem_append_right _ (List.mem_append_right _ (List.mem_append_right _ (List.mem_append_right _ (List.mem_of_getElem? (i := 48) rfl))))) rfl
theorem wm_4_49 : (Jvm.Cond.code ({ cls := "CapWalletsModel", name := "leastCap", desc := "()I" } : Jvm.MethodName) prog_10_method_57_code (1 : Nat) (Option.some Jvm.ClassFile.FieldType.int)) ∈ wT := w_tab (List.mem_append_right _ (List.mem_append_right _ (List.mem_append_right _ (List.mem_append_right _ (List.mem_of_getElem? (i := 49) rfl))))) rfl
theorem wm_4_5 : (Jvm.Cond.code ({ cls := "CapWalletsModel", name := "counts", desc := "(I)I" } : Jvm.MethodName) prog_10_method_47_code (2 : Nat) (Option.some Jvm.ClassFile.FieldType.int)) ∈ wT := w_tab (List.mem_append_right _ (List.mem_append_right _ (List.mem_append_right _ (List.mem_append_right _ (List.mem_of_getElem? (i := 5) rfl))))) rfl
theorem wm_4_50 : (Jvm.Cond.methodLink "CapWalletsModel" (166 : Nat) ({ cls := "CapWalletsModel", name := "least", desc := "()I" } : Jvm.MethodName)) ∈ wT := w_tab (List.mem_append_right _ (List.mem_append_right _ (List.mem_append_right _ (List.mem_append_right _ (List.mem_of_getElem? (i := 50) rfl))))) rfl
theorem wm_4_52 : (Jvm.Cond.instanceMethod ({ cls := "CapWalletsModel", name := "least", desc := "()I" } : Jvm.MethodName)) ∈ wT := w_tab (List.mem_append_right _ (List.mem_append_right _ (List.mem_append_right _ (List.mem_append_right _ (List.mem_of_getElem? (i := 52) rfl))))) rfl
theorem wm_4_53 : (Jvm.Cond.code ({ cls := "CapWalletsModel", name := "least", desc := "()I" } : Jvm.MethodName) prog_10_method_56_code (4 : Nat) (Option.some Jvm.ClassFile.FieldType.int)) ∈ wT := w_tab (List.mem_append_right _ (List.mem_append_right _ (List.mem_append_right _ (List.mem_append_right _ (List.mem_of_getElem? (i := 53) rfl))))) rfl
theorem wm_4_54 : (Jvm.Cond.methodLink "CapWalletsLaw" (144 : Nat) ({ cls := "CapWalletsModel", name := "capShare", desc := "()D" } : Jvm.MethodName)) ∈ wT := w_tab (List.mem_append_right _ (List.mem_append_right _ (List.mem_append_right _ (List.mem_append_right _ (List.mem_of_getElem? (i := 54) rfl))))) rfl
theorem wm_4_55 : (Jvm.Cond.instanceMethod ({ cls := "CapWalletsModel", name := "capShare", desc := "()D" } : Jvm.MethodName)) ∈ wT := w_tab (List.mem_append_right _ (List.mem_append_right _ (List.mem_append_right _ (List.mem_append_right _ (List.mem_of_getElem? (i := 55) rfl))))) rfl
theorem wm_4_56 : (Jvm.Cond.selects "CapWalletsModel" ({ cls := "CapWalletsModel", name := "capShare", desc := "()D" } : Jvm.MethodName) ({ cls := "CapWalletsModel", name := "capShare", desc := "()D" } : Jvm.MethodName)) ∈ wT := w_tab (List.mem_append_right _ (List.mem_append_right _ (List.mem_append_right _ (List.mem_append_right _ (List.mem_of_getElem? (i := 56) rfl))))) rfl
theorem wm_4_57 : (Jvm.Cond.code ({ cls := "CapWalletsModel", name := "capShare", desc := "()D" } : Jvm.MethodName) prog_10_method_59_code (1 : Nat) (Option.some Jvm.ClassFile.FieldType.double)) ∈ wT := w_tab (List.mem_append_right _ (List.mem_append_right _ (List.mem_append_right _ (List.mem_append_right _ (List.mem_of_getElem? (i := 57) rfl))))) rfl
theorem wm_4_58 : (Jvm.Cond.methodLink "CapWalletsModel" (169 : Nat) ({ cls := "CapWalletsModel", name := "share", desc := "()D" } : Jvm.MethodName)) ∈ wT := w_tab (List.mem_append_right _ (List.mem_append_right _ (List.mem_append_right _ (List.mem_append_right _ (List.mem_of_getElem? (i := 58) rfl))))) rfl
theorem wm_4_6 : (Jvm.Cond.methodLink "CapWalletsModel" (144 : Nat) ({ cls := "CapWalletsModel", name := "overWeeks", desc := "(I)I" } : Jvm.MethodName)) ∈ wT := w_tab (List.mem_append_right _ (List.mem_append_right _ (List.mem_append_right _ (List.mem_append_right _ (List.mem_of_getElem? (i := 6) rfl))))) rfl
theorem wm_4_60 : (Jvm.Cond.instanceMethod ({ cls := "CapWalletsModel", name := "share", desc := "()D" } : Jvm.MethodName)) ∈ wT := w_tab (List.mem_append_right _ (List.mem_append_right _ (List.mem_append_right _ (List.mem_append_right _ (List.mem_of_getElem? (i := 60) rfl))))) rfl
theorem wm_4_61 : (Jvm.Cond.code ({ cls := "CapWalletsModel", name := "share", desc := "()D" } : Jvm.MethodName) prog_10_method_58_code (2 : Nat) (Option.some Jvm.ClassFile.FieldType.double)) ∈ wT := w_tab (List.mem_append_right _ (List.mem_append_right _ (List.mem_append_right _ (List.mem_append_right _ (List.mem_of_getElem? (i := 61) rfl))))) rfl
theorem wm_4_62 : (Jvm.Cond.methodLink "CapWalletsLaw" (149 : Nat) ({ cls := "CapWalletsModel", name := "digest", desc := "()J" } : Jvm.MethodName)) ∈ wT := w_tab (List.mem_append_right _ (List.mem_append_right _ (List.mem_append_right _ (List.mem_append_right _ (List.mem_of_getElem? (i := 62) rfl))))) rfl
theorem wm_4_63 : (Jvm.Cond.instanceMethod ({ cls := "CapWalletsModel", name := "digest", desc := "()J" } : Jvm.MethodName)) ∈ wT := w_tab (List.mem_append_right _ (List.mem_append_right _ (List.mem_append_right _ (List.mem_append_right _ (List.mem_of_getElem? (i := 63) rfl))))) rfl
theorem wm_4_64 : (Jvm.Cond.selects "CapWalletsModel" ({ cls := "CapWalletsModel", name := "digest", desc := "()J" } : Jvm.MethodName) ({ cls := "CapWalletsModel", name := "digest", desc := "()J" } : Jvm.MethodName)) ∈ wT := w_tab (List.mem_append_right _ (List.mem_append_right _ (List.mem_append_right _ (List.mem_append_right _ (List.mem_of_getElem? (i := 64) rfl))))) rfl
theorem wm_4_65 : (Jvm.Cond.code ({ cls := "CapWalletsModel", name := "digest", desc := "()J" } : Jvm.MethodName) prog_10_method_63_code (2 : Nat) (Option.some Jvm.ClassFile.FieldType.long)) ∈ wT := w_tab (List.mem_append_right _ (List.mem_append_right _ (List.mem_append_right _ (List.mem_append_right _ (List.mem_of_getElem? (i := 65) rfl))))) rfl
theorem wm_4_66 : (Jvm.Cond.constantLong "CapWalletsModel" (187 : Nat) (3023 : Int64)) ∈ wT := w_tab (List.mem_append_right _ (List.mem_append_right _ (List.mem_append_right _ (List.mem_append_right _ (List.mem_of_getElem? (i := 66) rfl))))) rfl
theorem wm_4_67 : (Jvm.Cond.methodLink "CapWalletsModel" (179 : Nat) ({ cls := "CapWalletsModel", name := "hashes", desc := "(J)V" } : Jvm.MethodName)) ∈ wT := w_tab (List.mem_append_right _ (List.mem_append_right _ (List.mem_append_right _ (List.mem_append_right _ (List.mem_of_getElem? (i := 67) rfl))))) rfl
theorem wm_4_69 : (Jvm.Cond.instanceMethod ({ cls := "CapWalletsModel", name := "hashes", desc := "(J)V" } : Jvm.MethodName)) ∈ wT := w_tab (List.mem_append_right _ (List.mem_append_right _ (List.mem_append_right _ (List.mem_append_right _ (List.mem_of_getElem? (i := 69) rfl))))) rfl
theorem wm_4_70 : (Jvm.Cond.code ({ cls := "CapWalletsModel", name := "hashes", desc := "(J)V" } : Jvm.MethodName) prog_10_method_60_code (3 : Nat) (Option.none : Option Jvm.ClassFile.FieldType)) ∈ wT := w_tab (List.mem_append_right _ (List.mem_append_right _ (List.mem_append_right _ (List.mem_append_right _ (List.mem_of_getElem? (i := 70) rfl))))) rfl
theorem wm_4_71 : (Jvm.Cond.constantLong "CapWalletsModel" (173 : Nat) (31 : Int64)) ∈ wT := w_tab (List.mem_append_right _ (List.mem_append_right _ (List.mem_append_right _ (List.mem_append_right _ (List.mem_of_getElem? (i := 71) rfl))))) rfl
theorem wm_4_72 : (Jvm.Cond.methodLink "CapWalletsModel" (189 : Nat) ({ cls := "CapWalletsModel", name := "hashesWallet", desc := "(I)V" } : Jvm.MethodName)) ∈ wT := w_tab (List.mem_append_right _ (List.mem_append_right _ (List.mem_append_right _ (List.mem_append_right _ (List.mem_of_getElem? (i := 72) rfl))))) rfl
theorem wm_4_74 : (Jvm.Cond.instanceMethod ({ cls := "CapWalletsModel", name := "hashesWallet", desc := "(I)V" } : Jvm.MethodName)) ∈ wT := w_tab (List.mem_append_right _ (List.mem_append_right _ (List.mem_append_right _ (List.mem_append_right _ (List.mem_of_getElem? (i := 74) rfl))))) rfl
theorem wm_4_75 : (Jvm.Cond.code ({ cls := "CapWalletsModel", name := "hashesWallet", desc := "(I)V" } : Jvm.MethodName) prog_10_method_62_code (3 : Nat) (Option.none : Option Jvm.ClassFile.FieldType)) ∈ wT := w_tab (List.mem_append_right _ (List.mem_append_right _ (List.mem_append_right _ (List.mem_append_right _ (List.mem_of_getElem? (i := 75) rfl))))) rfl
theorem wm_4_76 : (Jvm.Cond.methodLink "CapWalletsModel" (183 : Nat) ({ cls := "CapWalletsModel", name := "hashesDay", desc := "(II)V" } : Jvm.MethodName)) ∈ wT := w_tab (List.mem_append_right _ (List.mem_append_right _ (List.mem_append_right _ (List.mem_append_right _ (List.mem_of_getElem? (i := 76) rfl))))) rfl
theorem wm_4_78 : (Jvm.Cond.instanceMethod ({ cls := "CapWalletsModel", name := "hashesDay", desc := "(II)V" } : Jvm.MethodName)) ∈ wT := w_tab (List.mem_append_right _ (List.mem_append_right _ (List.mem_append_right _ (List.mem_append_right _ (List.mem_of_getElem? (i := 78) rfl))))) rfl
theorem wm_4_79 : (Jvm.Cond.code ({ cls := "CapWalletsModel", name := "hashesDay", desc := "(II)V" } : Jvm.MethodName) prog_10_method_61_code (4 : Nat) (Option.none : Option Jvm.ClassFile.FieldType)) ∈ wT := w_tab (List.mem_append_right _ (List.mem_append_right _ (List.mem_append_right _ (List.mem_append_right _ (List.mem_of_getElem? (i := 79) rfl))))) rfl
theorem wm_4_8 : (Jvm.Cond.instanceMethod ({ cls := "CapWalletsModel", name := "overWeeks", desc := "(I)I" } : Jvm.MethodName)) ∈ wT := w_tab (List.mem_append_right _ (List.mem_append_right _ (List.mem_append_right _ (List.mem_append_right _ (List.mem_of_getElem? (i := 8) rfl))))) rfl
theorem wm_4_80 : (Jvm.Cond.methodLink "CapWalletsModel" (192 : Nat) ({ cls := "java/lang/Double", name := "doubleToLongBits", desc := "(D)J" } : Jvm.MethodName)) ∈ wT := w_tab (List.mem_append_right _ (List.mem_append_right _ (List.mem_append_right _ (List.mem_append_right _ (List.mem_of_getElem? (i := 80) rfl))))) rfl
theorem wm_4_81 : (Jvm.Cond.static ({ cls := "java/lang/Double", name := "doubleToLongBits", desc := "(D)J" } : Jvm.MethodName)) ∈ wT := w_tab (List.mem_append_right _ (List.mem_append_right _ (List.mem_append_right _ (List.mem_append_right _ (List.mem_of_getElem? (i := 81) rfl))))) rfl
theorem wm_4_82 : (Jvm.Cond.code ({ cls := "java/lang/Double", name := "doubleToLongBits", desc := "(D)J" } : Jvm.MethodName) prog_11_method_23_code (2 : Nat) (Option.some Jvm.ClassFile.FieldType.long)) ∈ wT := w_tab (List.mem_append_right _ (List.mem_append_right _ (List.mem_append_right _ (List.mem_append_right _ (List.mem_of_getElem? (i := 82) rfl))))) rfl
theorem wm_4_83 : (Jvm.Cond.methodLink "java/lang/Double" (122 : Nat) ({ cls := "java/lang/Double", name := "isNaN", desc := "(D)Z" } : Jvm.MethodName)) ∈ wT := w_tab (List.mem_append_right _ (List.mem_append_right _ (List.mem_append_right _ (List.mem_append_right _ (List.mem_of_getElem? (i := 83) rfl))))) rfl
theorem wm_4_84 : (Jvm.Cond.static ({ cls := "java/lang/Double", name := "isNaN", desc := "(D)Z" } : Jvm.MethodName)) ∈ wT := w_tab (List.mem_append_right _ (List.mem_append_right _ (List.mem_append_right _ (List.mem_append_right _ (List.mem_of_getElem? (i := 84) rfl))))) rfl
theorem wm_4_85 : (Jvm.Cond.code ({ cls := "java/lang/Double", name := "isNaN", desc := "(D)Z" } : Jvm.MethodName) prog_11_method_6_code (2 : Nat) (Option.some Jvm.ClassFile.FieldType.boolean)) ∈ wT := w_tab (List.mem_append_right _ (List.mem_append_right _ (List.mem_append_right _ (List.mem_append_right _ (List.mem_of_getElem? (i := 85) rfl))))) rfl
theorem wm_4_86 : (Jvm.Cond.methodLink "java/lang/Double" (134 : Nat) ({ cls := "java/lang/Double", name := "doubleToRawLongBits", desc := "(D)J" } : Jvm.MethodName)) ∈ wT := w_tab (List.mem_append_right _ (List.mem_append_right _ (List.mem_append_right _ (List.mem_append_right _ (List.mem_of_getElem? (i := 86) rfl))))) rfl
theorem wm_4_87 : (Jvm.Cond.static ({ cls := "java/lang/Double", name := "doubleToRawLongBits", desc := "(D)J" } : Jvm.MethodName)) ∈ wT := w_tab (List.mem_append_right _ (List.mem_append_right _ (List.mem_append_right _ (List.mem_append_right _ (List.mem_of_getElem? (i := 87) rfl))))) rfl
theorem wm_4_88 : (Jvm.Cond.native ({ cls := "java/lang/Double", name := "doubleToRawLongBits", desc := "(D)J" } : Jvm.MethodName)) ∈ wT := w_tab (List.mem_append_right _ (List.mem_append_right _ (List.mem_append_right _ (List.mem_append_right _ (List.mem_of_getElem? (i := 88) rfl))))) rfl
theorem wm_4_89 : (Jvm.Cond.constantLong "java/lang/Double" (137 : Nat) (9221120237041090560 : Int64)) ∈ wT := w_tab (List.mem_append_right _ (List.mem_append_right _ (List.mem_append_right _ (List.mem_append_right _ (List.mem_of_getElem? (i := 89) rfl))))) rfl
theorem wm_4_9 : (Jvm.Cond.code ({ cls := "CapWalletsModel", name := "overWeeks", desc := "(I)I" } : Jvm.MethodName) prog_10_method_44_code (4 : Nat) (Option.some Jvm.ClassFile.FieldType.int)) ∈ wT := w_tab (List.mem_append_right _ (List.mem_append_right _ (List.mem_append_right _ (List.mem_append_right _ (List.mem_of_getElem? (i := 9) rfl))))) rfl
theorem wm_4_90 : (Jvm.Cond.arrayClass Jvm.ClassFile.FieldType.long) ∈ wT := w_tab (List.mem_append_right _ (List.mem_append_right _ (List.mem_append_right _ (List.mem_append_right _ (List.mem_of_getElem? (i := 90) rfl))))) rfl
theorem wi_X0 : ∀ w ∈ u_ws RX0 TX0 9, w ∈ wT := by
  intro w hw
  obtain ⟨k, hk, rfl⟩ := List.mem_map.mp hw
  match k, List.mem_range.mp hk with
  | 0, _ => exact wm_0_116
  | 1, _ => exact wm_0_118
  | 2, _ => exact wm_0_120
  | 3, _ => exact wm_0_122
  | 4, _ => exact wm_0_124
  | 5, _ => exact wm_0_126
  | 6, _ => exact wm_0_128
  | 7, _ => exact wm_0_130
  | 8, _ => exact wm_0_132
  | k + 9, h9 => exact absurd h9 (by omega)
theorem wi_X2 : ∀ w ∈ u_ws RX2 TX2 3, w ∈ wT := by
  intro w hw
  obtain ⟨k, hk, rfl⟩ := List.mem_map.mp hw
  match k, List.mem_range.mp hk with
  | 0, _ => exact wm_0_148
  | 1, _ => exact wm_0_150
  | 2, _ => exact wm_0_152
  | k + 3, h9 => exact absurd h9 (by omega)
theorem wi_X3 : ∀ w ∈ u_ws RX3 TX3 10, w ∈ wT := by
  intro w hw
  obtain ⟨k, hk, rfl⟩ := List.mem_map.mp hw
  match k, List.mem_range.mp hk with
  | 0, _ => exact wm_0_74
  | 1, _ => exact wm_0_76
  | 2, _ => exact wm_0_78
  | 3, _ => exact wm_0_80
  | 4, _ => exact wm_0_82
  | 5, _ => exact wm_0_84
  | 6, _ => exact wm_0_86
  | 7, _ => exact wm_0_88
  | 8, _ => exact wm_0_90
  | 9, _ => exact wm_0_92
  | k + 10, h9 => exact absurd h9 (by omega)
theorem wi_X5 : ∀ w ∈ u_ws RX5 TX5 2, w ∈ wT := by
  intro w hw
  obtain ⟨k, hk, rfl⟩ := List.mem_map.mp hw
  match k, List.mem_range.mp hk with
  | 0, _ => exact wm_0_42
  | 1, _ => exact wm_0_44
  | k + 2, h9 => exact absurd h9 (by omega)
theorem wi_X6 : ∀ w ∈ u_ws RX6 TX6 8, w ∈ wT := by
  intro w hw
  obtain ⟨k, hk, rfl⟩ := List.mem_map.mp hw
  match k, List.mem_range.mp hk with
  | 0, _ => exact wm_0_173
  | 1, _ => exact wm_0_175
  | 2, _ => exact wm_0_177
  | 3, _ => exact wm_0_179
  | 4, _ => exact wm_0_181
  | 5, _ => exact wm_0_183
  | 6, _ => exact wm_0_185
  | 7, _ => exact wm_0_187
  | k + 8, h9 => exact absurd h9 (by omega)
theorem wi_X7 : ∀ w ∈ u_ws RX7 TX7 8, w ∈ wT := by
  intro w hw
  obtain ⟨k, hk, rfl⟩ := List.mem_map.mp hw
  match k, List.mem_range.mp hk with
  | 0, _ => exact wm_1_19
  | 1, _ => exact wm_1_21
  | 2, _ => exact wm_1_23
  | 3, _ => exact wm_1_25
  | 4, _ => exact wm_1_27
  | 5, _ => exact wm_1_29
  | 6, _ => exact wm_1_31
  | 7, _ => exact wm_1_33
  | k + 8, h9 => exact absurd h9 (by omega)
theorem wi_X8 : ∀ w ∈ u_ws RX8 TX8 13, w ∈ wT := by
  intro w hw
  obtain ⟨k, hk, rfl⟩ := List.mem_map.mp hw
  match k, List.mem_range.mp hk with
  | 0, _ => exact wm_3_46
  | 1, _ => exact wm_3_48
  | 2, _ => exact wm_3_50
  | 3, _ => exact wm_3_52
  | 4, _ => exact wm_3_54
  | 5, _ => exact wm_3_56
  | 6, _ => exact wm_3_58
  | 7, _ => exact wm_3_60
  | 8, _ => exact wm_3_62
  | 9, _ => exact wm_3_64
  | 10, _ => exact wm_3_66
  | 11, _ => exact wm_3_68
  | 12, _ => exact wm_3_70
  | k + 13, h9 => exact absurd h9 (by omega)
end
section
/-! OUR OWN: a small heap of our own (an address, its entry), what it says of the machine's heap, and rows over it -/
section MH
abbrev mE : Type := (Bool × Nat × (Nat → Int32)) ⊕ ((Nat × (Nat → Int64)) ⊕ ((Nat × (Nat → Option Nat)) ⊕ (Nat × List Value)))
abbrev mH : Type := Nat → Option mE
abbrev mI (n : Nat) (f : Nat → Int32) : mE := .inl (true, n, f)
abbrev mC (n : Nat) (f : Nat → Int32) : mE := .inl (false, n, f)
abbrev mL (n : Nat) (f : Nat → Int64) : mE := .inr (.inl (n, f))
abbrev mR (n : Nat) (f : Nat → Option Nat) : mE := .inr (.inr (.inl (n, f)))
abbrev mO (ci : Nat) (fs : List Value) : mE := .inr (.inr (.inr (ci, fs)))
def m_up (h : mH) (a : Nat) (e : mE) : mH := fun q => if q = a then some e else h q
def m_in (i : Int32) (n : Nat) : Prop := ¬ (i < 0) ∧ i.toNatClampNeg < n
theorem m_in_vp {i : Int32} {n : Nat} (h : m_in i n) : vp_in i n := fun q => q.elim h.1 (fun z => absurd h.2 (Nat.not_lt.mpr z))
def m_iald (h : mH) (a : Nat) (i : Int32) : Option Int32 := match h a with
  | some (.inl (_, n, f)) => if ¬ (i < 0) ∧ i.toNatClampNeg < n then some (f i.toNatClampNeg) else none
  | _ => none
def m_iast (h : mH) (a : Nat) (i x : Int32) : Option mH := match h a with
  | some (.inl (true, n, f)) => if ¬ (i < 0) ∧ i.toNatClampNeg < n then some (m_up h a (mI n (upd f i.toNatClampNeg x))) else none
  | _ => none
def m_lald (h : mH) (a : Nat) (i : Int32) : Option Int64 := match h a with
  | some (.inr (.inl (n, f))) => if ¬ (i < 0) ∧ i.toNatClampNeg < n then some (f i.toNatClampNeg) else none
  | _ => none
def m_last (h : mH) (a : Nat) (i : Int32) (x : Int64) : Option mH := match h a with
  | some (.inr (.inl (n, f))) => if ¬ (i < 0) ∧ i.toNatClampNeg < n then some (m_up h a (mL n (vp_updL f i.toNatClampNeg x))) else none
  | _ => none
def m_aald (h : mH) (a : Nat) (i : Int32) : Option (Option Nat) := match h a with
  | some (.inr (.inr (.inl (n, f)))) => if ¬ (i < 0) ∧ i.toNatClampNeg < n then some (f i.toNatClampNeg) else none
  | _ => none
def m_aast (h : mH) (a : Nat) (i : Int32) (v : Nat) : Option mH := match h a, h v with
  | some (.inr (.inr (.inl (n, f)))), some (.inr (.inr (.inr (c, _)))) => if c = 2 ∧ ¬ (i < 0) ∧ i.toNatClampNeg < n then some (m_up h a (mR n (va_up f i.toNatClampNeg (some v)))) else none
  | _, _ => none
def m_ilen (h : mH) (a : Nat) : Option Int32 := match h a with
  | some (.inl (_, n, _)) => some (Int32.ofNat n)
  | _ => none
def m_alen (h : mH) (a : Nat) : Option Int32 := match h a with
  | some (.inr (.inr (.inl (n, _)))) => some (Int32.ofNat n)
  | _ => none
def m_get (h : mH) (ci a k : Nat) : Option Value := match h a with
  | some (.inr (.inr (.inr (c, fs)))) => if c = ci then fs[k]? else none
  | _ => none
def m_gi (h : mH) (ci a k : Nat) : Option Int32 := match m_get h ci a k with
  | some (.int v) => some v
  | _ => none
def m_gl (h : mH) (ci a k : Nat) : Option Int64 := match m_get h ci a k with
  | some (.long v) => some v
  | _ => none
def m_gr (h : mH) (ci a k : Nat) : Option Nat := match m_get h ci a k with
  | some (.ref v) => some v
  | _ => none
def m_put (h : mH) (ci a k : Nat) (v : Value) : Option mH := match h a with
  | some (.inr (.inr (.inr (c, fs)))) => if c = ci ∧ k < fs.length then some (m_up h a (mO c (fs.set k v))) else none
  | _ => none
/-- a boolean that is 0 or 1 -/
def m_z (v : Int32) : Option Int32 := if v = 0 ∨ v = 1 then some v else none
/-- the object is there, of its kind -/
def m_is (h : mH) (ci a : Nat) : Option Unit := match h a with
  | some (.inr (.inr (.inr (c, _)))) => if c = ci then some () else none
  | _ => none
def m_div (x y : Int32) : Option Int32 := if y = 0 then none else some (x / y)
def m_rem (x y : Int32) : Option Int32 := if y = 0 then none else some (x - x / y * y)
def m_d (x : UInt64) : Option UInt64 := if x &&& 0x7fffffffffffffff ≤ 0x7ff0000000000000 then some x else none
/-- which cells may be written -/
def m_wr (h : mH) (q : Nat) : Prop := match h q with
  | none => False
  | some (.inl (false, _, _)) => False
  | some _ => True
def m_A (h : mH) (z : Nat) : Nat → Prop := fun q => m_wr h q ∨ z ≤ q
theorem m_up_same (h : mH) (a : Nat) (e : mE) : m_up h a e a = some e := if_pos rfl
theorem m_up_ne {h : mH} {a q : Nat} {e : mE} (hq : q ≠ a) : m_up h a e q = h q := if_neg hq
end MH
end
section
/-! OUR OWN: what the small heap says of the machine's -/
section RL
abbrev m_I3 : Type := ClassId × (ClassId × ClassId)
def m_tys (ids : m_I3) : List (ClassId × FieldType) := [(ids.1, .int), (ids.2.1, .long), (ids.2.2, .object RX3)]
def m_cst (U : State) (a n : Nat) (f : Nat → Int32) (H : Heap) : Prop := ∃ cell : Cell, H[a]? = some cell ∧ U.isArrayOf cell .int ∧ cell.vm ≠ .unknown ∧ n ≤ cell.slots.size ∧ cell.slots.size.toInt32 = Int32.ofNat n ∧ ∀ j : Nat, j < n → cell.slots[j]? = some (.int (f j))
def m_at (D : va_G) (ids : m_I3) (U : State) (H : Heap) (a : Nat) (e : mE) : Prop := match e with
  | .inl (true, n, f) => va_at D vwCl (a, .inl (ids.1, n, .inl f)) H
  | .inl (false, n, f) => m_cst U a n f H
  | .inr (.inl (n, f)) => va_at D vwCl (a, .inl (ids.2.1, n, .inr (.inl f))) H
  | .inr (.inr (.inl (n, f))) => va_at D vwCl (a, .inl (ids.2.2, n, .inr (.inr (.inr (.inr f))))) H
  | .inr (.inr (.inr (c, fs))) => va_at D vwCl (a, .inr (c, fs)) H
theorem m_at.kept {D : va_G} {ids : m_I3} {U : State} {H H1 : Heap} {a : Nat} {e : mE} (h : m_at D ids U H a e) (hq : H1[a]? = H[a]?) : m_at D ids U H1 a e := by
  match e, h with
  | .inl (true, n, f), h => exact va_at.kept (D := D) (cl := vwCl) (q := (a, .inl (ids.1, n, .inl f))) h hq
  | .inl (false, n, f), ⟨ce9, h1, h2⟩ => exact ⟨ce9, by rw [hq]; exact h1, h2⟩
  | .inr (.inl (n, f)), h => exact va_at.kept (D := D) (cl := vwCl) (q := (a, .inl (ids.2.1, n, .inr (.inl f)))) h hq
  | .inr (.inr (.inl (n, f))), h => exact va_at.kept (D := D) (cl := vwCl) (q := (a, .inl (ids.2.2, n, .inr (.inr (.inr (.inr f)))))) h hq
  | .inr (.inr (.inr (c, fs))), h => exact va_at.kept (D := D) (cl := vwCl) (q := (a, .inr (c, fs))) h hq
theorem m_at.lt {D : va_G} {ids : m_I3} {U : State} {H : Heap} {a : Nat} {e : mE} (h : m_at D ids U H a e) : a < H.size := by
  match e, h with
  | .inl (true, n, f), h => exact va_at.lt (D := D) (cl := vwCl) (q := (a, .inl (ids.1, n, .inl f))) h
  | .inl (false, n, f), ⟨ce9, h1, h2⟩ => exact (Array.getElem?_eq_some_iff.mp h1).1
  | .inr (.inl (n, f)), h => exact va_at.lt (D := D) (cl := vwCl) (q := (a, .inl (ids.2.1, n, .inr (.inl f)))) h
  | .inr (.inr (.inl (n, f))), h => exact va_at.lt (D := D) (cl := vwCl) (q := (a, .inl (ids.2.2, n, .inr (.inr (.inr (.inr f)))))) h
  | .inr (.inr (.inr (c, fs))), h => exact va_at.lt (D := D) (cl := vwCl) (q := (a, .inr (c, fs))) h
theorem m_at.moved {D : va_G} {ids : m_I3} {u U : State} {H : Heap} {a : Nat} {e : mE} (hvm : u.vm.Alike U.vm) (h : m_at D ids u H a e) : m_at D ids U H a e := by
  match e, h with
  | .inl (true, n, f), h => exact h
  | .inl (false, n, f), ⟨ce9, h1, h2, h3⟩ => exact ⟨ce9, h1, State.isArrayOf_alike hvm h2, h3⟩
  | .inr (.inl (n, f)), h => exact h
  | .inr (.inr (.inl (n, f))), h => exact h
  | .inr (.inr (.inr (c, fs))), h => exact h
/-- the whole: the tables, the entries, which may be written -/
def Rl (D : va_G) (ids : m_I3) (A : Nat → Prop) (h : mH) (U : State) (H : Heap) : Prop :=
  va_K D vwCl (m_tys ids) U ∧ (∀ (a : Nat) (e : mE), h a = some e → m_at D ids U H a e) ∧ ∀ a : Nat, m_wr h a → A a
theorem Rl.K {D : va_G} {ids : m_I3} {A : Nat → Prop} {h : mH} {U : State} {H : Heap} (r : Rl D ids A h U H) : va_K D vwCl (m_tys ids) U := r.1
theorem Rl.moved {D : va_G} {ids : m_I3} {A : Nat → Prop} {h : mH} {u U : State} {H : Heap} (hvm : u.vm.Alike U.vm) (r : Rl D ids A h u H) : Rl D ids A h U H :=
  ⟨va_K.moved hvm r.1, fun a e q => (r.2.1 a e q).moved hvm, r.2.2⟩
theorem Rl.lt {D : va_G} {ids : m_I3} {A : Nat → Prop} {h : mH} {U : State} {H : Heap} (r : Rl D ids A h U H) {a : Nat} {e : mE} (q : h a = some e) : a < H.size := (r.2.1 a e q).lt
theorem Rl.narrow {D : va_G} {ids : m_I3} {A B : Nat → Prop} {h : mH} {U : State} {H : Heap} (r : Rl D ids A h U H) (hB : ∀ a, m_wr h a → B a) : Rl D ids B h U H := ⟨r.1, r.2.1, hB⟩
theorem Rl.kept {D : va_G} {ids : m_I3} {A : Nat → Prop} {h : mH} {U : State} {H H1 : Heap} (r : Rl D ids A h U H) (hq : ∀ a : Nat, a < H.size → H1[a]? = H[a]?) : Rl D ids A h U H1 :=
  ⟨r.1, fun a e q => (r.2.1 a e q).kept (hq a (r.lt q)), r.2.2⟩
theorem m_wr_up {h : mH} {a : Nat} {e : mE} (ha : m_wr h a) {q : Nat} (hq : m_wr (m_up h a e) q) : m_wr h q := by
  by_cases hqa : q = a
  · subst hqa; exact ha
  · unfold m_wr at hq ⊢
    rw [m_up_ne hqa] at hq
    exact hq
theorem Rl.up {D : va_G} {ids : m_I3} {A : Nat → Prop} {h : mH} {U : State} {H H1 : Heap} (r : Rl D ids A h U H) {a : Nat} {e : mE} (ha : m_wr h a) (h1 : m_at D ids U H1 a e) (hq : ∀ q : Nat, q ≠ a → H1[q]? = H[q]?) : Rl D ids A (m_up h a e) U H1 := by
  refine ⟨r.1, fun b e1 hb => ?_, fun b hb => r.2.2 b (m_wr_up ha hb)⟩
  by_cases hba : b = a
  · subst hba
    rw [m_up_same] at hb
    cases hb
    exact h1
  · rw [m_up_ne hba] at hb
    exact (r.2.1 b e1 hb).kept (hq b hba)
/-- a new cell, behind all that are there -/
theorem Rl.push {D : va_G} {ids : m_I3} {A : Nat → Prop} {h : mH} {U : State} {H H1 : Heap} (r : Rl D ids A h U H) {z : Nat} (hz : H.size = z) {e : mE} (hA : A z) (h1 : m_at D ids U H1 z e) (hq : ∀ q : Nat, q < z → H1[q]? = H[q]?) : Rl D ids A (m_up h z e) U H1 := by
  refine ⟨r.1, fun b e1 hb => ?_, fun b hb => ?_⟩
  · by_cases hba : b = z
    · subst hba
      rw [m_up_same] at hb
      cases hb
      exact h1
    · rw [m_up_ne hba] at hb
      exact (r.2.1 b e1 hb).kept (hq b (by rw [← hz]; exact r.lt hb))
  · by_cases hba : b = z
    · subst hba; exact hA
    · refine r.2.2 b ?_
      unfold m_wr at hb ⊢
      rw [m_up_ne hba] at hb
      exact hb
theorem m_lt_A {D : va_G} {ids : m_I3} {A : Nat → Prop} {h : mH} {U : State} {H : Heap} {z : Nat} (r : Rl D ids A h U H) (hz : ∀ q, z ≤ q → A q) : ∀ q, m_A h z q → A q := fun q hq => hq.elim (r.2.2 q) (hz q)
end RL
end
section
/-! OUR OWN: what an answer of the small heap says -/
section MS
theorem m_iald_spec {h : mH} {a : Nat} {i v : Int32} (hg : m_iald h a i = some v) : ∃ (b : Bool) (n : Nat) (f : Nat → Int32), h a = some (.inl (b, n, f)) ∧ ¬ (i < 0) ∧ i.toNatClampNeg < n ∧ f i.toNatClampNeg = v := by
  unfold m_iald at hg
  split at hg
  · rename_i b n f hh
    split at hg
    · rename_i hc
      exact ⟨b, n, f, hh, hc.1, hc.2, Option.some.inj hg⟩
    · cases hg
  · cases hg
theorem m_iast_spec {h h' : mH} {a : Nat} {i x : Int32} (hg : m_iast h a i x = some h') : ∃ (n : Nat) (f : Nat → Int32), h a = some (mI n f) ∧ ¬ (i < 0) ∧ i.toNatClampNeg < n ∧ m_up h a (mI n (upd f i.toNatClampNeg x)) = h' := by
  unfold m_iast at hg
  split at hg
  · rename_i n f hh
    split at hg
    · rename_i hc
      exact ⟨n, f, hh, hc.1, hc.2, Option.some.inj hg⟩
    · cases hg
  · cases hg
theorem m_lald_spec {h : mH} {a : Nat} {i : Int32} {v : Int64} (hg : m_lald h a i = some v) : ∃ (n : Nat) (f : Nat → Int64), h a = some (mL n f) ∧ ¬ (i < 0) ∧ i.toNatClampNeg < n ∧ f i.toNatClampNeg = v := by
  unfold m_lald at hg
  split at hg
  · rename_i n f hh
    split at hg
    · rename_i hc
      exact ⟨n, f, hh, hc.1, hc.2, Option.some.inj hg⟩
    · cases hg
  · cases hg
theorem m_last_spec {h h' : mH} {a : Nat} {i : Int32} {x : Int64} (hg : m_last h a i x = some h') : ∃ (n : Nat) (f : Nat → Int64), h a = some (mL n f) ∧ ¬ (i < 0) ∧ i.toNatClampNeg < n ∧ m_up h a (mL n (vp_updL f i.toNatClampNeg x)) = h' := by
  unfold m_last at hg
  split at hg
  · rename_i n f hh
    split at hg
    · rename_i hc
      exact ⟨n, f, hh, hc.1, hc.2, Option.some.inj hg⟩
    · cases hg
  · cases hg
theorem m_aald_spec {h : mH} {a : Nat} {i : Int32} {v : Option Nat} (hg : m_aald h a i = some v) : ∃ (n : Nat) (f : Nat → Option Nat), h a = some (mR n f) ∧ ¬ (i < 0) ∧ i.toNatClampNeg < n ∧ f i.toNatClampNeg = v := by
  unfold m_aald at hg
  split at hg
  · rename_i n f hh
    split at hg
    · rename_i hc
      exact ⟨n, f, hh, hc.1, hc.2, Option.some.inj hg⟩
    · cases hg
  · cases hg
theorem m_aast_spec {h h' : mH} {a : Nat} {i : Int32} {v : Nat} (hg : m_aast h a i v = some h') : ∃ (n : Nat) (f : Nat → Option Nat) (fs : List Value), h a = some (mR n f) ∧ h v = some (mO 2 fs) ∧ ¬ (i < 0) ∧ i.toNatClampNeg < n ∧ m_up h a (mR n (va_up f i.toNatClampNeg (some v))) = h' := by
  unfold m_aast at hg
  split at hg
  · rename_i n f c fs hh hv
    split at hg
    · rename_i hc
      obtain ⟨rfl, h1, h2⟩ := hc
      exact ⟨n, f, fs, hh, hv, h1, h2, Option.some.inj hg⟩
    · cases hg
  · cases hg
theorem m_ilen_spec {h : mH} {a : Nat} {v : Int32} (hg : m_ilen h a = some v) : ∃ (b : Bool) (n : Nat) (f : Nat → Int32), h a = some (.inl (b, n, f)) ∧ Int32.ofNat n = v := by
  unfold m_ilen at hg
  split at hg
  · rename_i b n f hh
    exact ⟨b, n, f, hh, Option.some.inj hg⟩
  · cases hg
theorem m_alen_spec {h : mH} {a : Nat} {v : Int32} (hg : m_alen h a = some v) : ∃ (n : Nat) (f : Nat → Option Nat), h a = some (mR n f) ∧ Int32.ofNat n = v := by
  unfold m_alen at hg
  split at hg
  · rename_i n f hh
    exact ⟨n, f, hh, Option.some.inj hg⟩
  · cases hg
theorem m_get_spec {h : mH} {ci a k : Nat} {v : Value} (hg : m_get h ci a k = some v) : ∃ fs : List Value, h a = some (mO ci fs) ∧ fs[k]? = some v := by
  unfold m_get at hg
  split at hg
  · rename_i c fs hh
    split at hg
    · rename_i hc
      subst hc
      exact ⟨fs, hh, hg⟩
    · cases hg
  · cases hg
theorem m_gi_spec {h : mH} {ci a k : Nat} {v : Int32} (hg : m_gi h ci a k = some v) : m_get h ci a k = some (.int v) := by
  unfold m_gi at hg
  split at hg
  · rename_i w hw
    rw [hw, Option.some.inj hg]
  · cases hg
theorem m_gl_spec {h : mH} {ci a k : Nat} {v : Int64} (hg : m_gl h ci a k = some v) : m_get h ci a k = some (.long v) := by
  unfold m_gl at hg
  split at hg
  · rename_i w hw
    rw [hw, Option.some.inj hg]
  · cases hg
theorem m_gr_spec {h : mH} {ci a k : Nat} {v : Nat} (hg : m_gr h ci a k = some v) : m_get h ci a k = some (.ref v) := by
  unfold m_gr at hg
  split at hg
  · rename_i w hw
    rw [hw, Option.some.inj hg]
  · cases hg
theorem m_put_spec {h h' : mH} {ci a k : Nat} {v : Value} (hg : m_put h ci a k v = some h') : ∃ fs : List Value, h a = some (mO ci fs) ∧ k < fs.length ∧ m_up h a (mO ci (fs.set k v)) = h' := by
  unfold m_put at hg
  split at hg
  · rename_i c fs hh
    split at hg
    · rename_i hc
      obtain ⟨rfl, h1⟩ := hc
      exact ⟨fs, hh, h1, Option.some.inj hg⟩
    · cases hg
  · cases hg
theorem m_is_spec {h : mH} {ci a : Nat} {u : Unit} (hg : m_is h ci a = some u) : ∃ fs : List Value, h a = some (mO ci fs) := by
  unfold m_is at hg
  split at hg
  · rename_i c fs hh
    split at hg
    · rename_i hc
      subst hc
      exact ⟨fs, hh⟩
    · cases hg
  · cases hg
theorem m_z_spec {v w : Int32} (hg : m_z v = some w) : v = w ∧ narrow .boolean (.int v) = .int v := by
  unfold m_z at hg
  split at hg
  · rename_i hc
    refine ⟨Option.some.inj hg, ?_⟩
    rcases hc with rfl | rfl <;> rfl
  · cases hg
theorem m_div_spec {x y v : Int32} (hg : m_div x y = some v) : ¬ y = 0 ∧ x / y = v := by
  unfold m_div at hg
  split at hg
  · cases hg
  · rename_i hc
    exact ⟨hc, Option.some.inj hg⟩
theorem m_rem_spec {x y v : Int32} (hg : m_rem x y = some v) : ¬ y = 0 ∧ x - x / y * y = v := by
  unfold m_rem at hg
  split at hg
  · cases hg
  · rename_i hc
    exact ⟨hc, Option.some.inj hg⟩
theorem m_d_spec {x v : UInt64} (hg : m_d x = some v) : vf_n64 x ∧ x = v := by
  unfold m_d at hg
  split at hg
  · rename_i hc
    exact ⟨hc, Option.some.inj hg⟩
  · cases hg
theorem m_bind {α β : Type} {o : Option α} {f : α → Option β} {r : β} (h : o.bind f = some r) : ∃ v, o = some v ∧ f v = some r := Option.bind_eq_some_iff.mp h
theorem m_wr_of {h : mH} {a : Nat} {e : mE} (q : h a = some e) (he : ∀ n f, e ≠ .inl (false, n, f)) : m_wr h a := by
  unfold m_wr
  rw [q]
  match e, he with
  | .inl (true, n, f), _ => trivial
  | .inl (false, n, f), he => exact absurd rfl (he n f)
  | .inr _, _ => trivial
end MS
/-! OUR OWN: rows of the machine over the small heap -/
section MRW
variable {p : Program} {l : Launch} {e : Env} {R : Room} {s : State} {m : MethodId} {args : Array Value} {below : List Frame} {meth : Method} {c : Code} {H : Heap} {locs : List Loc} {cells slots : Nat} {Q : State → Prop}
variable {cc : ByteArray} {pc : Nat} {ls : Array Slot} {rest : List Value} {D : va_G} {ids : m_I3} {A : Nat → Prop} {h : mH} {a z : Nat} {H0 : Heap}
theorem mr_at1 (hR : Rl D ids A h s H) {ci : Nat} {fs : List Value} (q : h a = some (mO ci fs)) : va_P D vwCl [(a, .inr (ci, fs))] H := by
  intro k x hx
  match k, hx with
  | 0, hx => cases hx; exact hR.2.1 a _ q
  | k + 1, hx => simp at hx
theorem mr_get (hexec : p.tables.exec = Jvm.exec) (hb : c.code = cc) {own ref C : String} {T : u_T} {N ci index : Nat} {Ts : List Cond} (hts : ∀ w ∈ Ts, w.before args s = true) (hin : ∀ w ∈ u_ws C T N, w ∈ Ts) (hown : s.vm.findClass own = some m.cls) (hR : Rl D ids A h s H) (hc : vwCl[ci]? = some (C, T, N)) (k : Nat) (hk : k < N) (hlink : (Cond.fieldLink own index ref (T k).2.1 (T k).2.2.1).before args s = true) (hsame : ∀ x, s.fieldFound? (T k).1 (T k).2.1 (T k).2.2.1 = some x → s.fieldFound? ref (T k).2.1 (T k).2.2.1 = some x) {v : Value} (hv : m_get h ci a k = some v) (hdg : decode cc pc = .ok (.getfield index, 3))
    (kk : W p l e R s m args below meth c H locs cells slots Q (F0 m (pc + 3) ls (v :: rest))) : W p l e R s m args below meth c H locs cells slots Q (F0 m pc ls (.ref a :: rest)) := by
  obtain ⟨fs, h1, h2⟩ := m_get_spec hv
  exact va_get hexec hb hts hin hown hR.1 (mr_at1 hR h1) 0 rfl hc k hk hlink hsame h2 hdg kk
theorem mr_getN (hexec : p.tables.exec = Jvm.exec) (hb : c.code = cc) {own ref C host : String} {T : u_T} {N ci index : Nat} {Ts : List Cond} (hts : ∀ w ∈ Ts, w.before args s = true) (hin : ∀ w ∈ u_ws C T N, w ∈ Ts) (hown : s.vm.findClass own = some m.cls) (hR : Rl D ids A h s H) (hc : vwCl[ci]? = some (C, T, N)) (k : Nat) (hk : k < N) (hlink : va_Nw (Cond.fieldLinkNest own index ref (T k).2.1 (T k).2.2.1 host) s) (hsame : ∀ x, s.fieldFound? (T k).1 (T k).2.1 (T k).2.2.1 = some x → s.fieldFound? ref (T k).2.1 (T k).2.2.1 = some x) {v : Value} (hv : m_get h ci a k = some v) (hdg : decode cc pc = .ok (.getfield index, 3))
    (kk : W p l e R s m args below meth c H locs cells slots Q (F0 m (pc + 3) ls (v :: rest))) : W p l e R s m args below meth c H locs cells slots Q (F0 m pc ls (.ref a :: rest)) := by
  obtain ⟨fs, h1, h2⟩ := m_get_spec hv
  exact va_getN hexec hb hts hin hown hR.1 (mr_at1 hR h1) 0 rfl hc k hk (va_Nw.use rfl hlink) hsame h2 hdg kk
theorem mr_put (hexec : p.tables.exec = Jvm.exec) (hb : c.code = cc) {own ref C : String} {T : u_T} {N ci index : Nat} {Ts : List Cond} (hts : ∀ w ∈ Ts, w.before args s = true) (hin : ∀ w ∈ u_ws C T N, w ∈ Ts) (ty0 : Nat → FieldType) (hty : ∀ k, k < N → parseFieldDescriptor (T k).2.2.1 = some (ty0 k)) (hnm : ∀ a, a < N → ∀ b, b < N → a ≠ b → (T a).2.1 ≠ (T b).2.1) (hown : s.vm.findClass own = some m.cls) (hR : Rl D ids A h s H) (hz : H.size = z) (hS0 : va_S A H0 H locs) (hc : vwCl[ci]? = some (C, T, N)) (k : Nat) (hk : k < N) (hlink : (Cond.fieldLink own index ref (T k).2.1 (T k).2.2.1).before args s = true) (hsame : ∀ x, s.fieldFound? (T k).1 (T k).2.1 (T k).2.2.1 = some x → s.fieldFound? ref (T k).2.1 (T k).2.2.1 = some x) (hfin : (T k).2.2.2 = false) {ty : FieldType} {v : Value} (hd : parseFieldDescriptor (T k).2.2.1 = some ty) (hn : narrow ty v = v) (hfit : fits ty v = true) {h' : mH} (hp : m_put h ci a k v = some h')
    (hdg : decode cc pc = .ok (.putfield index, 3)) (kk : ∀ (H1 : Heap) (locs1 : List Loc), Rl D ids A h' s H1 → H1.size = z → va_S A H0 H1 locs1 → W p l e R s m args below meth c H1 locs1 cells slots Q (F0 m (pc + 3) ls rest)) : W p l e R s m args below meth c H locs cells slots Q (F0 m pc ls (v :: .ref a :: rest)) := by
  obtain ⟨fs, p1, hl, rfl⟩ := m_put_spec hp
  have hK := hR.1
  have hap := va_apart (own := own) hts hin ty0 hty hnm hK hc
  obtain ⟨r, h1, cell, q1, q2, q3, q4⟩ := mr_at1 hR p1 0 _ rfl
  have hr : r = (C, T, N) := Option.some.inj (h1.symm.trans hc)
  subst hr
  obtain ⟨hS, hfc, kC, hkC, hkind⟩ := hK.1 ci _ hc
  obtain ⟨cf, kf, fi, f, hi, hsl⟩ := hS k hk
  have hlay := hts _ (hin _ (u_in_lay hk))
  unfold u_lay at hlay
  rw [if_neg (by rw [hfin]; decide)] at hlay
  have hst := (u_facts hfc hkC (u_lays hts hin hk) hi).1
  have h6 := u_store hfc hkC hkind hlay hi hd hn hfit
  refine W.putK hexec hb (f := f) ⟨hown, hlink, ⟨_, _, _, hsame _ hi⟩, hst⟩ (by rw [q2]; exact h6) q1 q3 (by rw [hsl]; exact k2_hasslot (q4 k hk)) rfl rfl hdg fun H' e1 e2 e3 => ?_
  rw [hsl] at e1 ⊢
  have hw : m_wr h a := m_wr_of p1 (fun _ _ q => by cases q)
  exact kk H' _ (hR.up hw (show va_at D vwCl (a, .inr (ci, fs.set k v)) H' from ⟨_, hc, t_OB.to (V := updV (vp_V fs) k v) ⟨_, e1, q2, q3, t_set q4 hap hk v⟩ (fun j _ => vp_updV_set hl v j)⟩) e3) (e2.trans hz) (hS0.put e2 e3 (hR.2.2 a hw))
theorem mr_putN (hexec : p.tables.exec = Jvm.exec) (hb : c.code = cc) {own ref C host : String} {T : u_T} {N ci index : Nat} {Ts : List Cond} (hts : ∀ w ∈ Ts, w.before args s = true) (hin : ∀ w ∈ u_ws C T N, w ∈ Ts) (ty0 : Nat → FieldType) (hty : ∀ k, k < N → parseFieldDescriptor (T k).2.2.1 = some (ty0 k)) (hnm : ∀ a, a < N → ∀ b, b < N → a ≠ b → (T a).2.1 ≠ (T b).2.1) (hown : s.vm.findClass own = some m.cls) (hR : Rl D ids A h s H) (hz : H.size = z) (hS0 : va_S A H0 H locs) (hc : vwCl[ci]? = some (C, T, N)) (k : Nat) (hk : k < N) (hlink : va_Nw (Cond.fieldLinkNest own index ref (T k).2.1 (T k).2.2.1 host) s) (hsame : ∀ x, s.fieldFound? (T k).1 (T k).2.1 (T k).2.2.1 = some x → s.fieldFound? ref (T k).2.1 (T k).2.2.1 = some x) (hfin : (T k).2.2.2 = false) {ty : FieldType} {v : Value} (hd : parseFieldDescriptor (T k).2.2.1 = some ty) (hn : narrow ty v = v) (hfit : fits ty v = true) {h' : mH} (hp : m_put h ci a k v = some h')
    (hdg : decode cc pc = .ok (.putfield index, 3)) (kk : ∀ (H1 : Heap) (locs1 : List Loc), Rl D ids A h' s H1 → H1.size = z → va_S A H0 H1 locs1 → W p l e R s m args below meth c H1 locs1 cells slots Q (F0 m (pc + 3) ls rest)) : W p l e R s m args below meth c H locs cells slots Q (F0 m pc ls (v :: .ref a :: rest)) := by
  obtain ⟨fs, p1, hl, rfl⟩ := m_put_spec hp
  have hK := hR.1
  have hap := va_apart (own := own) hts hin ty0 hty hnm hK hc
  obtain ⟨r, h1, cell, q1, q2, q3, q4⟩ := mr_at1 hR p1 0 _ rfl
  have hr : r = (C, T, N) := Option.some.inj (h1.symm.trans hc)
  subst hr
  obtain ⟨hS, hfc, kC, hkC, hkind⟩ := hK.1 ci _ hc
  obtain ⟨cf, kf, fi, f, hi, hsl⟩ := hS k hk
  have hlay := hts _ (hin _ (u_in_lay hk))
  unfold u_lay at hlay
  rw [if_neg (by rw [hfin]; decide)] at hlay
  have hst := (u_facts hfc hkC (u_lays hts hin hk) hi).1
  have h6 := u_store hfc hkC hkind hlay hi hd hn hfit
  refine va_WputK hexec hb (f := f) hown (va_Nw.use rfl hlink) (hsame _ hi) hst (by rw [q2]; exact h6) q1 q3 (by rw [hsl]; exact k2_hasslot (q4 k hk)) rfl rfl hdg fun H' e1 e2 e3 => ?_
  rw [hsl] at e1 ⊢
  have hw : m_wr h a := m_wr_of p1 (fun _ _ q => by cases q)
  exact kk H' _ (hR.up hw (show va_at D vwCl (a, .inr (ci, fs.set k v)) H' from ⟨_, hc, t_OB.to (V := updV (vp_V fs) k v) ⟨_, e1, q2, q3, t_set q4 hap hk v⟩ (fun j _ => vp_updV_set hl v j)⟩) e3) (e2.trans hz) (hS0.put e2 e3 (hR.2.2 a hw))
theorem mr_putF (hexec : p.tables.exec = Jvm.exec) (hb : c.code = cc) {own ref C : String} {T : u_T} {N ci index : Nat} {Ts : List Cond} (hts : ∀ w ∈ Ts, w.before args s = true) (hin : ∀ w ∈ u_ws C T N, w ∈ Ts) (ty0 : Nat → FieldType) (hty : ∀ k, k < N → parseFieldDescriptor (T k).2.2.1 = some (ty0 k)) (hnm : ∀ a, a < N → ∀ b, b < N → a ≠ b → (T a).2.1 ≠ (T b).2.1) (hown : s.vm.findClass own = some m.cls) (hR : Rl D ids A h s H) (hz : H.size = z) (hS0 : va_S A H0 H locs) (hc : vwCl[ci]? = some (C, T, N)) (k : Nat) (hk : k < N) (hlink : (Cond.fieldLink own index ref (T k).2.1 (T k).2.2.1).before args s = true) (hsame : ∀ x, s.fieldFound? (T k).1 (T k).2.1 (T k).2.2.1 = some x → s.fieldFound? ref (T k).2.1 (T k).2.2.1 = some x) (hfin : (T k).2.2.2 = true) (hin2 : meth.name = "<init>") (hdecl : (T k).1 = own) {ty : FieldType} {v : Value} (hd : parseFieldDescriptor (T k).2.2.1 = some ty) (hn : narrow ty v = v) (hfit : fits ty v = true) {h' : mH} (hp : m_put h ci a k v = some h')
    (hdg : decode cc pc = .ok (.putfield index, 3)) (kk : ∀ (H1 : Heap) (locs1 : List Loc), Rl D ids A h' s H1 → H1.size = z → va_S A H0 H1 locs1 → W p l e R s m args below meth c H1 locs1 cells slots Q (F0 m (pc + 3) ls rest)) : W p l e R s m args below meth c H locs cells slots Q (F0 m pc ls (v :: .ref a :: rest)) := by
  obtain ⟨fs, p1, hl, rfl⟩ := m_put_spec hp
  have hK := hR.1
  have hap := va_apart (own := own) hts hin ty0 hty hnm hK hc
  obtain ⟨r, h1, cell, q1, q2, q3, q4⟩ := mr_at1 hR p1 0 _ rfl
  have hr : r = (C, T, N) := Option.some.inj (h1.symm.trans hc)
  subst hr
  obtain ⟨hS, hfc, kC, hkC, hkind⟩ := hK.1 ci _ hc
  obtain ⟨cf, kf, fi, f, hi, hsl⟩ := hS k hk
  have hlay := hts _ (hin _ (u_in_lay hk))
  unfold u_lay at hlay
  rw [if_pos hfin] at hlay
  have hst := (u_facts hfc hkC (u_lays hts hin hk) hi).1
  have hcf : m.cls = cf := by
    obtain ⟨_, _, c', _, _, _, -, -, hf', -, -, -, hown2, -⟩ := Cond.laysFinal_spec hlay
    have e1 : c' = cf := by have := hi.symm.trans hf'; simp at this; exact this.1.symm
    rw [hdecl] at hown2
    rw [← e1]; exact Option.some.inj (hown.symm.trans hown2)
  have h6 := u_fits hfc hkC hkind (Or.inr hlay) hi hd hn hfit
  refine W.putFinK hexec hb hown hlink (hsame _ hi) hst hcf hin2 (by rw [q2]; exact h6) q1 q3 (by rw [hsl]; exact k2_hasslot (q4 k hk)) rfl rfl hdg fun H' e1 e2 e3 => ?_
  rw [hsl] at e1 ⊢
  have hw : m_wr h a := m_wr_of p1 (fun _ _ q => by cases q)
  exact kk H' _ (hR.up hw (show va_at D vwCl (a, .inr (ci, fs.set k v)) H' from ⟨_, hc, t_OB.to (V := updV (vp_V fs) k v) ⟨_, e1, q2, q3, t_set q4 hap hk v⟩ (fun j _ => vp_updV_set hl v j)⟩) e3) (e2.trans hz) (hS0.put e2 e3 (hR.2.2 a hw))
theorem mr_arr (hR : Rl D ids A h s H) (t : Nat) {q : ClassId × FieldType} (ht : (m_tys ids)[t]? = some q) : ArrOfT s q.1 q.2 ∧ va_RA s q.1 q.2 := hR.1.2 t q ht
theorem mr_iald (hexec : p.tables.exec = Jvm.exec) (hb : c.code = cc) (hR : Rl D ids A h s H) {i v : Int32} (hg : m_iald h a i = some v) (hdg : decode cc pc = .ok (.iaload, 1))
    (kk : W p l e R s m args below meth c H locs cells slots Q (F0 m (pc + 1) ls (.int v :: rest))) : W p l e R s m args below meth c H locs cells slots Q (F0 m pc ls (.int i :: .ref a :: rest)) := by
  obtain ⟨b, n, f, h1, h2, h3, rfl⟩ := m_iald_spec hg
  cases b with
  | true =>
    have hq : H[a]? = some (vp_cell ids.1 (n, .inl f)) := hR.2.1 a _ h1
    exact W.iald (v := .int (f i.toNatClampNeg)) hexec hb hq ((mr_arr hR 0 rfl).1 n (fun j => .int (f j))) (fun q => by cases q) (by show ¬ (i < 0 ∨ (arrV _ _ _).slots.size ≤ _); rw [arrV_size]; exact m_in_vp ⟨h2, h3⟩) (by show (arrV _ _ _).slots[_]? = _; rw [arrV_read _ _ h3]) rfl rfl hdg kk
  | false =>
    obtain ⟨cell, c1, c2, c3, c4, c5, c6⟩ := (hR.2.1 a _ h1 : m_cst s a n f H)
    exact W.iald (v := .int (f i.toNatClampNeg)) hexec hb c1 c2 c3 (fun q => q.elim h2 (fun w => absurd (Nat.lt_of_lt_of_le h3 c4) (Nat.not_lt.mpr w))) (c6 _ h3) rfl rfl hdg kk
theorem mr_iast (hexec : p.tables.exec = Jvm.exec) (hb : c.code = cc) (hR : Rl D ids A h s H) (hz : H.size = z) (hS : va_S A H0 H locs) {i x : Int32} {h' : mH} (hg : m_iast h a i x = some h') (hdg : decode cc pc = .ok (.iastore, 1))
    (kk : ∀ (H1 : Heap) (locs1 : List Loc), Rl D ids A h' s H1 → H1.size = z → va_S A H0 H1 locs1 → W p l e R s m args below meth c H1 locs1 cells slots Q (F0 m (pc + 1) ls rest)) : W p l e R s m args below meth c H locs cells slots Q (F0 m pc ls (.int x :: .int i :: .ref a :: rest)) := by
  obtain ⟨n, f, h1, h2, h3, rfl⟩ := m_iast_spec hg
  have hq : H[a]? = some (vp_cell ids.1 (n, .inl f)) := hR.2.1 a _ h1
  have hw : m_wr h a := m_wr_of h1 (fun _ _ q => by cases q)
  refine W.iast hexec hb hq ((mr_arr hR 0 rfl).1 n (fun j => .int (f j))) (fun q => by cases q) (by show ¬ (i < 0 ∨ (arrV _ _ _).slots.size ≤ _); rw [arrV_size]; exact m_in_vp ⟨h2, h3⟩) rfl rfl hdg fun H1 e1 z1 oq => ?_
  refine kk H1 _ (hR.up hw (show H1[a]? = some (vp_cell ids.1 (n, .inl (upd f i.toNatClampNeg x))) from ?_) oq) (z1.trans hz) (hS.put z1 oq (hR.2.2 a hw))
  rw [e1]
  rw [vp_cell_i, vp_cell_i, arrV_store]
  congr 2
  funext q
  by_cases hq : q = i.toNatClampNeg
  · subst hq
    simp [updV, upd]
  · simp [updV, upd, hq]
theorem mr_lald (hexec : p.tables.exec = Jvm.exec) (hb : c.code = cc) (hR : Rl D ids A h s H) {i : Int32} {v : Int64} (hg : m_lald h a i = some v) (hdg : decode cc pc = .ok (.laload, 1))
    (kk : W p l e R s m args below meth c H locs cells slots Q (F0 m (pc + 1) ls (.long v :: rest))) : W p l e R s m args below meth c H locs cells slots Q (F0 m pc ls (.int i :: .ref a :: rest)) := by
  obtain ⟨n, f, h1, h2, h3, rfl⟩ := m_lald_spec hg
  have hq : H[a]? = some (vp_cell ids.2.1 (n, .inr (.inl f))) := hR.2.1 a _ h1
  exact W.lald (v := .long (f i.toNatClampNeg)) hexec hb hq ((mr_arr hR 1 rfl).1 n (fun j => .long (f j))) (fun q => by cases q) (by show ¬ (i < 0 ∨ (arrV _ _ _).slots.size ≤ _); rw [arrV_size]; exact m_in_vp ⟨h2, h3⟩) (by show (arrV _ _ _).slots[_]? = _; rw [arrV_read _ _ h3]) rfl rfl hdg kk
theorem mr_last (hexec : p.tables.exec = Jvm.exec) (hb : c.code = cc) (hR : Rl D ids A h s H) (hz : H.size = z) (hS : va_S A H0 H locs) {i : Int32} {x : Int64} {h' : mH} (hg : m_last h a i x = some h') (hdg : decode cc pc = .ok (.lastore, 1))
    (kk : ∀ (H1 : Heap) (locs1 : List Loc), Rl D ids A h' s H1 → H1.size = z → va_S A H0 H1 locs1 → W p l e R s m args below meth c H1 locs1 cells slots Q (F0 m (pc + 1) ls rest)) : W p l e R s m args below meth c H locs cells slots Q (F0 m pc ls (.long x :: .int i :: .ref a :: rest)) := by
  obtain ⟨n, f, h1, h2, h3, rfl⟩ := m_last_spec hg
  have hq : H[a]? = some (vp_cell ids.2.1 (n, .inr (.inl f))) := hR.2.1 a _ h1
  have hw : m_wr h a := m_wr_of h1 (fun _ _ q => by cases q)
  refine W.last hexec hb hq ((mr_arr hR 1 rfl).1 n (fun j => .long (f j))) (fun q => by cases q) (by show ¬ (i < 0 ∨ (arrV _ _ _).slots.size ≤ _); rw [arrV_size]; exact m_in_vp ⟨h2, h3⟩) rfl rfl hdg fun H1 e1 z1 oq => ?_
  refine kk H1 _ (hR.up hw (show H1[a]? = some (vp_cell ids.2.1 (n, .inr (.inl (vp_updL f i.toNatClampNeg x)))) from ?_) oq) (z1.trans hz) (hS.put z1 oq (hR.2.2 a hw))
  rw [e1]
  rw [vp_cell_l, vp_cell_l, arrV_store]
  congr 2
  funext q
  by_cases hq : q = i.toNatClampNeg
  · subst hq
    simp [updV, vp_updL]
  · simp [updV, vp_updL, hq]
theorem mr_aald (hexec : p.tables.exec = Jvm.exec) (hb : c.code = cc) (hR : Rl D ids A h s H) {i : Int32} {v : Option Nat} (hg : m_aald h a i = some v) (hdg : decode cc pc = .ok (.aaload, 1))
    (kk : W p l e R s m args below meth c H locs cells slots Q (F0 m (pc + 1) ls (va_rf v :: rest))) : W p l e R s m args below meth c H locs cells slots Q (F0 m pc ls (.int i :: .ref a :: rest)) := by
  obtain ⟨n, f, h1, h2, h3, rfl⟩ := m_aald_spec hg
  have hP : va_P D vwCl [(a, .inl (ids.2.2, n, .inr (.inr (.inr (.inr f)))))] H := by
    intro k x hx
    match k, hx with
    | 0, hx => cases hx; exact hR.2.1 a _ h1
    | k + 1, hx => simp at hx
  exact va_aldq hexec hb hR.1 hP 0 2 rfl rfl (m_in_vp ⟨h2, h3⟩) hdg kk
theorem mr_aast (hexec : p.tables.exec = Jvm.exec) (hb : c.code = cc) (hR : Rl D ids A h s H) (hz : H.size = z) (hS : va_S A H0 H locs) {i : Int32} {v : Nat} {h' : mH} (hg : m_aast h a i v = some h') (hdg : decode cc pc = .ok (.aastore, 1))
    (kk : ∀ (H1 : Heap) (locs1 : List Loc), Rl D ids A h' s H1 → H1.size = z → va_S A H0 H1 locs1 → W p l e R s m args below meth c H1 locs1 cells slots Q (F0 m (pc + 1) ls rest)) : W p l e R s m args below meth c H locs cells slots Q (F0 m pc ls (.ref v :: .int i :: .ref a :: rest)) := by
  obtain ⟨n, f, fs, h1, hv, h2, h3, rfl⟩ := m_aast_spec hg
  have hq : H[a]? = some (vp_cell ids.2.2 (n, .inr (.inr (.inr (.inr f))))) := hR.2.1 a _ h1
  have hw : m_wr h a := m_wr_of h1 (fun _ _ q => by cases q)
  obtain ⟨r', hr', cellV, g1, g2, g3, -⟩ := mr_at1 hR hv 0 _ rfl
  have hcls := (hR.1.1 2 (RX3, TX3, 10) rfl).2
  obtain ⟨kA, comp, k1, k2, k3, -⟩ := (mr_arr hR 2 rfl).2
  have hcomp : comp = D.1 2 := Option.some.inj (k3.symm.trans hcls.1)
  subst hcomp
  obtain ⟨kC, hkC, -⟩ := hcls.2
  refine W.aast hexec hb hq (fun q h => by cases h) (fun h => by cases h) k1 k2 rfl hkC ⟨h2, by show _ < (arrV _ _ _).slots.size; rw [arrV_size]; exact h3⟩ g1 (fun q h => by rw [g3] at h; cases h) (by rw [g2]; exact hkC) (by rw [g2]; exact va_assign hcls) rfl rfl hdg fun H1 e1 z1 oq => ?_
  refine kk H1 _ (hR.up hw (show H1[a]? = some (vp_cell ids.2.2 (n, .inr (.inr (.inr (.inr (va_up f i.toNatClampNeg (some v))))))) from ?_) oq) (z1.trans hz) (hS.put z1 oq (hR.2.2 a hw))
  rw [e1]
  rw [vp_cell_q, vp_cell_q, arrV_store]
  congr 2
  funext q
  by_cases hq : q = i.toNatClampNeg
  · subst hq
    simp [updV, va_up, va_rf]
  · simp [updV, va_up, hq]
theorem mr_ilen (hexec : p.tables.exec = Jvm.exec) (hb : c.code = cc) (hR : Rl D ids A h s H) {v : Int32} (hg : m_ilen h a = some v) (hdg : decode cc pc = .ok (.arraylength, 1))
    (kk : W p l e R s m args below meth c H locs cells slots Q (F0 m (pc + 1) ls (.int v :: rest))) : W p l e R s m args below meth c H locs cells slots Q (F0 m pc ls (.ref a :: rest)) := by
  obtain ⟨b, n, f, h1, rfl⟩ := m_ilen_spec hg
  cases b with
  | true =>
    have hq : H[a]? = some (vp_cell ids.1 (n, .inl f)) := hR.2.1 a _ h1
    exact W.alen (n := Int32.ofNat n) hexec hb hq ((mr_arr hR 0 rfl).1 n (fun j => .int (f j))) (by rw [vp_cell_i, arrV_size] <;> rfl) rfl rfl hdg kk
  | false =>
    obtain ⟨cell, c1, c2, c3, c4, c5, c6⟩ := (hR.2.1 a _ h1 : m_cst s a n f H)
    exact W.alen (n := Int32.ofNat n) hexec hb c1 c2 c5 rfl rfl hdg kk
theorem mr_alen (hexec : p.tables.exec = Jvm.exec) (hb : c.code = cc) (hR : Rl D ids A h s H) {v : Int32} (hg : m_alen h a = some v) (hdg : decode cc pc = .ok (.arraylength, 1))
    (kk : W p l e R s m args below meth c H locs cells slots Q (F0 m (pc + 1) ls (.int v :: rest))) : W p l e R s m args below meth c H locs cells slots Q (F0 m pc ls (.ref a :: rest)) := by
  obtain ⟨n, f, h1, rfl⟩ := m_alen_spec hg
  have hq : H[a]? = some (vp_cell ids.2.2 (n, .inr (.inr (.inr (.inr f))))) := hR.2.1 a _ h1
  exact W.alen (n := Int32.ofNat n) hexec hb hq ((mr_arr hR 2 rfl).1 n (fun j => va_rf (f j))) (by rw [vp_cell_q, arrV_size] <;> rfl) rfl rfl hdg kk
end MRW
end
section
/-! OUR OWN: what every method may take of the world beside the small heap: links between nest mates, texts, static rows -/
def m_nf : List (String × Nat × String × String × String × String) := [("CapWallets", 79, "CapWallets$TapRow", "size", "I", "CapWallets"), ("CapWallets$Rides", 62, "CapWallets$TapRow", "size", "I", "CapWallets"), ("CapWallets$State", 47, "CapWallets", "FIRST_VALUES", "[I", "CapWallets"), ("CapWallets", 55, "CapWallets$State", "taps", "LCapWallets$TapRow;", "CapWallets"), ("CapWallets", 58, "CapWallets$State", "settings", "[I", "CapWallets"), ("CapWallets", 327, "CapWallets$State", "charged", "[I", "CapWallets"), ("CapWallets", 268, "CapWallets$State", "claims", "[I", "CapWallets"), ("CapWallets", 330, "CapWallets$State", "settlings", "[I", "CapWallets"), ("CapWallets", 333, "CapWallets$State", "refunds", "I", "CapWallets"), ("CapWallets", 336, "CapWallets$State", "refunded", "I", "CapWallets"), ("CapWallets", 127, "CapWallets$State", "refusals", "I", "CapWallets"), ("CapWallets", 256, "CapWallets$Rides", "mates", "[I", "CapWallets"), ("CapWallets", 302, "CapWallets$Rides", "fares", "[I", "CapWallets"), ("CapWallets", 308, "CapWallets$Rides", "dayRides", "[I", "CapWallets"), ("CapWallets", 314, "CapWallets$Rides", "dayAlone", "[I", "CapWallets"), ("CapWallets", 217, "CapWallets$Rides", "dayFares", "[I", "CapWallets"), ("CapWallets", 209, "CapWallets$Rides", "leaks", "[I", "CapWallets"), ("CapWallets", 181, "CapWallets$Saves", "size", "I", "CapWallets"), ("CapWallets", 179, "CapWallets$TextReader", "taps", "[I", "CapWallets"), ("CapWallets", 176, "CapWallets$TextReader", "tapCount", "I", "CapWallets")]
def m_nm : List (String × Nat × MethodName × String) := [("CapWallets$Rides", 102, ⟨"CapWallets", "dayCell", "(II)I"⟩, "CapWallets"), ("CapWallets$TextReader", 48, ⟨"CapWallets", "isBelow", "(II)Z"⟩, "CapWallets"), ("CapWallets$Rows", 17, ⟨"CapWallets", "mixed", "(JJ)J"⟩, "CapWallets"), ("CapWallets$State", 64, ⟨"CapWallets", "weekCell", "(II)I"⟩, "CapWallets")]
def m_sl : List (Nat × String) := [(74, "an argument is out of range"), (84, "there are 60 taps"), (110, "there is no such tap"), (117, "minute or station is out of range"), (133, "week is out of range"), (143, "there is no such setting"), (157, "value is out of range"), (163, "code is not 33 to 126"), (165, "the buffer has 60 characters"), (174, "the buffer does not tell taps as a text"), (182, "there is no saved state"), (187, "what is not 0 to 7"), (198, "what is not 0 to 9")]
def m_sa : List (String × Nat) := [("FIRST_VALUES", 0), ("LEAST_VALUES", 1), ("MOST_VALUES", 2), ("HASHED_DAYS", 3)]
section MEV
abbrev m_T : Type := (Nat → Nat) × (Nat → Nat)
def m_EV (st : m_T) (A : Nat → Prop) (U : State) (H : Heap) : Prop :=
  (∀ q ∈ m_nf, va_Nw (.fieldLinkNest q.1 q.2.1 q.2.2.1 q.2.2.2.1 q.2.2.2.2.1 q.2.2.2.2.2) U) ∧ (∀ q ∈ m_nm, va_Nw (.methodLinkNest q.1 q.2.1 q.2.2.1 q.2.2.2) U) ∧ (∀ q ∈ m_sl, vk_R "CapWallets" q.1 q.2 (st.1 q.1) U) ∧
  (∀ q ∈ m_sa, va_Z "CapWallets" q.1 "[I" (.ref (st.2 q.2)) A U H) ∧ vx_Zq Bundle.tN "UNASSIGNED_STACK" Bundle.steD A U H ∧ vx_Zq Bundle.tN "SUPPRESSED_SENTINEL" Bundle.listD A U H ∧ va_AO "CapWallets$State" U
theorem m_EV.kept {st : m_T} {A : Nat → Prop} {U : State} {H H1 : Heap} (h : m_EV st A U H) (hq : ∀ a : Nat, a < H.size → ¬ A a → H1[a]? = H[a]?) : m_EV st A U H1 :=
  ⟨h.1, h.2.1, h.2.2.1, fun q hm => (h.2.2.2.1 q hm).kept hq, h.2.2.2.2.1.kept hq, h.2.2.2.2.2.1.kept hq, h.2.2.2.2.2.2⟩
theorem m_EV.narrow {st : m_T} {A B : Nat → Prop} {U : State} {H : Heap} (h : m_EV st A U H) (hAB : ∀ q, B q → A q) : m_EV st B U H :=
  ⟨h.1, h.2.1, h.2.2.1, fun q hm => (h.2.2.2.1 q hm).narrow hAB, h.2.2.2.2.1.narrow hAB, h.2.2.2.2.2.1.narrow hAB, h.2.2.2.2.2.2⟩
theorem m_EV.warm {st : m_T} {A : Nat → Prop} {s U : State} {H : Heap} (hW : s.WarmedH U.vm) (h : m_EV st A s H) : m_EV st A U H :=
  ⟨fun q hm => (h.1 q hm).warmF hW, fun q hm => (h.2.1 q hm).warmM hW, fun q hm => (h.2.2.1 q hm).warm hW, fun q hm => (h.2.2.2.1 q hm).moved hW.alike, vx_Zq.moved hW.alike h.2.2.2.2.1, vx_Zq.moved hW.alike h.2.2.2.2.2.1, h.2.2.2.2.2.2.moved hW.alike⟩
theorem m_EV.same {st : m_T} {A : Nat → Prop} {s U : State} {H : Heap} (hv : s.vm = U.vm) (h : m_EV st A s H) : m_EV st A U H :=
  ⟨fun q hm => (h.1 q hm).same rfl hv, fun q hm => (h.2.1 q hm).same rfl hv, fun q hm => (h.2.2.1 q hm).same hv.symm, fun q hm => (h.2.2.2.1 q hm).moved (hv ▸ Vm.Alike.refl s.vm), vx_Zq.moved (hv ▸ Vm.Alike.refl s.vm) h.2.2.2.2.1, vx_Zq.moved (hv ▸ Vm.Alike.refl s.vm) h.2.2.2.2.2.1, h.2.2.2.2.2.2.moved (hv ▸ Vm.Alike.refl s.vm)⟩
/-- a method's start -/
def mPc (D : va_G) (ids : m_I3) (st : m_T) (av : List Value) (h : mH) (z : Nat) : Array Value → State → Prop := va_Pc av (fun U => Rl D ids (m_A h z) h U U.heap ∧ m_EV st (m_A h z) U U.heap ∧ U.heap.size = z)
/-- the world behind it -/
def mB (D : va_G) (ids : m_I3) (A : Nat → Prop) (h : mH) (z : Nat) : Unit → State → Prop := fun _ t => Rl D ids A h t t.heap ∧ t.heap.size = z
def mQi (D : va_G) (ids : m_I3) (A : Nat → Prop) (r : Int32) (h : mH) (z : Nat) : Array Value → State → Outcome → State → Prop := va_Qi (fun r' (_ : Unit) => r' = r) (mB D ids A h z) A
def mQl (D : va_G) (ids : m_I3) (A : Nat → Prop) (r : Int64) (h : mH) (z : Nat) : Array Value → State → Outcome → State → Prop := va_Ql (fun r' (_ : Unit) => r' = r) (mB D ids A h z) A
def mQd (D : va_G) (ids : m_I3) (A : Nat → Prop) (r : UInt64) (h : mH) (z : Nat) : Array Value → State → Outcome → State → Prop := va_Qd (fun r' (_ : Unit) => r' = r) (mB D ids A h z) A
def mQq (D : va_G) (ids : m_I3) (A : Nat → Prop) (r : Option Nat) (h : mH) (z : Nat) : Array Value → State → Outcome → State → Prop := va_Qq (fun r' (_ : Unit) => r' = r) (mB D ids A h z) A
def mQv (D : va_G) (ids : m_I3) (A : Nat → Prop) (h : mH) (z : Nat) : Array Value → State → Outcome → State → Prop := va_Qv (fun (_ : Unit) => True) (mB D ids A h z) A
theorem m_blind (D : va_G) (ids : m_I3) (st : m_T) (av : List Value) (h : mH) (z : Nat) : FrameBlind (mPc D ids st av h z) := by
  intro a U g mk hq
  obtain ⟨e, hR, hE, hz⟩ := hq
  exact ⟨e, Rl.moved (u := U) (U := U.calling g mk a) (Vm.Alike.refl U.vm) hR, m_EV.same (s := U) (U := U.calling g mk a) rfl hE, hz⟩
/-- a method from its start -/
theorem mr_of {l : Launch} {y : MethodName} {ws ws' : List Cond} {rm : Room} {cc : ByteArray} {maxL : Nat} {ret : Option FieldType} {D : va_G} {ids : m_I3} {st : m_T} {av : List Value} {h : mH} {z : Nat} {Qc : Array Value → State → Outcome → State → Prop} {mc ms : Nat} {free : Addr → Prop}
    (hy : plainName y.cls = true) (hw : ws = Cond.code y cc maxL ret :: ws') (hlen : (lg_sl av).length ≤ maxL)
    (body : ∀ (p : Program) (e : Env) (s : State) (m : MethodId) (below : List Frame) (meth : Method) (c : Code) (ls : Array Slot), p.tables.exec = Jvm.exec → c.code = cc → meth.sig.returnType = ret → c.maxLocals = maxL → s.vm.findClass y.cls = some m.cls → (∀ w ∈ ws, w.before av.toArray s = true) → meth.locks = false → meth.name = y.name →
      Rl D ids (m_A h z) h s s.heap → m_EV st (m_A h z) s s.heap → s.heap.size = z → lv_has ls maxL (lv_args 0 av) →
      W p l e (headSpec ws rm).room s m av.toArray below meth c s.heap [] 0 0 (MQ below Qc av.toArray s mc ms free) (F0 m 0 ls [])) : Met l y ws rm (mPc D ids st av h z) Qc mc ms free := by
  refine Met.ofW (cc := cc) (maxL := maxL) (ret := ret) hy hw ?_
  intro p e s m args below meth c s₁ B hml hv
  obtain ⟨rfl, hR, hE, hz⟩ := hv
  have hl := lv_entry av (n := maxL) hlen
  rw [lg_entry_eq]
  exact body p e s m below meth c _ B.exec B.bytes B.returns hml (findClass_of_methodNamed B.named) (atoms_spec (ws := ws) B.pre) B.notSynchronized (name_of_methodNamed B.named B.method).1 hR hE hz hl
end MEV
section MRE
variable {p : Program} {l : Launch} {e : Env} {R : Room} {s : State} {m : MethodId} {args : Array Value} {below : List Frame} {meth : Method} {c : Code} {H : Heap} {locs : List Loc} {cells slots : Nat} {Q : State → Prop}
variable {cc : ByteArray} {pc : Nat} {ls : Array Slot} {rest st0 : List Value} {D : va_G} {ids : m_I3} {st : m_T} {A : Nat → Prop} {h : mH} {a z : Nat}
theorem mr_iret {v : Int32} (hexec : p.tables.exec = Jvm.exec) (hb : c.code = cc) (hr : meth.sig.returnType = some .int) (hlocks : meth.locks = false) (hR : Rl D ids A h s H) (hz : H.size = z) (hS : va_S A s.heap H locs) (hdg : decode cc pc = .ok (.ireturn, 1)) : W p l e R s m args below meth c H locs cells slots (MQ below (mQi D ids A v h z) args s cells slots A) (F0 m pc ls [.int v]) :=
  W.iret hexec hb hr (fun t ht hW => ⟨⟨v, (), rfl, rfl, by rw [ht]; exact hR.moved hW.alike, by rw [ht]; exact hz⟩, hS.F ht⟩) hS.2.2 hdg hlocks
theorem mr_zret {v w : Int32} (hg : m_z v = some w) (hexec : p.tables.exec = Jvm.exec) (hb : c.code = cc) (hr : meth.sig.returnType = some .boolean) (hlocks : meth.locks = false) (hR : Rl D ids A h s H) (hz : H.size = z) (hS : va_S A s.heap H locs) (hdg : decode cc pc = .ok (.ireturn, 1)) : W p l e R s m args below meth c H locs cells slots (MQ below (mQi D ids A w h z) args s cells slots A) (F0 m pc ls [.int v]) := by
  obtain ⟨rfl, hn⟩ := m_z_spec hg
  exact W.zret hexec hb hr hn (fun t ht hW => ⟨⟨v, (), rfl, rfl, by rw [ht]; exact hR.moved hW.alike, by rw [ht]; exact hz⟩, hS.F ht⟩) hS.2.2 hdg hlocks
theorem mr_lret {v : Int64} (hexec : p.tables.exec = Jvm.exec) (hb : c.code = cc) (hr : meth.sig.returnType = some .long) (hlocks : meth.locks = false) (hR : Rl D ids A h s H) (hz : H.size = z) (hS : va_S A s.heap H locs) (hdg : decode cc pc = .ok (.lreturn, 1)) : W p l e R s m args below meth c H locs cells slots (MQ below (mQl D ids A v h z) args s cells slots A) (F0 m pc ls [.long v]) :=
  W.lret hexec hb hr (fun t ht hW => ⟨⟨v, (), rfl, rfl, by rw [ht]; exact hR.moved hW.alike, by rw [ht]; exact hz⟩, hS.F ht⟩) hS.2.2 hdg hlocks
theorem mr_dret {v : UInt64} (hexec : p.tables.exec = Jvm.exec) (hb : c.code = cc) (hr : meth.sig.returnType = some .double) (hlocks : meth.locks = false) (hR : Rl D ids A h s H) (hz : H.size = z) (hS : va_S A s.heap H locs) (hdg : decode cc pc = .ok (.dreturn, 1)) : W p l e R s m args below meth c H locs cells slots (MQ below (mQd D ids A v h z) args s cells slots A) (F0 m pc ls [.double v]) :=
  W.dret hexec hb hr (fun t ht hW => ⟨⟨v, (), rfl, rfl, by rw [ht]; exact hR.moved hW.alike, by rw [ht]; exact hz⟩, hS.F ht⟩) hS.2.2 hdg hlocks
theorem mr_qret {v : Option Nat} {cn : String} (hexec : p.tables.exec = Jvm.exec) (hb : c.code = cc) (hr : meth.sig.returnType = some (.object cn)) (hlocks : meth.locks = false) (hR : Rl D ids A h s H) (hz : H.size = z) (hS : va_S A s.heap H locs) (hdg : decode cc pc = .ok (.areturn, 1)) : W p l e R s m args below meth c H locs cells slots (MQ below (mQq D ids A v h z) args s cells slots A) (F0 m pc ls [va_rf v]) :=
  W.aret hexec hb hr (Or.inl ⟨cn, rfl⟩) (va_rf_or v) (fun t ht hW => ⟨⟨v, (), rfl, rfl, by rw [ht]; exact hR.moved hW.alike, by rw [ht]; exact hz⟩, hS.F ht⟩) hS.2.2 hdg hlocks
theorem mr_vret (hexec : p.tables.exec = Jvm.exec) (hb : c.code = cc) (hr : meth.sig.returnType = none) (hlocks : meth.locks = false) (hR : Rl D ids A h s H) (hz : H.size = z) (hS : va_S A s.heap H locs) (hdg : decode cc pc = .ok (.return_, 1)) : W p l e R s m args below meth c H locs cells slots (MQ below (mQv D ids A h z) args s cells slots A) (F0 m pc ls []) :=
  W.vret hexec hb hr (fun t ht hW => ⟨⟨(), rfl, trivial, by rw [ht]; exact hR.moved hW.alike, by rw [ht]; exact hz⟩, hS.F ht⟩) hS.2.2 hdg hlocks
/-- what a call of a method of ours may take -/
theorem mr_pre {As : List Value} (hR : Rl D ids A h s H) (hE : m_EV st A s s.heap) (hz : H.size = z) (hS : va_S A s.heap H locs) (hA : ∀ q, s.heap.size ≤ q → A q) : ∀ U : State, U.heap = H → s.WarmedH U.vm → mPc D ids st As h z As.toArray U := by
  intro U hU hW
  have hB : ∀ q, m_A h z q → A q := m_lt_A hR (fun q hq => hA q (Nat.le_trans (by rw [← hz]; exact hS.1) hq))
  refine ⟨rfl, ?_, ?_, by rw [hU]; exact hz⟩
  · rw [hU]
    exact (hR.narrow (fun q hq => Or.inl hq)).moved hW.alike
  · rw [hU]
    exact ((hE.kept hS.2.1).narrow hB).warm hW
theorem mr_free {B : Nat → Prop} (hR : Rl D ids A h s H) (hz : H.size = z) (hS : va_S A s.heap H locs) (hA : ∀ q, s.heap.size ≤ q → A q) (hB : B = m_A h z) : ∀ q, B q → A q := by
  subst hB
  exact m_lt_A hR (fun q hq => hA q (Nat.le_trans (by rw [← hz]; exact hS.1) hq))
theorem mr_behind {h1 : mH} {z1 : Nat} {t : State} {H1 : Heap} {u : Unit} (hR : Rl D ids A h s H) (hB : mB D ids (m_A h z) h1 z1 u t) (ht : t.heap = H1) (hvm : s.vm.Alike t.vm) (hF : ∀ q, m_A h z q → A q) : Rl D ids A h1 s H1 ∧ H1.size = z1 := by
  obtain ⟨r1, r2⟩ := hB
  rw [ht] at r1 r2
  exact ⟨⟨hR.1, fun a e q => (r1.2.1 a e q).moved hvm.symm, fun q hq => hF q (r1.2.2 q hq)⟩, r2⟩
theorem mr_calli {h1 : mH} {z1 mc ms : Nat} {r : Int32} {a1 : Array Value} (hr : va_Run p l e R s m args below meth c H locs cells slots mc ms (F0 m pc ls st0) rest (mQi D ids (m_A h z) r h1 z1 a1) (m_A h z)) (hR : Rl D ids A h s H) (hz : H.size = z) (hS : va_S A s.heap H locs) (hA : ∀ q, s.heap.size ≤ q → A q)
    (kk : ∀ (H1 : Heap) (locs1 : List Loc), Rl D ids A h1 s H1 → H1.size = z1 → va_S A s.heap H1 locs1 → W p l e R s m args below meth c H1 locs1 (cells + mc) (slots + ms) Q (F0 m (pc + 3) ls (.int r :: rest))) : W p l e R s m args below meth c H locs cells slots Q (F0 m pc ls st0) := by
  have hF := mr_free hR hz hS hA rfl
  refine va_calli hr hS (fun q _ hq => hF q hq) hF (fun r' u t H1 locs1 ht hvm hp hB _ _ hS1 => ?_)
  obtain rfl : r' = r := hp
  obtain ⟨r1, r2⟩ := mr_behind hR hB ht hvm hF
  exact kk H1 locs1 r1 r2 hS1
theorem mr_calll {h1 : mH} {z1 mc ms : Nat} {r : Int64} {a1 : Array Value} (hr : va_Run p l e R s m args below meth c H locs cells slots mc ms (F0 m pc ls st0) rest (mQl D ids (m_A h z) r h1 z1 a1) (m_A h z)) (hR : Rl D ids A h s H) (hz : H.size = z) (hS : va_S A s.heap H locs) (hA : ∀ q, s.heap.size ≤ q → A q)
    (kk : ∀ (H1 : Heap) (locs1 : List Loc), Rl D ids A h1 s H1 → H1.size = z1 → va_S A s.heap H1 locs1 → W p l e R s m args below meth c H1 locs1 (cells + mc) (slots + ms) Q (F0 m (pc + 3) ls (.long r :: rest))) : W p l e R s m args below meth c H locs cells slots Q (F0 m pc ls st0) := by
  have hF := mr_free hR hz hS hA rfl
  refine va_calll hr hS (fun q _ hq => hF q hq) hF (fun r' u t H1 locs1 ht hvm hp hB _ _ hS1 => ?_)
  obtain rfl : r' = r := hp
  obtain ⟨r1, r2⟩ := mr_behind hR hB ht hvm hF
  exact kk H1 locs1 r1 r2 hS1
theorem mr_calld {h1 : mH} {z1 mc ms : Nat} {r : UInt64} {a1 : Array Value} (hr : va_Run p l e R s m args below meth c H locs cells slots mc ms (F0 m pc ls st0) rest (mQd D ids (m_A h z) r h1 z1 a1) (m_A h z)) (hR : Rl D ids A h s H) (hz : H.size = z) (hS : va_S A s.heap H locs) (hA : ∀ q, s.heap.size ≤ q → A q)
    (kk : ∀ (H1 : Heap) (locs1 : List Loc), Rl D ids A h1 s H1 → H1.size = z1 → va_S A s.heap H1 locs1 → W p l e R s m args below meth c H1 locs1 (cells + mc) (slots + ms) Q (F0 m (pc + 3) ls (.double r :: rest))) : W p l e R s m args below meth c H locs cells slots Q (F0 m pc ls st0) := by
  have hF := mr_free hR hz hS hA rfl
  refine va_calld hr hS (fun q _ hq => hF q hq) hF (fun r' u t H1 locs1 ht hvm hp hB _ _ hS1 => ?_)
  obtain rfl : r' = r := hp
  obtain ⟨r1, r2⟩ := mr_behind hR hB ht hvm hF
  exact kk H1 locs1 r1 r2 hS1
theorem mr_callq {h1 : mH} {z1 mc ms : Nat} {r : Option Nat} {a1 : Array Value} (hr : va_Run p l e R s m args below meth c H locs cells slots mc ms (F0 m pc ls st0) rest (mQq D ids (m_A h z) r h1 z1 a1) (m_A h z)) (hR : Rl D ids A h s H) (hz : H.size = z) (hS : va_S A s.heap H locs) (hA : ∀ q, s.heap.size ≤ q → A q)
    (kk : ∀ (H1 : Heap) (locs1 : List Loc), Rl D ids A h1 s H1 → H1.size = z1 → va_S A s.heap H1 locs1 → W p l e R s m args below meth c H1 locs1 (cells + mc) (slots + ms) Q (F0 m (pc + 3) ls (va_rf r :: rest))) : W p l e R s m args below meth c H locs cells slots Q (F0 m pc ls st0) := by
  have hF := mr_free hR hz hS hA rfl
  refine va_callq hr hS (fun q _ hq => hF q hq) hF (fun r' u t H1 locs1 ht hvm hp hB _ _ hS1 => ?_)
  obtain rfl : r' = r := hp
  obtain ⟨r1, r2⟩ := mr_behind hR hB ht hvm hF
  exact kk H1 locs1 r1 r2 hS1
theorem mr_callv {h1 : mH} {z1 mc ms : Nat} {a1 : Array Value} (hr : va_Run p l e R s m args below meth c H locs cells slots mc ms (F0 m pc ls st0) rest (mQv D ids (m_A h z) h1 z1 a1) (m_A h z)) (hR : Rl D ids A h s H) (hz : H.size = z) (hS : va_S A s.heap H locs) (hA : ∀ q, s.heap.size ≤ q → A q)
    (kk : ∀ (H1 : Heap) (locs1 : List Loc), Rl D ids A h1 s H1 → H1.size = z1 → va_S A s.heap H1 locs1 → W p l e R s m args below meth c H1 locs1 (cells + mc) (slots + ms) Q (F0 m (pc + 3) ls rest)) : W p l e R s m args below meth c H locs cells slots Q (F0 m pc ls st0) := by
  have hF := mr_free hR hz hS hA rfl
  refine va_callv hr hS (fun q _ hq => hF q hq) hF (fun u t H1 locs1 ht hvm _ hB _ _ hS1 => ?_)
  obtain ⟨r1, r2⟩ := mr_behind hR hB ht hvm hF
  exact kk H1 locs1 r1 r2 hS1
/-- the receiver of a call is there -/
theorem mr_recv {As : List Value} {ci : Nat} {q : vw_C} {fs : List Value} (hR : Rl D ids A h s H) (hE : m_EV st A s s.heap) (hz : H.size = z) (hS : va_S A s.heap H locs) (hA : ∀ q, s.heap.size ≤ q → A q) (hc : vwCl[ci]? = some q) (ho : h a = some (mO ci fs)) : PreV s H q.1 a (mPc D ids st (.ref a :: As) h z) As :=
  ⟨m_blind D ids st _ h z, va_recv (q0 := 0) hR.1 (mr_at1 hR ho) hc rfl, mr_pre hR hE hz hS hA⟩
theorem mr_recvS {As : List Value} (hR : Rl D ids A h s H) (hE : m_EV st A s s.heap) (hz : H.size = z) (hS : va_S A s.heap H locs) (hA : ∀ q, s.heap.size ≤ q → A q) : PreS s H (mPc D ids st As h z) As :=
  ⟨m_blind D ids st _ h z, mr_pre hR hE hz hS hA⟩
theorem mr_gets (hexec : p.tables.exec = Jvm.exec) (hb : c.code = cc) {n : String} {k : Nat} {own : String} {index : Nat} (hE : m_EV st A s s.heap) (hm : (n, k) ∈ m_sa) (hS : va_S A s.heap H locs) (hown : s.vm.findClass own = some m.cls) (hlink : (Cond.fieldLink own index "CapWallets" n "[I").before args s = true) (hdg : decode cc pc = .ok (.getstatic index, 3))
    (kk : W p l e R s m args below meth c H locs cells slots Q (F0 m (pc + 3) ls (.ref (st.2 k) :: rest))) : W p l e R s m args below meth c H locs cells slots Q (F0 m pc ls rest) :=
  va_gets hexec hb (hE.2.2.2.1 (n, k) hm) hS hown hlink (fun _ h => h) hdg kk
theorem mt_t {α : Type} {c : Prop} [Decidable c] {A B : Option α} {r : α} (h : (if c then A else B) = some r) (hc : c) : A = some r := by rw [if_pos hc] at h; exact h
theorem mt_f {α : Type} {c : Prop} [Decidable c] {A B : Option α} {r : α} (h : (if c then A else B) = some r) (hc : ¬ c) : B = some r := by rw [if_neg hc] at h; exact h
end MRE
end
section
/-! OUR OWN: calls of methods of ours, all over one list of words -/
section MRU
/-- what a caller takes of a method's words -/
def m_K (y : MethodName) (bytes : ByteArray) (maxL : Nat) (ret : Option FieldType) (n : Nat) : Prop :=
  (Cond.code y bytes maxL ret ∈ wT) ∧ (Cond.initialized y.cls ∈ wT) ∧ (y.cls ≠ "java/lang/invoke/MethodHandle" ∧ y.cls ≠ "java/lang/invoke/VarHandle" ∧ (parseMethodDescriptor y.desc).map (fun d => d.parameters.length) = some n)
theorem m_ws_in {y0 : MethodName} {cc0 : ByteArray} {n0 : Nat} {ret0 : Option FieldType} {w : Cond} (h : w ∈ wT) : w ∈ m_ws y0 cc0 n0 ret0 := List.mem_cons_of_mem _ h
theorem m_goodIn {y0 y : MethodName} {cc0 bytes : ByteArray} {n0 maxL : Nat} {ret0 ret : Option FieldType} {n : Nat} (hk : m_K y bytes maxL ret n) : GoodIn (m_ws y0 cc0 n0 ret0) (m_ws y bytes maxL ret) := by
  intro w hw
  rcases List.mem_cons.mp hw with h | h
  · subst h
    exact ⟨m_ws_in hk.1, (w_good _ hk.1).2⟩
  · exact ⟨m_ws_in h, (w_good _ h).2⟩
theorem m_goodT {y : MethodName} {bytes : ByteArray} {maxL : Nat} {ret : Option FieldType} {n : Nat} (hk : m_K y bytes maxL ret n) : GoodIn lw_tbl (m_ws y bytes maxL ret) := by
  intro w hw
  rcases List.mem_cons.mp hw with h | h
  · subst h
    exact w_good _ hk.1
  · exact w_good _ h
variable {p : Program} {l : Launch} {e : Env} {R : Room} {s : State} {m : MethodId} {args : Array Value} {below : List Frame} {meth : Method} {c : Code} {H : Heap} {locs : List Loc} {cells slots : Nat} {Q : State → Prop}
variable {cc cc0 bytes : ByteArray} {pc nL n0 maxL index : Nat} {ls : Array Slot} {rest st0 As : List Value} {y y0 : MethodName} {ret ret0 : Option FieldType} {rm : Room} {Pc : Array Value → State → Prop} {Qc : Array Value → State → Outcome → State → Prop} {free : Nat → Prop} {own C : String} {a : Nat}
theorem mr_runS (hexec : p.tables.exec = Jvm.exec) (hb : c.code = cc) (hml : c.maxLocals = nL) (hown : s.vm.findClass own = some m.cls) (hts : ∀ w ∈ m_ws y0 cc0 n0 ret0, w.before args s = true) (hM : Met l y (m_ws y bytes maxL ret) rm Pc Qc rm.cells rm.slots free) (hk : m_K y bytes maxL ret As.length) (hst : Cond.static y ∈ wT) (hlink : Cond.methodLink own index y ∈ wT)
    (hRm : rm.frames + 1 ≤ R.frames ∧ 8 + (maxL + 11) + rm.locals ≤ R.locals) (hp : PreS s H Pc As) (hsize : ls.size = nL) (hstack : st0 = As.reverse ++ rest) (hW : (rest.map fun v => v.category).sum ≤ 8) (hdg : decode cc pc = .ok (.invokestatic index, 3)) (hf : cells + rm.cells ≤ R.cells ∧ slots + rm.slots ≤ R.slots) :
    va_Run p l e R s m args below meth c H locs cells slots rm.cells rm.slots (F0 m pc ls st0) rest (Qc As.toArray) free :=
  va_runS (Ts := m_ws y0 cc0 n0 ret0) ⟨hexec, hb, hml, hown, hts⟩ hM ⟨callB_of As.length hts (m_goodIn hk) rfl rfl rfl (hts _ (m_ws_in hk.2.1)) (hts _ (m_ws_in hlink)) hk.2.2 hRm, hts _ (m_ws_in hst)⟩ hp rfl rfl hsize hstack (lv_room hW) hdg hf
theorem mr_runSN {host : String} (hexec : p.tables.exec = Jvm.exec) (hb : c.code = cc) (hml : c.maxLocals = nL) (hown : s.vm.findClass own = some m.cls) (hts : ∀ w ∈ m_ws y0 cc0 n0 ret0, w.before args s = true) (hM : Met l y (m_ws y bytes maxL ret) rm Pc Qc rm.cells rm.slots free) (hk : m_K y bytes maxL ret As.length) (hst : Cond.static y ∈ wT) (hlink : va_Nw (Cond.methodLinkNest own index y host) s)
    (hRm : rm.frames + 1 ≤ R.frames ∧ 8 + (maxL + 11) + rm.locals ≤ R.locals) (hp : PreS s H Pc As) (hsize : ls.size = nL) (hstack : st0 = As.reverse ++ rest) (hW : (rest.map fun v => v.category).sum ≤ 8) (hdg : decode cc pc = .ok (.invokestatic index, 3)) (hf : cells + rm.cells ≤ R.cells ∧ slots + rm.slots ≤ R.slots) :
    va_Run p l e R s m args below meth c H locs cells slots rm.cells rm.slots (F0 m pc ls st0) rest (Qc As.toArray) free :=
  va_runSN (Ts := m_ws y0 cc0 n0 ret0) ⟨hexec, hb, hml, hown, hts⟩ hM ⟨va_cnB As.length hts (m_goodIn hk) rfl rfl rfl hlink (hts _ (m_ws_in hk.2.1)) hk.2.2 hRm, hts _ (m_ws_in hst), trivial⟩ hp rfl rfl hsize hstack (lv_room hW) hdg hf
theorem mr_runV (hexec : p.tables.exec = Jvm.exec) (hb : c.code = cc) (hml : c.maxLocals = nL) (hown : s.vm.findClass own = some m.cls) (hts : ∀ w ∈ m_ws y0 cc0 n0 ret0, w.before args s = true) (hM : Met l y (m_ws y bytes maxL ret) rm Pc Qc rm.cells rm.slots free) (hk : m_K y bytes maxL ret As.length) (hst : Cond.instanceMethod y ∈ wT ∧ Cond.selects C y y ∈ wT) (hlink : Cond.methodLink own index y ∈ wT)
    (hRm : rm.frames + 1 ≤ R.frames ∧ 8 + (maxL + 11) + rm.locals ≤ R.locals) (hp : PreV s H C a Pc As) (hsize : ls.size = nL) (hstack : st0 = As.reverse ++ .ref a :: rest) (hW : (rest.map fun v => v.category).sum ≤ 8) (hdg : decode cc pc = .ok (.invokevirtual index, 3)) (hf : cells + rm.cells ≤ R.cells ∧ slots + rm.slots ≤ R.slots) :
    va_Run p l e R s m args below meth c H locs cells slots rm.cells rm.slots (F0 m pc ls st0) rest (Qc (Value.ref a :: As).toArray) free :=
  va_runV (Ts := m_ws y0 cc0 n0 ret0) ⟨hexec, hb, hml, hown, hts⟩ hM ⟨callB_of As.length hts (m_goodIn hk) rfl rfl rfl (hts _ (m_ws_in hk.2.1)) (hts _ (m_ws_in hlink)) hk.2.2 hRm, hts _ (m_ws_in hst.1), hts _ (m_ws_in hst.2)⟩ hp rfl rfl hsize hstack (lv_room hW) hdg hf
theorem mr_runI (hexec : p.tables.exec = Jvm.exec) (hb : c.code = cc) (hml : c.maxLocals = nL) (hown : s.vm.findClass own = some m.cls) (hts : ∀ w ∈ m_ws y0 cc0 n0 ret0, w.before args s = true) (hM : Met l y (m_ws y bytes maxL none) rm Pc Qc rm.cells rm.slots free) (hk : m_K y bytes maxL none As.length) (hst : Cond.instanceMethod y ∈ wT) (hy1 : y.name = "<init>") (hlink : Cond.methodLink own index y ∈ wT)
    (hRm : rm.frames + 1 ≤ R.frames ∧ 8 + (maxL + 11) + rm.locals ≤ R.locals) (hp : PreS s H Pc (.ref a :: As)) (hsize : ls.size = nL) (hstack : st0 = As.reverse ++ .ref a :: rest) (hW : (rest.map fun v => v.category).sum ≤ 8) (hdg : decode cc pc = .ok (.invokespecial index, 3)) (hf : cells + rm.cells ≤ R.cells ∧ slots + rm.slots ≤ R.slots) :
    va_Run p l e R s m args below meth c H locs cells slots rm.cells rm.slots (F0 m pc ls st0) rest (Qc (Value.ref a :: As).toArray) free :=
  va_runI (Ts := m_ws y0 cc0 n0 ret0) ⟨hexec, hb, hml, hown, hts⟩ hM (cwI As.length hts (m_goodIn hk) rfl rfl rfl (hts _ (m_ws_in hk.2.1)) (hts _ (m_ws_in hlink)) (hts _ (m_ws_in hst)) hy1 hk.2.2 hRm) hp rfl rfl hsize hstack (lv_room hW) hdg hf
end MRU
end
section
/-- far more turns than any loop of ours takes -/
def m_F : Nat := 4000
theorem m_EV.nf {st : m_T} {A : Nat → Prop} {s : State} {H : Heap} (hE : m_EV st A s H) {i : Nat} {a : String} {b : Nat} {c d e f : String} (hi : m_nf[i]? = some (a, b, c, d, e, f)) : va_Nw (.fieldLinkNest a b c d e f) s := hE.1 _ (List.mem_of_getElem? hi)
theorem m_EV.nm {st : m_T} {A : Nat → Prop} {s : State} {H : Heap} (hE : m_EV st A s H) {i : Nat} {a : String} {b : Nat} {y : MethodName} {d : String} (hi : m_nm[i]? = some (a, b, y, d)) : va_Nw (.methodLinkNest a b y d) s := hE.2.1 _ (List.mem_of_getElem? hi)
end
section
/-! decode rows, printed by program -/
theorem dX0_init_0 : decode cX0_init 0 = .ok (.aload_n 0, 1) := by decide +kernel
theorem dX0_init_1 : decode cX0_init 1 = .ok (.invokespecial 3, 3) := by decide +kernel
theorem dX0_init_4 : decode cX0_init 4 = .ok (.aload_n 0, 1) := by decide +kernel
theorem dX0_init_5 : decode cX0_init 5 = .ok (.bipush 61, 2) := by decide +kernel
theorem dX0_init_7 : decode cX0_init 7 = .ok (.newarray .int, 2) := by decide +kernel
theorem dX0_init_9 : decode cX0_init 9 = .ok (.putfield 9, 3) := by decide +kernel
theorem dX0_init_12 : decode cX0_init 12 = .ok (.aload_n 0, 1) := by decide +kernel
theorem dX0_init_13 : decode cX0_init 13 = .ok (.bipush 61, 2) := by decide +kernel
theorem dX0_init_15 : decode cX0_init 15 = .ok (.newarray .int, 2) := by decide +kernel
theorem dX0_init_17 : decode cX0_init 17 = .ok (.putfield 15, 3) := by decide +kernel
theorem dX0_init_20 : decode cX0_init 20 = .ok (.aload_n 0, 1) := by decide +kernel
theorem dX0_init_21 : decode cX0_init 21 = .ok (.bipush 112, 2) := by decide +kernel
theorem dX0_init_23 : decode cX0_init 23 = .ok (.newarray .int, 2) := by decide +kernel
theorem dX0_init_25 : decode cX0_init 25 = .ok (.putfield 18, 3) := by decide +kernel
theorem dX0_init_28 : decode cX0_init 28 = .ok (.aload_n 0, 1) := by decide +kernel
theorem dX0_init_29 : decode cX0_init 29 = .ok (.bipush 112, 2) := by decide +kernel
theorem dX0_init_31 : decode cX0_init 31 = .ok (.newarray .int, 2) := by decide +kernel
theorem dX0_init_33 : decode cX0_init 33 = .ok (.putfield 21, 3) := by decide +kernel
theorem dX0_init_36 : decode cX0_init 36 = .ok (.aload_n 0, 1) := by decide +kernel
theorem dX0_init_37 : decode cX0_init 37 = .ok (.bipush 112, 2) := by decide +kernel
theorem dX0_init_39 : decode cX0_init 39 = .ok (.newarray .int, 2) := by decide +kernel
theorem dX0_init_41 : decode cX0_init 41 = .ok (.putfield 24, 3) := by decide +kernel
theorem dX0_init_44 : decode cX0_init 44 = .ok (.aload_n 0, 1) := by decide +kernel
theorem dX0_init_45 : decode cX0_init 45 = .ok (.bipush 10, 2) := by decide +kernel
theorem dX0_init_47 : decode cX0_init 47 = .ok (.newarray .int, 2) := by decide +kernel
theorem dX0_init_49 : decode cX0_init 49 = .ok (.putfield 27, 3) := by decide +kernel
theorem dX0_init_52 : decode cX0_init 52 = .ok (.aload_n 0, 1) := by decide +kernel
theorem dX0_init_53 : decode cX0_init 53 = .ok (.iconst 4, 1) := by decide +kernel
theorem dX0_init_54 : decode cX0_init 54 = .ok (.newarray .int, 2) := by decide +kernel
theorem dX0_init_56 : decode cX0_init 56 = .ok (.putfield 30, 3) := by decide +kernel
theorem dX0_init_59 : decode cX0_init 59 = .ok (.aload_n 0, 1) := by decide +kernel
theorem dX0_init_60 : decode cX0_init 60 = .ok (.iconst 0, 1) := by decide +kernel
theorem dX0_init_61 : decode cX0_init 61 = .ok (.putfield 33, 3) := by decide +kernel
theorem dX0_init_64 : decode cX0_init 64 = .ok (.aload_n 0, 1) := by decide +kernel
theorem dX0_init_65 : decode cX0_init 65 = .ok (.iconst 0, 1) := by decide +kernel
theorem dX0_init_66 : decode cX0_init 66 = .ok (.putfield 37, 3) := by decide +kernel
theorem dX0_init_69 : decode cX0_init 69 = .ok (.return_, 1) := by decide +kernel
theorem dX0_readFrom_0 : decode cX0_readFrom 0 = .ok (.aload_n 0, 1) := by decide +kernel
theorem dX0_readFrom_1 : decode cX0_readFrom 1 = .ok (.aload_n 2, 1) := by decide +kernel
theorem dX0_readFrom_2 : decode cX0_readFrom 2 = .ok (.iconst 4, 1) := by decide +kernel
theorem dX0_readFrom_3 : decode cX0_readFrom 3 = .ok (.invokestatic 40, 3) := by decide +kernel
theorem dX0_readFrom_6 : decode cX0_readFrom 6 = .ok (.putfield 33, 3) := by decide +kernel
theorem dX0_readFrom_9 : decode cX0_readFrom 9 = .ok (.aload_n 0, 1) := by decide +kernel
theorem dX0_readFrom_10 : decode cX0_readFrom 10 = .ok (.aload_n 2, 1) := by decide +kernel
theorem dX0_readFrom_11 : decode cX0_readFrom 11 = .ok (.iconst 5, 1) := by decide +kernel
theorem dX0_readFrom_12 : decode cX0_readFrom 12 = .ok (.invokestatic 40, 3) := by decide +kernel
theorem dX0_readFrom_15 : decode cX0_readFrom 15 = .ok (.putfield 37, 3) := by decide +kernel
theorem dX0_readFrom_18 : decode cX0_readFrom 18 = .ok (.aload_n 0, 1) := by decide +kernel
theorem dX0_readFrom_19 : decode cX0_readFrom 19 = .ok (.aload_n 1, 1) := by decide +kernel
theorem dX0_readFrom_20 : decode cX0_readFrom 20 = .ok (.aload_n 2, 1) := by decide +kernel
theorem dX0_readFrom_21 : decode cX0_readFrom 21 = .ok (.iconst 3, 1) := by decide +kernel
theorem dX0_readFrom_22 : decode cX0_readFrom 22 = .ok (.invokestatic 40, 3) := by decide +kernel
theorem dX0_readFrom_25 : decode cX0_readFrom 25 = .ok (.invokevirtual 46, 3) := by decide +kernel
theorem dX0_readFrom_28 : decode cX0_readFrom 28 = .ok (.aload_n 0, 1) := by decide +kernel
theorem dX0_readFrom_29 : decode cX0_readFrom 29 = .ok (.aload_n 1, 1) := by decide +kernel
theorem dX0_readFrom_30 : decode cX0_readFrom 30 = .ok (.aload_n 2, 1) := by decide +kernel
theorem dX0_readFrom_31 : decode cX0_readFrom 31 = .ok (.invokevirtual 50, 3) := by decide +kernel
theorem dX0_readFrom_34 : decode cX0_readFrom 34 = .ok (.aload_n 0, 1) := by decide +kernel
theorem dX0_readFrom_35 : decode cX0_readFrom 35 = .ok (.aload_n 1, 1) := by decide +kernel
theorem dX0_readFrom_36 : decode cX0_readFrom 36 = .ok (.invokevirtual 54, 3) := by decide +kernel
theorem dX0_readFrom_39 : decode cX0_readFrom 39 = .ok (.return_, 1) := by decide +kernel
theorem dX0_findMates_0 : decode cX0_findMates 0 = .ok (.aload_n 0, 1) := by decide +kernel
theorem dX0_findMates_1 : decode cX0_findMates 1 = .ok (.getfield 9, 3) := by decide +kernel
theorem dX0_findMates_4 : decode cX0_findMates 4 = .ok (.iconst (-1), 1) := by decide +kernel
theorem dX0_findMates_5 : decode cX0_findMates 5 = .ok (.invokestatic 58, 3) := by decide +kernel
theorem dX0_findMates_8 : decode cX0_findMates 8 = .ok (.aload_n 0, 1) := by decide +kernel
theorem dX0_findMates_9 : decode cX0_findMates 9 = .ok (.getfield 30, 3) := by decide +kernel
theorem dX0_findMates_12 : decode cX0_findMates 12 = .ok (.iconst (-1), 1) := by decide +kernel
theorem dX0_findMates_13 : decode cX0_findMates 13 = .ok (.invokestatic 58, 3) := by decide +kernel
theorem dX0_findMates_16 : decode cX0_findMates 16 = .ok (.iconst 0, 1) := by decide +kernel
theorem dX0_findMates_17 : decode cX0_findMates 17 = .ok (.istore_n 3, 1) := by decide +kernel
theorem dX0_findMates_18 : decode cX0_findMates 18 = .ok (.iload_n 3, 1) := by decide +kernel
theorem dX0_findMates_19 : decode cX0_findMates 19 = .ok (.aload_n 1, 1) := by decide +kernel
theorem dX0_findMates_20 : decode cX0_findMates 20 = .ok (.getfield 62, 3) := by decide +kernel
theorem dX0_findMates_23 : decode cX0_findMates 23 = .ok (.if_icmp .ge 83, 3) := by decide +kernel
theorem dX0_findMates_26 : decode cX0_findMates 26 = .ok (.aload_n 1, 1) := by decide +kernel
theorem dX0_findMates_27 : decode cX0_findMates 27 = .ok (.iload_n 3, 1) := by decide +kernel
theorem dX0_findMates_28 : decode cX0_findMates 28 = .ok (.invokevirtual 67, 3) := by decide +kernel
theorem dX0_findMates_31 : decode cX0_findMates 31 = .ok (.istore 4, 2) := by decide +kernel
theorem dX0_findMates_33 : decode cX0_findMates 33 = .ok (.aload_n 0, 1) := by decide +kernel
theorem dX0_findMates_34 : decode cX0_findMates 34 = .ok (.getfield 30, 3) := by decide +kernel
theorem dX0_findMates_37 : decode cX0_findMates 37 = .ok (.iload 4, 2) := by decide +kernel
theorem dX0_findMates_39 : decode cX0_findMates 39 = .ok (.invokestatic 71, 3) := by decide +kernel
theorem dX0_findMates_42 : decode cX0_findMates 42 = .ok (.invokestatic 40, 3) := by decide +kernel
theorem dX0_findMates_45 : decode cX0_findMates 45 = .ok (.istore 5, 2) := by decide +kernel
theorem dX0_findMates_47 : decode cX0_findMates 47 = .ok (.iload 5, 2) := by decide +kernel
theorem dX0_findMates_49 : decode cX0_findMates 49 = .ok (.ifCond .lt 38, 3) := by decide +kernel
theorem dX0_findMates_52 : decode cX0_findMates 52 = .ok (.aload_n 1, 1) := by decide +kernel
theorem dX0_findMates_53 : decode cX0_findMates 53 = .ok (.iload 5, 2) := by decide +kernel
theorem dX0_findMates_55 : decode cX0_findMates 55 = .ok (.invokevirtual 67, 3) := by decide +kernel
theorem dX0_findMates_58 : decode cX0_findMates 58 = .ok (.iload 4, 2) := by decide +kernel
theorem dX0_findMates_60 : decode cX0_findMates 60 = .ok (.iload_n 2, 1) := by decide +kernel
theorem dX0_findMates_61 : decode cX0_findMates 61 = .ok (.invokestatic 76, 3) := by decide +kernel
theorem dX0_findMates_64 : decode cX0_findMates 64 = .ok (.ifCond .eq 23, 3) := by decide +kernel
theorem dX0_findMates_67 : decode cX0_findMates 67 = .ok (.aload_n 0, 1) := by decide +kernel
theorem dX0_findMates_68 : decode cX0_findMates 68 = .ok (.getfield 9, 3) := by decide +kernel
theorem dX0_findMates_71 : decode cX0_findMates 71 = .ok (.iload 5, 2) := by decide +kernel
theorem dX0_findMates_73 : decode cX0_findMates 73 = .ok (.iload_n 3, 1) := by decide +kernel
theorem dX0_findMates_74 : decode cX0_findMates 74 = .ok (.invokestatic 80, 3) := by decide +kernel
theorem dX0_findMates_77 : decode cX0_findMates 77 = .ok (.aload_n 0, 1) := by decide +kernel
theorem dX0_findMates_78 : decode cX0_findMates 78 = .ok (.getfield 9, 3) := by decide +kernel
theorem dX0_findMates_81 : decode cX0_findMates 81 = .ok (.iload_n 3, 1) := by decide +kernel
theorem dX0_findMates_82 : decode cX0_findMates 82 = .ok (.iload 5, 2) := by decide +kernel
theorem dX0_findMates_84 : decode cX0_findMates 84 = .ok (.invokestatic 80, 3) := by decide +kernel
theorem dX0_findMates_87 : decode cX0_findMates 87 = .ok (.aload_n 0, 1) := by decide +kernel
theorem dX0_findMates_88 : decode cX0_findMates 88 = .ok (.getfield 30, 3) := by decide +kernel
theorem dX0_findMates_91 : decode cX0_findMates 91 = .ok (.iload 4, 2) := by decide +kernel
theorem dX0_findMates_93 : decode cX0_findMates 93 = .ok (.invokestatic 71, 3) := by decide +kernel
theorem dX0_findMates_96 : decode cX0_findMates 96 = .ok (.iload_n 3, 1) := by decide +kernel
theorem dX0_findMates_97 : decode cX0_findMates 97 = .ok (.invokestatic 80, 3) := by decide +kernel
theorem dX0_findMates_100 : decode cX0_findMates 100 = .ok (.iinc 3 1, 3) := by decide +kernel
theorem dX0_findMates_103 : decode cX0_findMates 103 = .ok (.goto (-85), 3) := by decide +kernel
theorem dX0_findMates_106 : decode cX0_findMates 106 = .ok (.return_, 1) := by decide +kernel
theorem dX0_isRide_0 : decode cX0_isRide 0 = .ok (.iload_n 0, 1) := by decide +kernel
theorem dX0_isRide_1 : decode cX0_isRide 1 = .ok (.invokestatic 84, 3) := by decide +kernel
theorem dX0_isRide_4 : decode cX0_isRide 4 = .ok (.ifCond .eq 38, 3) := by decide +kernel
theorem dX0_isRide_7 : decode cX0_isRide 7 = .ok (.iload_n 1, 1) := by decide +kernel
theorem dX0_isRide_8 : decode cX0_isRide 8 = .ok (.invokestatic 84, 3) := by decide +kernel
theorem dX0_isRide_11 : decode cX0_isRide 11 = .ok (.ifCond .ne 31, 3) := by decide +kernel
theorem dX0_isRide_14 : decode cX0_isRide 14 = .ok (.iload_n 0, 1) := by decide +kernel
theorem dX0_isRide_15 : decode cX0_isRide 15 = .ok (.invokestatic 88, 3) := by decide +kernel
theorem dX0_isRide_18 : decode cX0_isRide 18 = .ok (.iload_n 1, 1) := by decide +kernel
theorem dX0_isRide_19 : decode cX0_isRide 19 = .ok (.invokestatic 88, 3) := by decide +kernel
theorem dX0_isRide_22 : decode cX0_isRide 22 = .ok (.if_icmp .ne 20, 3) := by decide +kernel
theorem dX0_isRide_25 : decode cX0_isRide 25 = .ok (.iload_n 1, 1) := by decide +kernel
theorem dX0_isRide_26 : decode cX0_isRide 26 = .ok (.invokestatic 91, 3) := by decide +kernel
theorem dX0_isRide_29 : decode cX0_isRide 29 = .ok (.iload_n 0, 1) := by decide +kernel
theorem dX0_isRide_30 : decode cX0_isRide 30 = .ok (.invokestatic 91, 3) := by decide +kernel
theorem dX0_isRide_33 : decode cX0_isRide 33 = .ok (.isub, 1) := by decide +kernel
theorem dX0_isRide_34 : decode cX0_isRide 34 = .ok (.iload_n 2, 1) := by decide +kernel
theorem dX0_isRide_35 : decode cX0_isRide 35 = .ok (.if_icmp .gt 7, 3) := by decide +kernel
theorem dX0_isRide_38 : decode cX0_isRide 38 = .ok (.iconst 1, 1) := by decide +kernel
theorem dX0_isRide_39 : decode cX0_isRide 39 = .ok (.goto 4, 3) := by decide +kernel
theorem dX0_isRide_42 : decode cX0_isRide 42 = .ok (.iconst 0, 1) := by decide +kernel
theorem dX0_isRide_43 : decode cX0_isRide 43 = .ok (.ireturn, 1) := by decide +kernel
theorem dX0_findFares_0 : decode cX0_findFares 0 = .ok (.iconst 0, 1) := by decide +kernel
theorem dX0_findFares_1 : decode cX0_findFares 1 = .ok (.istore_n 3, 1) := by decide +kernel
theorem dX0_findFares_2 : decode cX0_findFares 2 = .ok (.iload_n 3, 1) := by decide +kernel
theorem dX0_findFares_3 : decode cX0_findFares 3 = .ok (.aload_n 1, 1) := by decide +kernel
theorem dX0_findFares_4 : decode cX0_findFares 4 = .ok (.getfield 62, 3) := by decide +kernel
theorem dX0_findFares_7 : decode cX0_findFares 7 = .ok (.if_icmp .ge 81, 3) := by decide +kernel
theorem dX0_findFares_10 : decode cX0_findFares 10 = .ok (.aload_n 0, 1) := by decide +kernel
theorem dX0_findFares_11 : decode cX0_findFares 11 = .ok (.getfield 9, 3) := by decide +kernel
theorem dX0_findFares_14 : decode cX0_findFares 14 = .ok (.iload_n 3, 1) := by decide +kernel
theorem dX0_findFares_15 : decode cX0_findFares 15 = .ok (.invokestatic 40, 3) := by decide +kernel
theorem dX0_findFares_18 : decode cX0_findFares 18 = .ok (.istore 4, 2) := by decide +kernel
theorem dX0_findFares_20 : decode cX0_findFares 20 = .ok (.aload_n 2, 1) := by decide +kernel
theorem dX0_findFares_21 : decode cX0_findFares 21 = .ok (.iconst 2, 1) := by decide +kernel
theorem dX0_findFares_22 : decode cX0_findFares 22 = .ok (.invokestatic 40, 3) := by decide +kernel
theorem dX0_findFares_25 : decode cX0_findFares 25 = .ok (.istore 5, 2) := by decide +kernel
theorem dX0_findFares_27 : decode cX0_findFares 27 = .ok (.iload 4, 2) := by decide +kernel
theorem dX0_findFares_29 : decode cX0_findFares 29 = .ok (.iconst (-1), 1) := by decide +kernel
theorem dX0_findFares_30 : decode cX0_findFares 30 = .ok (.if_icmp .eq 42, 3) := by decide +kernel
theorem dX0_findFares_33 : decode cX0_findFares 33 = .ok (.aload_n 1, 1) := by decide +kernel
theorem dX0_findFares_34 : decode cX0_findFares 34 = .ok (.iload_n 3, 1) := by decide +kernel
theorem dX0_findFares_35 : decode cX0_findFares 35 = .ok (.invokevirtual 67, 3) := by decide +kernel
theorem dX0_findFares_38 : decode cX0_findFares 38 = .ok (.invokestatic 94, 3) := by decide +kernel
theorem dX0_findFares_41 : decode cX0_findFares 41 = .ok (.aload_n 1, 1) := by decide +kernel
theorem dX0_findFares_42 : decode cX0_findFares 42 = .ok (.iload 4, 2) := by decide +kernel
theorem dX0_findFares_44 : decode cX0_findFares 44 = .ok (.invokevirtual 67, 3) := by decide +kernel
theorem dX0_findFares_47 : decode cX0_findFares 47 = .ok (.invokestatic 94, 3) := by decide +kernel
theorem dX0_findFares_50 : decode cX0_findFares 50 = .ok (.isub, 1) := by decide +kernel
theorem dX0_findFares_51 : decode cX0_findFares 51 = .ok (.invokestatic 97, 3) := by decide +kernel
theorem dX0_findFares_54 : decode cX0_findFares 54 = .ok (.istore 6, 2) := by decide +kernel
theorem dX0_findFares_56 : decode cX0_findFares 56 = .ok (.aload_n 2, 1) := by decide +kernel
theorem dX0_findFares_57 : decode cX0_findFares 57 = .ok (.iconst 0, 1) := by decide +kernel
theorem dX0_findFares_58 : decode cX0_findFares 58 = .ok (.invokestatic 40, 3) := by decide +kernel
theorem dX0_findFares_61 : decode cX0_findFares 61 = .ok (.aload_n 2, 1) := by decide +kernel
theorem dX0_findFares_62 : decode cX0_findFares 62 = .ok (.iconst 1, 1) := by decide +kernel
theorem dX0_findFares_63 : decode cX0_findFares 63 = .ok (.invokestatic 40, 3) := by decide +kernel
theorem dX0_findFares_66 : decode cX0_findFares 66 = .ok (.iload 6, 2) := by decide +kernel
theorem dX0_findFares_68 : decode cX0_findFares 68 = .ok (.imul, 1) := by decide +kernel
theorem dX0_findFares_69 : decode cX0_findFares 69 = .ok (.iadd, 1) := by decide +kernel
theorem dX0_findFares_70 : decode cX0_findFares 70 = .ok (.istore 5, 2) := by decide +kernel
theorem dX0_findFares_72 : decode cX0_findFares 72 = .ok (.aload_n 0, 1) := by decide +kernel
theorem dX0_findFares_73 : decode cX0_findFares 73 = .ok (.getfield 15, 3) := by decide +kernel
theorem dX0_findFares_76 : decode cX0_findFares 76 = .ok (.iload_n 3, 1) := by decide +kernel
theorem dX0_findFares_77 : decode cX0_findFares 77 = .ok (.iload 5, 2) := by decide +kernel
theorem dX0_findFares_79 : decode cX0_findFares 79 = .ok (.invokestatic 80, 3) := by decide +kernel
theorem dX0_findFares_82 : decode cX0_findFares 82 = .ok (.iinc 3 1, 3) := by decide +kernel
theorem dX0_findFares_85 : decode cX0_findFares 85 = .ok (.goto (-83), 3) := by decide +kernel
theorem dX0_findFares_88 : decode cX0_findFares 88 = .ok (.return_, 1) := by decide +kernel
theorem dX0_addUp_0 : decode cX0_addUp 0 = .ok (.aload_n 0, 1) := by decide +kernel
theorem dX0_addUp_1 : decode cX0_addUp 1 = .ok (.getfield 18, 3) := by decide +kernel
theorem dX0_addUp_4 : decode cX0_addUp 4 = .ok (.iconst 0, 1) := by decide +kernel
theorem dX0_addUp_5 : decode cX0_addUp 5 = .ok (.invokestatic 58, 3) := by decide +kernel
theorem dX0_addUp_8 : decode cX0_addUp 8 = .ok (.aload_n 0, 1) := by decide +kernel
theorem dX0_addUp_9 : decode cX0_addUp 9 = .ok (.getfield 21, 3) := by decide +kernel
theorem dX0_addUp_12 : decode cX0_addUp 12 = .ok (.iconst 0, 1) := by decide +kernel
theorem dX0_addUp_13 : decode cX0_addUp 13 = .ok (.invokestatic 58, 3) := by decide +kernel
theorem dX0_addUp_16 : decode cX0_addUp 16 = .ok (.aload_n 0, 1) := by decide +kernel
theorem dX0_addUp_17 : decode cX0_addUp 17 = .ok (.getfield 24, 3) := by decide +kernel
theorem dX0_addUp_20 : decode cX0_addUp 20 = .ok (.iconst 0, 1) := by decide +kernel
theorem dX0_addUp_21 : decode cX0_addUp 21 = .ok (.invokestatic 58, 3) := by decide +kernel
theorem dX0_addUp_24 : decode cX0_addUp 24 = .ok (.aload_n 0, 1) := by decide +kernel
theorem dX0_addUp_25 : decode cX0_addUp 25 = .ok (.getfield 27, 3) := by decide +kernel
theorem dX0_addUp_28 : decode cX0_addUp 28 = .ok (.iconst 0, 1) := by decide +kernel
theorem dX0_addUp_29 : decode cX0_addUp 29 = .ok (.invokestatic 58, 3) := by decide +kernel
theorem dX0_addUp_32 : decode cX0_addUp 32 = .ok (.iconst 0, 1) := by decide +kernel
theorem dX0_addUp_33 : decode cX0_addUp 33 = .ok (.istore_n 2, 1) := by decide +kernel
theorem dX0_addUp_34 : decode cX0_addUp 34 = .ok (.iload_n 2, 1) := by decide +kernel
theorem dX0_addUp_35 : decode cX0_addUp 35 = .ok (.aload_n 1, 1) := by decide +kernel
theorem dX0_addUp_36 : decode cX0_addUp 36 = .ok (.getfield 62, 3) := by decide +kernel
theorem dX0_addUp_39 : decode cX0_addUp 39 = .ok (.if_icmp .ge 105, 3) := by decide +kernel
theorem dX0_addUp_42 : decode cX0_addUp 42 = .ok (.aload_n 1, 1) := by decide +kernel
theorem dX0_addUp_43 : decode cX0_addUp 43 = .ok (.iload_n 2, 1) := by decide +kernel
theorem dX0_addUp_44 : decode cX0_addUp 44 = .ok (.invokevirtual 67, 3) := by decide +kernel
theorem dX0_addUp_47 : decode cX0_addUp 47 = .ok (.istore_n 3, 1) := by decide +kernel
theorem dX0_addUp_48 : decode cX0_addUp 48 = .ok (.aload_n 0, 1) := by decide +kernel
theorem dX0_addUp_49 : decode cX0_addUp 49 = .ok (.getfield 9, 3) := by decide +kernel
theorem dX0_addUp_52 : decode cX0_addUp 52 = .ok (.iload_n 2, 1) := by decide +kernel
theorem dX0_addUp_53 : decode cX0_addUp 53 = .ok (.invokestatic 40, 3) := by decide +kernel
theorem dX0_addUp_56 : decode cX0_addUp 56 = .ok (.istore 4, 2) := by decide +kernel
theorem dX0_addUp_58 : decode cX0_addUp 58 = .ok (.iload_n 3, 1) := by decide +kernel
theorem dX0_addUp_59 : decode cX0_addUp 59 = .ok (.invokestatic 71, 3) := by decide +kernel
theorem dX0_addUp_62 : decode cX0_addUp 62 = .ok (.iload_n 3, 1) := by decide +kernel
theorem dX0_addUp_63 : decode cX0_addUp 63 = .ok (.invokestatic 88, 3) := by decide +kernel
theorem dX0_addUp_66 : decode cX0_addUp 66 = .ok (.invokestatic 102, 3) := by decide +kernel
theorem dX0_addUp_69 : decode cX0_addUp 69 = .ok (.istore 5, 2) := by decide +kernel
theorem dX0_addUp_71 : decode cX0_addUp 71 = .ok (.iload 4, 2) := by decide +kernel
theorem dX0_addUp_73 : decode cX0_addUp 73 = .ok (.iconst (-1), 1) := by decide +kernel
theorem dX0_addUp_74 : decode cX0_addUp 74 = .ok (.if_icmp .eq 9, 3) := by decide +kernel
theorem dX0_addUp_77 : decode cX0_addUp 77 = .ok (.iload 4, 2) := by decide +kernel
theorem dX0_addUp_79 : decode cX0_addUp 79 = .ok (.iload_n 2, 1) := by decide +kernel
theorem dX0_addUp_80 : decode cX0_addUp 80 = .ok (.if_icmp .le 30, 3) := by decide +kernel
theorem dX0_addUp_83 : decode cX0_addUp 83 = .ok (.aload_n 0, 1) := by decide +kernel
theorem dX0_addUp_84 : decode cX0_addUp 84 = .ok (.getfield 18, 3) := by decide +kernel
theorem dX0_addUp_87 : decode cX0_addUp 87 = .ok (.iload 5, 2) := by decide +kernel
theorem dX0_addUp_89 : decode cX0_addUp 89 = .ok (.iconst 1, 1) := by decide +kernel
theorem dX0_addUp_90 : decode cX0_addUp 90 = .ok (.invokestatic 106, 3) := by decide +kernel
theorem dX0_addUp_93 : decode cX0_addUp 93 = .ok (.aload_n 0, 1) := by decide +kernel
theorem dX0_addUp_94 : decode cX0_addUp 94 = .ok (.getfield 24, 3) := by decide +kernel
theorem dX0_addUp_97 : decode cX0_addUp 97 = .ok (.iload 5, 2) := by decide +kernel
theorem dX0_addUp_99 : decode cX0_addUp 99 = .ok (.aload_n 0, 1) := by decide +kernel
theorem dX0_addUp_100 : decode cX0_addUp 100 = .ok (.getfield 15, 3) := by decide +kernel
theorem dX0_addUp_103 : decode cX0_addUp 103 = .ok (.iload_n 2, 1) := by decide +kernel
theorem dX0_addUp_104 : decode cX0_addUp 104 = .ok (.invokestatic 40, 3) := by decide +kernel
theorem dX0_addUp_107 : decode cX0_addUp 107 = .ok (.invokestatic 106, 3) := by decide +kernel
theorem dX0_addUp_110 : decode cX0_addUp 110 = .ok (.iload 4, 2) := by decide +kernel
theorem dX0_addUp_112 : decode cX0_addUp 112 = .ok (.iconst (-1), 1) := by decide +kernel
theorem dX0_addUp_113 : decode cX0_addUp 113 = .ok (.if_icmp .ne 25, 3) := by decide +kernel
theorem dX0_addUp_116 : decode cX0_addUp 116 = .ok (.aload_n 0, 1) := by decide +kernel
theorem dX0_addUp_117 : decode cX0_addUp 117 = .ok (.getfield 21, 3) := by decide +kernel
theorem dX0_addUp_120 : decode cX0_addUp 120 = .ok (.iload 5, 2) := by decide +kernel
theorem dX0_addUp_122 : decode cX0_addUp 122 = .ok (.iconst 1, 1) := by decide +kernel
theorem dX0_addUp_123 : decode cX0_addUp 123 = .ok (.invokestatic 106, 3) := by decide +kernel
theorem dX0_addUp_126 : decode cX0_addUp 126 = .ok (.aload_n 0, 1) := by decide +kernel
theorem dX0_addUp_127 : decode cX0_addUp 127 = .ok (.getfield 27, 3) := by decide +kernel
theorem dX0_addUp_130 : decode cX0_addUp 130 = .ok (.iload_n 3, 1) := by decide +kernel
theorem dX0_addUp_131 : decode cX0_addUp 131 = .ok (.invokestatic 109, 3) := by decide +kernel
theorem dX0_addUp_134 : decode cX0_addUp 134 = .ok (.iconst 1, 1) := by decide +kernel
theorem dX0_addUp_135 : decode cX0_addUp 135 = .ok (.invokestatic 106, 3) := by decide +kernel
theorem dX0_addUp_138 : decode cX0_addUp 138 = .ok (.iinc 2 1, 3) := by decide +kernel
theorem dX0_addUp_141 : decode cX0_addUp 141 = .ok (.goto (-107), 3) := by decide +kernel
theorem dX0_addUp_144 : decode cX0_addUp 144 = .ok (.return_, 1) := by decide +kernel
theorem dX0_dayCost_0 : decode cX0_dayCost 0 = .ok (.aload_n 0, 1) := by decide +kernel
theorem dX0_dayCost_1 : decode cX0_dayCost 1 = .ok (.getfield 24, 3) := by decide +kernel
theorem dX0_dayCost_4 : decode cX0_dayCost 4 = .ok (.iload_n 1, 1) := by decide +kernel
theorem dX0_dayCost_5 : decode cX0_dayCost 5 = .ok (.iload_n 2, 1) := by decide +kernel
theorem dX0_dayCost_6 : decode cX0_dayCost 6 = .ok (.invokestatic 102, 3) := by decide +kernel
theorem dX0_dayCost_9 : decode cX0_dayCost 9 = .ok (.invokestatic 40, 3) := by decide +kernel
theorem dX0_dayCost_12 : decode cX0_dayCost 12 = .ok (.aload_n 0, 1) := by decide +kernel
theorem dX0_dayCost_13 : decode cX0_dayCost 13 = .ok (.getfield 33, 3) := by decide +kernel
theorem dX0_dayCost_16 : decode cX0_dayCost 16 = .ok (.invokestatic 112, 3) := by decide +kernel
theorem dX0_dayCost_19 : decode cX0_dayCost 19 = .ok (.ireturn, 1) := by decide +kernel
theorem dX0_weekDaysCost_0 : decode cX0_weekDaysCost 0 = .ok (.iconst 0, 1) := by decide +kernel
theorem dX0_weekDaysCost_1 : decode cX0_weekDaysCost 1 = .ok (.istore_n 3, 1) := by decide +kernel
theorem dX0_weekDaysCost_2 : decode cX0_weekDaysCost 2 = .ok (.iconst 0, 1) := by decide +kernel
theorem dX0_weekDaysCost_3 : decode cX0_weekDaysCost 3 = .ok (.istore 4, 2) := by decide +kernel
theorem dX0_weekDaysCost_5 : decode cX0_weekDaysCost 5 = .ok (.iload 4, 2) := by decide +kernel
theorem dX0_weekDaysCost_7 : decode cX0_weekDaysCost 7 = .ok (.bipush 7, 2) := by decide +kernel
theorem dX0_weekDaysCost_9 : decode cX0_weekDaysCost 9 = .ok (.if_icmp .ge 24, 3) := by decide +kernel
theorem dX0_weekDaysCost_12 : decode cX0_weekDaysCost 12 = .ok (.iload_n 3, 1) := by decide +kernel
theorem dX0_weekDaysCost_13 : decode cX0_weekDaysCost 13 = .ok (.aload_n 0, 1) := by decide +kernel
theorem dX0_weekDaysCost_14 : decode cX0_weekDaysCost 14 = .ok (.iload_n 1, 1) := by decide +kernel
theorem dX0_weekDaysCost_15 : decode cX0_weekDaysCost 15 = .ok (.iload_n 2, 1) := by decide +kernel
theorem dX0_weekDaysCost_16 : decode cX0_weekDaysCost 16 = .ok (.bipush 7, 2) := by decide +kernel
theorem dX0_weekDaysCost_18 : decode cX0_weekDaysCost 18 = .ok (.imul, 1) := by decide +kernel
theorem dX0_weekDaysCost_19 : decode cX0_weekDaysCost 19 = .ok (.iload 4, 2) := by decide +kernel
theorem dX0_weekDaysCost_21 : decode cX0_weekDaysCost 21 = .ok (.iadd, 1) := by decide +kernel
theorem dX0_weekDaysCost_22 : decode cX0_weekDaysCost 22 = .ok (.invokevirtual 115, 3) := by decide +kernel
theorem dX0_weekDaysCost_25 : decode cX0_weekDaysCost 25 = .ok (.iadd, 1) := by decide +kernel
theorem dX0_weekDaysCost_26 : decode cX0_weekDaysCost 26 = .ok (.istore_n 3, 1) := by decide +kernel
theorem dX0_weekDaysCost_27 : decode cX0_weekDaysCost 27 = .ok (.iinc 4 1, 3) := by decide +kernel
theorem dX0_weekDaysCost_30 : decode cX0_weekDaysCost 30 = .ok (.goto (-25), 3) := by decide +kernel
theorem dX0_weekDaysCost_33 : decode cX0_weekDaysCost 33 = .ok (.iload_n 3, 1) := by decide +kernel
theorem dX0_weekDaysCost_34 : decode cX0_weekDaysCost 34 = .ok (.ireturn, 1) := by decide +kernel
theorem dX0_weekCost_0 : decode cX0_weekCost 0 = .ok (.aload_n 0, 1) := by decide +kernel
theorem dX0_weekCost_1 : decode cX0_weekCost 1 = .ok (.iload_n 1, 1) := by decide +kernel
theorem dX0_weekCost_2 : decode cX0_weekCost 2 = .ok (.iload_n 2, 1) := by decide +kernel
theorem dX0_weekCost_3 : decode cX0_weekCost 3 = .ok (.invokevirtual 118, 3) := by decide +kernel
theorem dX0_weekCost_6 : decode cX0_weekCost 6 = .ok (.aload_n 0, 1) := by decide +kernel
theorem dX0_weekCost_7 : decode cX0_weekCost 7 = .ok (.getfield 37, 3) := by decide +kernel
theorem dX0_weekCost_10 : decode cX0_weekCost 10 = .ok (.invokestatic 112, 3) := by decide +kernel
theorem dX0_weekCost_13 : decode cX0_weekCost 13 = .ok (.ireturn, 1) := by decide +kernel
theorem dX0_weekSum_0 : decode cX0_weekSum 0 = .ok (.iconst 0, 1) := by decide +kernel
theorem dX0_weekSum_1 : decode cX0_weekSum 1 = .ok (.istore_n 3, 1) := by decide +kernel
theorem dX0_weekSum_2 : decode cX0_weekSum 2 = .ok (.iconst 0, 1) := by decide +kernel
theorem dX0_weekSum_3 : decode cX0_weekSum 3 = .ok (.istore 4, 2) := by decide +kernel
theorem dX0_weekSum_5 : decode cX0_weekSum 5 = .ok (.iload 4, 2) := by decide +kernel
theorem dX0_weekSum_7 : decode cX0_weekSum 7 = .ok (.bipush 7, 2) := by decide +kernel
theorem dX0_weekSum_9 : decode cX0_weekSum 9 = .ok (.if_icmp .ge 27, 3) := by decide +kernel
theorem dX0_weekSum_12 : decode cX0_weekSum 12 = .ok (.iload_n 3, 1) := by decide +kernel
theorem dX0_weekSum_13 : decode cX0_weekSum 13 = .ok (.aload_n 0, 1) := by decide +kernel
theorem dX0_weekSum_14 : decode cX0_weekSum 14 = .ok (.iload_n 1, 1) := by decide +kernel
theorem dX0_weekSum_15 : decode cX0_weekSum 15 = .ok (.iload_n 2, 1) := by decide +kernel
theorem dX0_weekSum_16 : decode cX0_weekSum 16 = .ok (.bipush 7, 2) := by decide +kernel
theorem dX0_weekSum_18 : decode cX0_weekSum 18 = .ok (.imul, 1) := by decide +kernel
theorem dX0_weekSum_19 : decode cX0_weekSum 19 = .ok (.iload 4, 2) := by decide +kernel
theorem dX0_weekSum_21 : decode cX0_weekSum 21 = .ok (.iadd, 1) := by decide +kernel
theorem dX0_weekSum_22 : decode cX0_weekSum 22 = .ok (.invokestatic 102, 3) := by decide +kernel
theorem dX0_weekSum_25 : decode cX0_weekSum 25 = .ok (.invokestatic 40, 3) := by decide +kernel
theorem dX0_weekSum_28 : decode cX0_weekSum 28 = .ok (.iadd, 1) := by decide +kernel
theorem dX0_weekSum_29 : decode cX0_weekSum 29 = .ok (.istore_n 3, 1) := by decide +kernel
theorem dX0_weekSum_30 : decode cX0_weekSum 30 = .ok (.iinc 4 1, 3) := by decide +kernel
theorem dX0_weekSum_33 : decode cX0_weekSum 33 = .ok (.goto (-28), 3) := by decide +kernel
theorem dX0_weekSum_36 : decode cX0_weekSum 36 = .ok (.iload_n 3, 1) := by decide +kernel
theorem dX0_weekSum_37 : decode cX0_weekSum 37 = .ok (.ireturn, 1) := by decide +kernel
theorem dX1_at_0 : decode cX1_at 0 = .ok (.iload_n 1, 1) := by decide +kernel
theorem dX1_at_1 : decode cX1_at 1 = .ok (.ifCond .lt 15, 3) := by decide +kernel
theorem dX1_at_4 : decode cX1_at 4 = .ok (.iload_n 1, 1) := by decide +kernel
theorem dX1_at_5 : decode cX1_at 5 = .ok (.aload_n 0, 1) := by decide +kernel
theorem dX1_at_6 : decode cX1_at 6 = .ok (.arraylength, 1) := by decide +kernel
theorem dX1_at_7 : decode cX1_at 7 = .ok (.if_icmp .ge 9, 3) := by decide +kernel
theorem dX1_at_10 : decode cX1_at 10 = .ok (.aload_n 0, 1) := by decide +kernel
theorem dX1_at_11 : decode cX1_at 11 = .ok (.iload_n 1, 1) := by decide +kernel
theorem dX1_at_12 : decode cX1_at 12 = .ok (.iaload, 1) := by decide +kernel
theorem dX1_at_13 : decode cX1_at 13 = .ok (.goto 4, 3) := by decide +kernel
theorem dX1_at_16 : decode cX1_at 16 = .ok (.iconst 0, 1) := by decide +kernel
theorem dX1_at_17 : decode cX1_at 17 = .ok (.ireturn, 1) := by decide +kernel
theorem dX1_put_0 : decode cX1_put 0 = .ok (.iload_n 1, 1) := by decide +kernel
theorem dX1_put_1 : decode cX1_put 1 = .ok (.ifCond .lt 13, 3) := by decide +kernel
theorem dX1_put_4 : decode cX1_put 4 = .ok (.iload_n 1, 1) := by decide +kernel
theorem dX1_put_5 : decode cX1_put 5 = .ok (.aload_n 0, 1) := by decide +kernel
theorem dX1_put_6 : decode cX1_put 6 = .ok (.arraylength, 1) := by decide +kernel
theorem dX1_put_7 : decode cX1_put 7 = .ok (.if_icmp .ge 7, 3) := by decide +kernel
theorem dX1_put_10 : decode cX1_put 10 = .ok (.aload_n 0, 1) := by decide +kernel
theorem dX1_put_11 : decode cX1_put 11 = .ok (.iload_n 1, 1) := by decide +kernel
theorem dX1_put_12 : decode cX1_put 12 = .ok (.iload_n 2, 1) := by decide +kernel
theorem dX1_put_13 : decode cX1_put 13 = .ok (.iastore, 1) := by decide +kernel
theorem dX1_put_14 : decode cX1_put 14 = .ok (.return_, 1) := by decide +kernel
theorem dX1_raise_0 : decode cX1_raise 0 = .ok (.aload_n 0, 1) := by decide +kernel
theorem dX1_raise_1 : decode cX1_raise 1 = .ok (.iload_n 1, 1) := by decide +kernel
theorem dX1_raise_2 : decode cX1_raise 2 = .ok (.aload_n 0, 1) := by decide +kernel
theorem dX1_raise_3 : decode cX1_raise 3 = .ok (.iload_n 1, 1) := by decide +kernel
theorem dX1_raise_4 : decode cX1_raise 4 = .ok (.invokestatic 7, 3) := by decide +kernel
theorem dX1_raise_7 : decode cX1_raise 7 = .ok (.iload_n 2, 1) := by decide +kernel
theorem dX1_raise_8 : decode cX1_raise 8 = .ok (.iadd, 1) := by decide +kernel
theorem dX1_raise_9 : decode cX1_raise 9 = .ok (.invokestatic 13, 3) := by decide +kernel
theorem dX1_raise_12 : decode cX1_raise 12 = .ok (.return_, 1) := by decide +kernel
theorem dX1_fill_0 : decode cX1_fill 0 = .ok (.iconst 0, 1) := by decide +kernel
theorem dX1_fill_1 : decode cX1_fill 1 = .ok (.istore_n 2, 1) := by decide +kernel
theorem dX1_fill_2 : decode cX1_fill 2 = .ok (.iload_n 2, 1) := by decide +kernel
theorem dX1_fill_3 : decode cX1_fill 3 = .ok (.aload_n 0, 1) := by decide +kernel
theorem dX1_fill_4 : decode cX1_fill 4 = .ok (.arraylength, 1) := by decide +kernel
theorem dX1_fill_5 : decode cX1_fill 5 = .ok (.if_icmp .ge 13, 3) := by decide +kernel
theorem dX1_fill_8 : decode cX1_fill 8 = .ok (.aload_n 0, 1) := by decide +kernel
theorem dX1_fill_9 : decode cX1_fill 9 = .ok (.iload_n 2, 1) := by decide +kernel
theorem dX1_fill_10 : decode cX1_fill 10 = .ok (.iload_n 1, 1) := by decide +kernel
theorem dX1_fill_11 : decode cX1_fill 11 = .ok (.iastore, 1) := by decide +kernel
theorem dX1_fill_12 : decode cX1_fill 12 = .ok (.iinc 2 1, 3) := by decide +kernel
theorem dX1_fill_15 : decode cX1_fill 15 = .ok (.goto (-13), 3) := by decide +kernel
theorem dX1_fill_18 : decode cX1_fill 18 = .ok (.return_, 1) := by decide +kernel
theorem dX1_copy_0 : decode cX1_copy 0 = .ok (.iconst 0, 1) := by decide +kernel
theorem dX1_copy_1 : decode cX1_copy 1 = .ok (.istore_n 2, 1) := by decide +kernel
theorem dX1_copy_2 : decode cX1_copy 2 = .ok (.iload_n 2, 1) := by decide +kernel
theorem dX1_copy_3 : decode cX1_copy 3 = .ok (.aload_n 0, 1) := by decide +kernel
theorem dX1_copy_4 : decode cX1_copy 4 = .ok (.arraylength, 1) := by decide +kernel
theorem dX1_copy_5 : decode cX1_copy 5 = .ok (.if_icmp .ge 21, 3) := by decide +kernel
theorem dX1_copy_8 : decode cX1_copy 8 = .ok (.iload_n 2, 1) := by decide +kernel
theorem dX1_copy_9 : decode cX1_copy 9 = .ok (.aload_n 1, 1) := by decide +kernel
theorem dX1_copy_10 : decode cX1_copy 10 = .ok (.arraylength, 1) := by decide +kernel
theorem dX1_copy_11 : decode cX1_copy 11 = .ok (.if_icmp .ge 15, 3) := by decide +kernel
theorem dX1_copy_14 : decode cX1_copy 14 = .ok (.aload_n 1, 1) := by decide +kernel
theorem dX1_copy_15 : decode cX1_copy 15 = .ok (.iload_n 2, 1) := by decide +kernel
theorem dX1_copy_16 : decode cX1_copy 16 = .ok (.aload_n 0, 1) := by decide +kernel
theorem dX1_copy_17 : decode cX1_copy 17 = .ok (.iload_n 2, 1) := by decide +kernel
theorem dX1_copy_18 : decode cX1_copy 18 = .ok (.iaload, 1) := by decide +kernel
theorem dX1_copy_19 : decode cX1_copy 19 = .ok (.iastore, 1) := by decide +kernel
theorem dX1_copy_20 : decode cX1_copy 20 = .ok (.iinc 2 1, 3) := by decide +kernel
theorem dX1_copy_23 : decode cX1_copy 23 = .ok (.goto (-21), 3) := by decide +kernel
theorem dX1_copy_26 : decode cX1_copy 26 = .ok (.return_, 1) := by decide +kernel
theorem dX1_sum_0 : decode cX1_sum 0 = .ok (.iconst 0, 1) := by decide +kernel
theorem dX1_sum_1 : decode cX1_sum 1 = .ok (.istore_n 1, 1) := by decide +kernel
theorem dX1_sum_2 : decode cX1_sum 2 = .ok (.aload_n 0, 1) := by decide +kernel
theorem dX1_sum_3 : decode cX1_sum 3 = .ok (.astore_n 2, 1) := by decide +kernel
theorem dX1_sum_4 : decode cX1_sum 4 = .ok (.aload_n 2, 1) := by decide +kernel
theorem dX1_sum_5 : decode cX1_sum 5 = .ok (.arraylength, 1) := by decide +kernel
theorem dX1_sum_6 : decode cX1_sum 6 = .ok (.istore_n 3, 1) := by decide +kernel
theorem dX1_sum_7 : decode cX1_sum 7 = .ok (.iconst 0, 1) := by decide +kernel
theorem dX1_sum_8 : decode cX1_sum 8 = .ok (.istore 4, 2) := by decide +kernel
theorem dX1_sum_10 : decode cX1_sum 10 = .ok (.iload 4, 2) := by decide +kernel
theorem dX1_sum_12 : decode cX1_sum 12 = .ok (.iload_n 3, 1) := by decide +kernel
theorem dX1_sum_13 : decode cX1_sum 13 = .ok (.if_icmp .ge 20, 3) := by decide +kernel
theorem dX1_sum_16 : decode cX1_sum 16 = .ok (.aload_n 2, 1) := by decide +kernel
theorem dX1_sum_17 : decode cX1_sum 17 = .ok (.iload 4, 2) := by decide +kernel
theorem dX1_sum_19 : decode cX1_sum 19 = .ok (.iaload, 1) := by decide +kernel
theorem dX1_sum_20 : decode cX1_sum 20 = .ok (.istore 5, 2) := by decide +kernel
theorem dX1_sum_22 : decode cX1_sum 22 = .ok (.iload_n 1, 1) := by decide +kernel
theorem dX1_sum_23 : decode cX1_sum 23 = .ok (.iload 5, 2) := by decide +kernel
theorem dX1_sum_25 : decode cX1_sum 25 = .ok (.iadd, 1) := by decide +kernel
theorem dX1_sum_26 : decode cX1_sum 26 = .ok (.istore_n 1, 1) := by decide +kernel
theorem dX1_sum_27 : decode cX1_sum 27 = .ok (.iinc 4 1, 3) := by decide +kernel
theorem dX1_sum_30 : decode cX1_sum 30 = .ok (.goto (-20), 3) := by decide +kernel
theorem dX1_sum_33 : decode cX1_sum 33 = .ok (.iload_n 1, 1) := by decide +kernel
theorem dX1_sum_34 : decode cX1_sum 34 = .ok (.ireturn, 1) := by decide +kernel
theorem dX1_mixedAll_0 : decode cX1_mixedAll 0 = .ok (.lload_n 0, 1) := by decide +kernel
theorem dX1_mixedAll_1 : decode cX1_mixedAll 1 = .ok (.lstore 4, 2) := by decide +kernel
theorem dX1_mixedAll_3 : decode cX1_mixedAll 3 = .ok (.iconst 0, 1) := by decide +kernel
theorem dX1_mixedAll_4 : decode cX1_mixedAll 4 = .ok (.istore 6, 2) := by decide +kernel
theorem dX1_mixedAll_6 : decode cX1_mixedAll 6 = .ok (.iload 6, 2) := by decide +kernel
theorem dX1_mixedAll_8 : decode cX1_mixedAll 8 = .ok (.iload_n 3, 1) := by decide +kernel
theorem dX1_mixedAll_9 : decode cX1_mixedAll 9 = .ok (.if_icmp .ge 28, 3) := by decide +kernel
theorem dX1_mixedAll_12 : decode cX1_mixedAll 12 = .ok (.iload 6, 2) := by decide +kernel
theorem dX1_mixedAll_14 : decode cX1_mixedAll 14 = .ok (.aload_n 2, 1) := by decide +kernel
theorem dX1_mixedAll_15 : decode cX1_mixedAll 15 = .ok (.arraylength, 1) := by decide +kernel
theorem dX1_mixedAll_16 : decode cX1_mixedAll 16 = .ok (.if_icmp .ge 21, 3) := by decide +kernel
theorem dX1_mixedAll_19 : decode cX1_mixedAll 19 = .ok (.lload 4, 2) := by decide +kernel
theorem dX1_mixedAll_21 : decode cX1_mixedAll 21 = .ok (.aload_n 2, 1) := by decide +kernel
theorem dX1_mixedAll_22 : decode cX1_mixedAll 22 = .ok (.iload 6, 2) := by decide +kernel
theorem dX1_mixedAll_24 : decode cX1_mixedAll 24 = .ok (.iaload, 1) := by decide +kernel
theorem dX1_mixedAll_25 : decode cX1_mixedAll 25 = .ok (.i2l, 1) := by decide +kernel
theorem dX1_mixedAll_26 : decode cX1_mixedAll 26 = .ok (.invokestatic 17, 3) := by decide +kernel
theorem dX1_mixedAll_29 : decode cX1_mixedAll 29 = .ok (.lstore 4, 2) := by decide +kernel
theorem dX1_mixedAll_31 : decode cX1_mixedAll 31 = .ok (.iinc 6 1, 3) := by decide +kernel
theorem dX1_mixedAll_34 : decode cX1_mixedAll 34 = .ok (.goto (-28), 3) := by decide +kernel
theorem dX1_mixedAll_37 : decode cX1_mixedAll 37 = .ok (.lload 4, 2) := by decide +kernel
theorem dX1_mixedAll_39 : decode cX1_mixedAll 39 = .ok (.lreturn, 1) := by decide +kernel
theorem dX2_init_0 : decode cX2_init 0 = .ok (.aload_n 0, 1) := by decide +kernel
theorem dX2_init_1 : decode cX2_init 1 = .ok (.invokespecial 3, 3) := by decide +kernel
theorem dX2_init_4 : decode cX2_init 4 = .ok (.aload_n 0, 1) := by decide +kernel
theorem dX2_init_5 : decode cX2_init 5 = .ok (.bipush 6, 2) := by decide +kernel
theorem dX2_init_7 : decode cX2_init 7 = .ok (.anewarray 9, 3) := by decide +kernel
theorem dX2_init_10 : decode cX2_init 10 = .ok (.putfield 11, 3) := by decide +kernel
theorem dX2_init_13 : decode cX2_init 13 = .ok (.iconst 0, 1) := by decide +kernel
theorem dX2_init_14 : decode cX2_init 14 = .ok (.istore_n 1, 1) := by decide +kernel
theorem dX2_init_15 : decode cX2_init 15 = .ok (.iload_n 1, 1) := by decide +kernel
theorem dX2_init_16 : decode cX2_init 16 = .ok (.aload_n 0, 1) := by decide +kernel
theorem dX2_init_17 : decode cX2_init 17 = .ok (.getfield 11, 3) := by decide +kernel
theorem dX2_init_20 : decode cX2_init 20 = .ok (.arraylength, 1) := by decide +kernel
theorem dX2_init_21 : decode cX2_init 21 = .ok (.if_icmp .ge 22, 3) := by decide +kernel
theorem dX2_init_24 : decode cX2_init 24 = .ok (.aload_n 0, 1) := by decide +kernel
theorem dX2_init_25 : decode cX2_init 25 = .ok (.getfield 11, 3) := by decide +kernel
theorem dX2_init_28 : decode cX2_init 28 = .ok (.iload_n 1, 1) := by decide +kernel
theorem dX2_init_29 : decode cX2_init 29 = .ok (.new 9, 3) := by decide +kernel
theorem dX2_init_32 : decode cX2_init 32 = .ok (.dup, 1) := by decide +kernel
theorem dX2_init_33 : decode cX2_init 33 = .ok (.invokespecial 17, 3) := by decide +kernel
theorem dX2_init_36 : decode cX2_init 36 = .ok (.aastore, 1) := by decide +kernel
theorem dX2_init_37 : decode cX2_init 37 = .ok (.iinc 1 1, 3) := by decide +kernel
theorem dX2_init_40 : decode cX2_init 40 = .ok (.goto (-25), 3) := by decide +kernel
theorem dX2_init_43 : decode cX2_init 43 = .ok (.aload_n 0, 1) := by decide +kernel
theorem dX2_init_44 : decode cX2_init 44 = .ok (.iconst 0, 1) := by decide +kernel
theorem dX2_init_45 : decode cX2_init 45 = .ok (.putfield 18, 3) := by decide +kernel
theorem dX2_init_48 : decode cX2_init 48 = .ok (.aload_n 0, 1) := by decide +kernel
theorem dX2_init_49 : decode cX2_init 49 = .ok (.iconst 0, 1) := by decide +kernel
theorem dX2_init_50 : decode cX2_init 50 = .ok (.putfield 22, 3) := by decide +kernel
theorem dX2_init_53 : decode cX2_init 53 = .ok (.return_, 1) := by decide +kernel
theorem dX2_slot_0 : decode cX2_slot 0 = .ok (.iload_n 1, 1) := by decide +kernel
theorem dX2_slot_1 : decode cX2_slot 1 = .ok (.ifCond .lt 21, 3) := by decide +kernel
theorem dX2_slot_4 : decode cX2_slot 4 = .ok (.iload_n 1, 1) := by decide +kernel
theorem dX2_slot_5 : decode cX2_slot 5 = .ok (.aload_n 0, 1) := by decide +kernel
theorem dX2_slot_6 : decode cX2_slot 6 = .ok (.getfield 11, 3) := by decide +kernel
theorem dX2_slot_9 : decode cX2_slot 9 = .ok (.arraylength, 1) := by decide +kernel
theorem dX2_slot_10 : decode cX2_slot 10 = .ok (.if_icmp .ge 12, 3) := by decide +kernel
theorem dX2_slot_13 : decode cX2_slot 13 = .ok (.aload_n 0, 1) := by decide +kernel
theorem dX2_slot_14 : decode cX2_slot 14 = .ok (.getfield 11, 3) := by decide +kernel
theorem dX2_slot_17 : decode cX2_slot 17 = .ok (.iload_n 1, 1) := by decide +kernel
theorem dX2_slot_18 : decode cX2_slot 18 = .ok (.aaload, 1) := by decide +kernel
theorem dX2_slot_19 : decode cX2_slot 19 = .ok (.goto 4, 3) := by decide +kernel
theorem dX2_slot_22 : decode cX2_slot 22 = .ok (.aconst_null, 1) := by decide +kernel
theorem dX2_slot_23 : decode cX2_slot 23 = .ok (.areturn, 1) := by decide +kernel
theorem dX2_push_0 : decode cX2_push 0 = .ok (.aload_n 0, 1) := by decide +kernel
theorem dX2_push_1 : decode cX2_push 1 = .ok (.aload_n 0, 1) := by decide +kernel
theorem dX2_push_2 : decode cX2_push 2 = .ok (.getfield 18, 3) := by decide +kernel
theorem dX2_push_5 : decode cX2_push 5 = .ok (.invokevirtual 25, 3) := by decide +kernel
theorem dX2_push_8 : decode cX2_push 8 = .ok (.astore_n 2, 1) := by decide +kernel
theorem dX2_push_9 : decode cX2_push 9 = .ok (.aload_n 2, 1) := by decide +kernel
theorem dX2_push_10 : decode cX2_push 10 = .ok (.ifnull 8, 3) := by decide +kernel
theorem dX2_push_13 : decode cX2_push 13 = .ok (.aload_n 2, 1) := by decide +kernel
theorem dX2_push_14 : decode cX2_push 14 = .ok (.aload_n 1, 1) := by decide +kernel
theorem dX2_push_15 : decode cX2_push 15 = .ok (.invokevirtual 29, 3) := by decide +kernel
theorem dX2_push_18 : decode cX2_push 18 = .ok (.aload_n 0, 1) := by decide +kernel
theorem dX2_push_19 : decode cX2_push 19 = .ok (.aload_n 0, 1) := by decide +kernel
theorem dX2_push_20 : decode cX2_push 20 = .ok (.getfield 18, 3) := by decide +kernel
theorem dX2_push_23 : decode cX2_push 23 = .ok (.iconst 1, 1) := by decide +kernel
theorem dX2_push_24 : decode cX2_push 24 = .ok (.iadd, 1) := by decide +kernel
theorem dX2_push_25 : decode cX2_push 25 = .ok (.bipush 6, 2) := by decide +kernel
theorem dX2_push_27 : decode cX2_push 27 = .ok (.if_icmp .ge 12, 3) := by decide +kernel
theorem dX2_push_30 : decode cX2_push 30 = .ok (.aload_n 0, 1) := by decide +kernel
theorem dX2_push_31 : decode cX2_push 31 = .ok (.getfield 18, 3) := by decide +kernel
theorem dX2_push_34 : decode cX2_push 34 = .ok (.iconst 1, 1) := by decide +kernel
theorem dX2_push_35 : decode cX2_push 35 = .ok (.iadd, 1) := by decide +kernel
theorem dX2_push_36 : decode cX2_push 36 = .ok (.goto 4, 3) := by decide +kernel
theorem dX2_push_39 : decode cX2_push 39 = .ok (.iconst 0, 1) := by decide +kernel
theorem dX2_push_40 : decode cX2_push 40 = .ok (.putfield 18, 3) := by decide +kernel
theorem dX2_push_43 : decode cX2_push 43 = .ok (.aload_n 0, 1) := by decide +kernel
theorem dX2_push_44 : decode cX2_push 44 = .ok (.aload_n 0, 1) := by decide +kernel
theorem dX2_push_45 : decode cX2_push 45 = .ok (.getfield 22, 3) := by decide +kernel
theorem dX2_push_48 : decode cX2_push 48 = .ok (.iconst 1, 1) := by decide +kernel
theorem dX2_push_49 : decode cX2_push 49 = .ok (.iadd, 1) := by decide +kernel
theorem dX2_push_50 : decode cX2_push 50 = .ok (.bipush 6, 2) := by decide +kernel
theorem dX2_push_52 : decode cX2_push 52 = .ok (.invokestatic 33, 3) := by decide +kernel
theorem dX2_push_55 : decode cX2_push 55 = .ok (.putfield 22, 3) := by decide +kernel
theorem dX2_push_58 : decode cX2_push 58 = .ok (.return_, 1) := by decide +kernel
theorem dX2_popInto_0 : decode cX2_popInto 0 = .ok (.aload_n 0, 1) := by decide +kernel
theorem dX2_popInto_1 : decode cX2_popInto 1 = .ok (.aload_n 0, 1) := by decide +kernel
theorem dX2_popInto_2 : decode cX2_popInto 2 = .ok (.getfield 18, 3) := by decide +kernel
theorem dX2_popInto_5 : decode cX2_popInto 5 = .ok (.ifCond .le 12, 3) := by decide +kernel
theorem dX2_popInto_8 : decode cX2_popInto 8 = .ok (.aload_n 0, 1) := by decide +kernel
theorem dX2_popInto_9 : decode cX2_popInto 9 = .ok (.getfield 18, 3) := by decide +kernel
theorem dX2_popInto_12 : decode cX2_popInto 12 = .ok (.iconst 1, 1) := by decide +kernel
theorem dX2_popInto_13 : decode cX2_popInto 13 = .ok (.isub, 1) := by decide +kernel
theorem dX2_popInto_14 : decode cX2_popInto 14 = .ok (.goto 4, 3) := by decide +kernel
theorem dX2_popInto_17 : decode cX2_popInto 17 = .ok (.iconst 5, 1) := by decide +kernel
theorem dX2_popInto_18 : decode cX2_popInto 18 = .ok (.putfield 18, 3) := by decide +kernel
theorem dX2_popInto_21 : decode cX2_popInto 21 = .ok (.aload_n 0, 1) := by decide +kernel
theorem dX2_popInto_22 : decode cX2_popInto 22 = .ok (.dup, 1) := by decide +kernel
theorem dX2_popInto_23 : decode cX2_popInto 23 = .ok (.getfield 22, 3) := by decide +kernel
theorem dX2_popInto_26 : decode cX2_popInto 26 = .ok (.iconst 1, 1) := by decide +kernel
theorem dX2_popInto_27 : decode cX2_popInto 27 = .ok (.isub, 1) := by decide +kernel
theorem dX2_popInto_28 : decode cX2_popInto 28 = .ok (.putfield 22, 3) := by decide +kernel
theorem dX2_popInto_31 : decode cX2_popInto 31 = .ok (.aload_n 0, 1) := by decide +kernel
theorem dX2_popInto_32 : decode cX2_popInto 32 = .ok (.aload_n 0, 1) := by decide +kernel
theorem dX2_popInto_33 : decode cX2_popInto 33 = .ok (.getfield 18, 3) := by decide +kernel
theorem dX2_popInto_36 : decode cX2_popInto 36 = .ok (.invokevirtual 25, 3) := by decide +kernel
theorem dX2_popInto_39 : decode cX2_popInto 39 = .ok (.astore_n 2, 1) := by decide +kernel
theorem dX2_popInto_40 : decode cX2_popInto 40 = .ok (.aload_n 2, 1) := by decide +kernel
theorem dX2_popInto_41 : decode cX2_popInto 41 = .ok (.ifnull 8, 3) := by decide +kernel
theorem dX2_popInto_44 : decode cX2_popInto 44 = .ok (.aload_n 1, 1) := by decide +kernel
theorem dX2_popInto_45 : decode cX2_popInto 45 = .ok (.aload_n 2, 1) := by decide +kernel
theorem dX2_popInto_46 : decode cX2_popInto 46 = .ok (.invokevirtual 29, 3) := by decide +kernel
theorem dX2_popInto_49 : decode cX2_popInto 49 = .ok (.return_, 1) := by decide +kernel
theorem dX3_init_0 : decode cX3_init 0 = .ok (.aload_n 0, 1) := by decide +kernel
theorem dX3_init_1 : decode cX3_init 1 = .ok (.invokespecial 3, 3) := by decide +kernel
theorem dX3_init_4 : decode cX3_init 4 = .ok (.aload_n 0, 1) := by decide +kernel
theorem dX3_init_5 : decode cX3_init 5 = .ok (.new 9, 3) := by decide +kernel
theorem dX3_init_8 : decode cX3_init 8 = .ok (.dup, 1) := by decide +kernel
theorem dX3_init_9 : decode cX3_init 9 = .ok (.invokespecial 11, 3) := by decide +kernel
theorem dX3_init_12 : decode cX3_init 12 = .ok (.putfield 12, 3) := by decide +kernel
theorem dX3_init_15 : decode cX3_init 15 = .ok (.aload_n 0, 1) := by decide +kernel
theorem dX3_init_16 : decode cX3_init 16 = .ok (.bipush 6, 2) := by decide +kernel
theorem dX3_init_18 : decode cX3_init 18 = .ok (.newarray .int, 2) := by decide +kernel
theorem dX3_init_20 : decode cX3_init 20 = .ok (.putfield 18, 3) := by decide +kernel
theorem dX3_init_23 : decode cX3_init 23 = .ok (.aload_n 0, 1) := by decide +kernel
theorem dX3_init_24 : decode cX3_init 24 = .ok (.bipush 16, 2) := by decide +kernel
theorem dX3_init_26 : decode cX3_init 26 = .ok (.newarray .int, 2) := by decide +kernel
theorem dX3_init_28 : decode cX3_init 28 = .ok (.putfield 22, 3) := by decide +kernel
theorem dX3_init_31 : decode cX3_init 31 = .ok (.aload_n 0, 1) := by decide +kernel
theorem dX3_init_32 : decode cX3_init 32 = .ok (.bipush 16, 2) := by decide +kernel
theorem dX3_init_34 : decode cX3_init 34 = .ok (.newarray .int, 2) := by decide +kernel
theorem dX3_init_36 : decode cX3_init 36 = .ok (.putfield 25, 3) := by decide +kernel
theorem dX3_init_39 : decode cX3_init 39 = .ok (.aload_n 0, 1) := by decide +kernel
theorem dX3_init_40 : decode cX3_init 40 = .ok (.bipush 16, 2) := by decide +kernel
theorem dX3_init_42 : decode cX3_init 42 = .ok (.newarray .int, 2) := by decide +kernel
theorem dX3_init_44 : decode cX3_init 44 = .ok (.putfield 28, 3) := by decide +kernel
theorem dX3_init_47 : decode cX3_init 47 = .ok (.aload_n 0, 1) := by decide +kernel
theorem dX3_init_48 : decode cX3_init 48 = .ok (.bipush 32, 2) := by decide +kernel
theorem dX3_init_50 : decode cX3_init 50 = .ok (.newarray .int, 2) := by decide +kernel
theorem dX3_init_52 : decode cX3_init 52 = .ok (.putfield 31, 3) := by decide +kernel
theorem dX3_init_55 : decode cX3_init 55 = .ok (.aload_n 0, 1) := by decide +kernel
theorem dX3_init_56 : decode cX3_init 56 = .ok (.bipush 32, 2) := by decide +kernel
theorem dX3_init_58 : decode cX3_init 58 = .ok (.newarray .int, 2) := by decide +kernel
theorem dX3_init_60 : decode cX3_init 60 = .ok (.putfield 34, 3) := by decide +kernel
theorem dX3_init_63 : decode cX3_init 63 = .ok (.aload_n 0, 1) := by decide +kernel
theorem dX3_init_64 : decode cX3_init 64 = .ok (.iconst 0, 1) := by decide +kernel
theorem dX3_init_65 : decode cX3_init 65 = .ok (.putfield 37, 3) := by decide +kernel
theorem dX3_init_68 : decode cX3_init 68 = .ok (.aload_n 0, 1) := by decide +kernel
theorem dX3_init_69 : decode cX3_init 69 = .ok (.iconst 0, 1) := by decide +kernel
theorem dX3_init_70 : decode cX3_init 70 = .ok (.putfield 41, 3) := by decide +kernel
theorem dX3_init_73 : decode cX3_init 73 = .ok (.aload_n 0, 1) := by decide +kernel
theorem dX3_init_74 : decode cX3_init 74 = .ok (.iconst 0, 1) := by decide +kernel
theorem dX3_init_75 : decode cX3_init 75 = .ok (.putfield 44, 3) := by decide +kernel
theorem dX3_init_78 : decode cX3_init 78 = .ok (.getstatic 47, 3) := by decide +kernel
theorem dX3_init_81 : decode cX3_init 81 = .ok (.aload_n 0, 1) := by decide +kernel
theorem dX3_init_82 : decode cX3_init 82 = .ok (.getfield 18, 3) := by decide +kernel
theorem dX3_init_85 : decode cX3_init 85 = .ok (.invokestatic 50, 3) := by decide +kernel
theorem dX3_init_88 : decode cX3_init 88 = .ok (.aload_n 0, 1) := by decide +kernel
theorem dX3_init_89 : decode cX3_init 89 = .ok (.getfield 31, 3) := by decide +kernel
theorem dX3_init_92 : decode cX3_init 92 = .ok (.iconst (-1), 1) := by decide +kernel
theorem dX3_init_93 : decode cX3_init 93 = .ok (.invokestatic 56, 3) := by decide +kernel
theorem dX3_init_96 : decode cX3_init 96 = .ok (.aload_n 0, 1) := by decide +kernel
theorem dX3_init_97 : decode cX3_init 97 = .ok (.getfield 34, 3) := by decide +kernel
theorem dX3_init_100 : decode cX3_init 100 = .ok (.iconst (-1), 1) := by decide +kernel
theorem dX3_init_101 : decode cX3_init 101 = .ok (.invokestatic 56, 3) := by decide +kernel
theorem dX3_init_104 : decode cX3_init 104 = .ok (.return_, 1) := by decide +kernel
theorem dX3_copyFrom_0 : decode cX3_copyFrom 0 = .ok (.aload_n 0, 1) := by decide +kernel
theorem dX3_copyFrom_1 : decode cX3_copyFrom 1 = .ok (.getfield 12, 3) := by decide +kernel
theorem dX3_copyFrom_4 : decode cX3_copyFrom 4 = .ok (.aload_n 1, 1) := by decide +kernel
theorem dX3_copyFrom_5 : decode cX3_copyFrom 5 = .ok (.getfield 12, 3) := by decide +kernel
theorem dX3_copyFrom_8 : decode cX3_copyFrom 8 = .ok (.invokevirtual 60, 3) := by decide +kernel
theorem dX3_copyFrom_11 : decode cX3_copyFrom 11 = .ok (.aload_n 1, 1) := by decide +kernel
theorem dX3_copyFrom_12 : decode cX3_copyFrom 12 = .ok (.getfield 18, 3) := by decide +kernel
theorem dX3_copyFrom_15 : decode cX3_copyFrom 15 = .ok (.aload_n 0, 1) := by decide +kernel
theorem dX3_copyFrom_16 : decode cX3_copyFrom 16 = .ok (.getfield 18, 3) := by decide +kernel
theorem dX3_copyFrom_19 : decode cX3_copyFrom 19 = .ok (.invokestatic 50, 3) := by decide +kernel
theorem dX3_copyFrom_22 : decode cX3_copyFrom 22 = .ok (.aload_n 1, 1) := by decide +kernel
theorem dX3_copyFrom_23 : decode cX3_copyFrom 23 = .ok (.getfield 22, 3) := by decide +kernel
theorem dX3_copyFrom_26 : decode cX3_copyFrom 26 = .ok (.aload_n 0, 1) := by decide +kernel
theorem dX3_copyFrom_27 : decode cX3_copyFrom 27 = .ok (.getfield 22, 3) := by decide +kernel
theorem dX3_copyFrom_30 : decode cX3_copyFrom 30 = .ok (.invokestatic 50, 3) := by decide +kernel
theorem dX3_copyFrom_33 : decode cX3_copyFrom 33 = .ok (.aload_n 1, 1) := by decide +kernel
theorem dX3_copyFrom_34 : decode cX3_copyFrom 34 = .ok (.getfield 25, 3) := by decide +kernel
theorem dX3_copyFrom_37 : decode cX3_copyFrom 37 = .ok (.aload_n 0, 1) := by decide +kernel
theorem dX3_copyFrom_38 : decode cX3_copyFrom 38 = .ok (.getfield 25, 3) := by decide +kernel
theorem dX3_copyFrom_41 : decode cX3_copyFrom 41 = .ok (.invokestatic 50, 3) := by decide +kernel
theorem dX3_copyFrom_44 : decode cX3_copyFrom 44 = .ok (.aload_n 1, 1) := by decide +kernel
theorem dX3_copyFrom_45 : decode cX3_copyFrom 45 = .ok (.getfield 28, 3) := by decide +kernel
theorem dX3_copyFrom_48 : decode cX3_copyFrom 48 = .ok (.aload_n 0, 1) := by decide +kernel
theorem dX3_copyFrom_49 : decode cX3_copyFrom 49 = .ok (.getfield 28, 3) := by decide +kernel
theorem dX3_copyFrom_52 : decode cX3_copyFrom 52 = .ok (.invokestatic 50, 3) := by decide +kernel
theorem dX3_copyFrom_55 : decode cX3_copyFrom 55 = .ok (.aload_n 1, 1) := by decide +kernel
theorem dX3_copyFrom_56 : decode cX3_copyFrom 56 = .ok (.getfield 31, 3) := by decide +kernel
theorem dX3_copyFrom_59 : decode cX3_copyFrom 59 = .ok (.aload_n 0, 1) := by decide +kernel
theorem dX3_copyFrom_60 : decode cX3_copyFrom 60 = .ok (.getfield 31, 3) := by decide +kernel
theorem dX3_copyFrom_63 : decode cX3_copyFrom 63 = .ok (.invokestatic 50, 3) := by decide +kernel
theorem dX3_copyFrom_66 : decode cX3_copyFrom 66 = .ok (.aload_n 1, 1) := by decide +kernel
theorem dX3_copyFrom_67 : decode cX3_copyFrom 67 = .ok (.getfield 34, 3) := by decide +kernel
theorem dX3_copyFrom_70 : decode cX3_copyFrom 70 = .ok (.aload_n 0, 1) := by decide +kernel
theorem dX3_copyFrom_71 : decode cX3_copyFrom 71 = .ok (.getfield 34, 3) := by decide +kernel
theorem dX3_copyFrom_74 : decode cX3_copyFrom 74 = .ok (.invokestatic 50, 3) := by decide +kernel
theorem dX3_copyFrom_77 : decode cX3_copyFrom 77 = .ok (.aload_n 0, 1) := by decide +kernel
theorem dX3_copyFrom_78 : decode cX3_copyFrom 78 = .ok (.aload_n 1, 1) := by decide +kernel
theorem dX3_copyFrom_79 : decode cX3_copyFrom 79 = .ok (.getfield 37, 3) := by decide +kernel
theorem dX3_copyFrom_82 : decode cX3_copyFrom 82 = .ok (.putfield 37, 3) := by decide +kernel
theorem dX3_copyFrom_85 : decode cX3_copyFrom 85 = .ok (.aload_n 0, 1) := by decide +kernel
theorem dX3_copyFrom_86 : decode cX3_copyFrom 86 = .ok (.aload_n 1, 1) := by decide +kernel
theorem dX3_copyFrom_87 : decode cX3_copyFrom 87 = .ok (.getfield 41, 3) := by decide +kernel
theorem dX3_copyFrom_90 : decode cX3_copyFrom 90 = .ok (.putfield 41, 3) := by decide +kernel
theorem dX3_copyFrom_93 : decode cX3_copyFrom 93 = .ok (.aload_n 0, 1) := by decide +kernel
theorem dX3_copyFrom_94 : decode cX3_copyFrom 94 = .ok (.aload_n 1, 1) := by decide +kernel
theorem dX3_copyFrom_95 : decode cX3_copyFrom 95 = .ok (.getfield 44, 3) := by decide +kernel
theorem dX3_copyFrom_98 : decode cX3_copyFrom 98 = .ok (.putfield 44, 3) := by decide +kernel
theorem dX3_copyFrom_101 : decode cX3_copyFrom 101 = .ok (.return_, 1) := by decide +kernel
theorem dX3_charge_0 : decode cX3_charge 0 = .ok (.iload_n 1, 1) := by decide +kernel
theorem dX3_charge_1 : decode cX3_charge 1 = .ok (.iload_n 2, 1) := by decide +kernel
theorem dX3_charge_2 : decode cX3_charge 2 = .ok (.invokestatic 64, 3) := by decide +kernel
theorem dX3_charge_5 : decode cX3_charge 5 = .ok (.istore 4, 2) := by decide +kernel
theorem dX3_charge_7 : decode cX3_charge 7 = .ok (.iload_n 3, 1) := by decide +kernel
theorem dX3_charge_8 : decode cX3_charge 8 = .ok (.aload_n 0, 1) := by decide +kernel
theorem dX3_charge_9 : decode cX3_charge 9 = .ok (.getfield 22, 3) := by decide +kernel
theorem dX3_charge_12 : decode cX3_charge 12 = .ok (.iload 4, 2) := by decide +kernel
theorem dX3_charge_14 : decode cX3_charge 14 = .ok (.invokestatic 68, 3) := by decide +kernel
theorem dX3_charge_17 : decode cX3_charge 17 = .ok (.isub, 1) := by decide +kernel
theorem dX3_charge_18 : decode cX3_charge 18 = .ok (.istore 5, 2) := by decide +kernel
theorem dX3_charge_20 : decode cX3_charge 20 = .ok (.aload_n 0, 1) := by decide +kernel
theorem dX3_charge_21 : decode cX3_charge 21 = .ok (.getfield 22, 3) := by decide +kernel
theorem dX3_charge_24 : decode cX3_charge 24 = .ok (.iload 4, 2) := by decide +kernel
theorem dX3_charge_26 : decode cX3_charge 26 = .ok (.iload_n 3, 1) := by decide +kernel
theorem dX3_charge_27 : decode cX3_charge 27 = .ok (.invokestatic 72, 3) := by decide +kernel
theorem dX3_charge_30 : decode cX3_charge 30 = .ok (.aload_n 0, 1) := by decide +kernel
theorem dX3_charge_31 : decode cX3_charge 31 = .ok (.getfield 28, 3) := by decide +kernel
theorem dX3_charge_34 : decode cX3_charge 34 = .ok (.iload 4, 2) := by decide +kernel
theorem dX3_charge_36 : decode cX3_charge 36 = .ok (.iconst 1, 1) := by decide +kernel
theorem dX3_charge_37 : decode cX3_charge 37 = .ok (.invokestatic 76, 3) := by decide +kernel
theorem dX3_charge_40 : decode cX3_charge 40 = .ok (.iload 5, 2) := by decide +kernel
theorem dX3_charge_42 : decode cX3_charge 42 = .ok (.ifCond .ge 24, 3) := by decide +kernel
theorem dX3_charge_45 : decode cX3_charge 45 = .ok (.aload_n 0, 1) := by decide +kernel
theorem dX3_charge_46 : decode cX3_charge 46 = .ok (.dup, 1) := by decide +kernel
theorem dX3_charge_47 : decode cX3_charge 47 = .ok (.getfield 37, 3) := by decide +kernel
theorem dX3_charge_50 : decode cX3_charge 50 = .ok (.iconst 1, 1) := by decide +kernel
theorem dX3_charge_51 : decode cX3_charge 51 = .ok (.iadd, 1) := by decide +kernel
theorem dX3_charge_52 : decode cX3_charge 52 = .ok (.putfield 37, 3) := by decide +kernel
theorem dX3_charge_55 : decode cX3_charge 55 = .ok (.aload_n 0, 1) := by decide +kernel
theorem dX3_charge_56 : decode cX3_charge 56 = .ok (.dup, 1) := by decide +kernel
theorem dX3_charge_57 : decode cX3_charge 57 = .ok (.getfield 41, 3) := by decide +kernel
theorem dX3_charge_60 : decode cX3_charge 60 = .ok (.iload 5, 2) := by decide +kernel
theorem dX3_charge_62 : decode cX3_charge 62 = .ok (.isub, 1) := by decide +kernel
theorem dX3_charge_63 : decode cX3_charge 63 = .ok (.putfield 41, 3) := by decide +kernel
theorem dX3_charge_66 : decode cX3_charge 66 = .ok (.aload_n 0, 1) := by decide +kernel
theorem dX3_charge_67 : decode cX3_charge 67 = .ok (.getfield 31, 3) := by decide +kernel
theorem dX3_charge_70 : decode cX3_charge 70 = .ok (.iload_n 1, 1) := by decide +kernel
theorem dX3_charge_71 : decode cX3_charge 71 = .ok (.iload_n 2, 1) := by decide +kernel
theorem dX3_charge_72 : decode cX3_charge 72 = .ok (.invokestatic 79, 3) := by decide +kernel
theorem dX3_charge_75 : decode cX3_charge 75 = .ok (.aload_n 0, 1) := by decide +kernel
theorem dX3_charge_76 : decode cX3_charge 76 = .ok (.getfield 34, 3) := by decide +kernel
theorem dX3_charge_79 : decode cX3_charge 79 = .ok (.iload_n 1, 1) := by decide +kernel
theorem dX3_charge_80 : decode cX3_charge 80 = .ok (.iload 5, 2) := by decide +kernel
theorem dX3_charge_82 : decode cX3_charge 82 = .ok (.ldc 82, 2) := by decide +kernel
theorem dX3_charge_84 : decode cX3_charge 84 = .ok (.iadd, 1) := by decide +kernel
theorem dX3_charge_85 : decode cX3_charge 85 = .ok (.invokestatic 79, 3) := by decide +kernel
theorem dX3_charge_88 : decode cX3_charge 88 = .ok (.iload 5, 2) := by decide +kernel
theorem dX3_charge_90 : decode cX3_charge 90 = .ok (.ireturn, 1) := by decide +kernel
theorem dX3_enter_0 : decode cX3_enter 0 = .ok (.iload_n 1, 1) := by decide +kernel
theorem dX3_enter_1 : decode cX3_enter 1 = .ok (.bipush 8, 2) := by decide +kernel
theorem dX3_enter_3 : decode cX3_enter 3 = .ok (.imul, 1) := by decide +kernel
theorem dX3_enter_4 : decode cX3_enter 4 = .ok (.istore_n 3, 1) := by decide +kernel
theorem dX3_enter_5 : decode cX3_enter 5 = .ok (.bipush 7, 2) := by decide +kernel
theorem dX3_enter_7 : decode cX3_enter 7 = .ok (.istore 4, 2) := by decide +kernel
theorem dX3_enter_9 : decode cX3_enter 9 = .ok (.iload 4, 2) := by decide +kernel
theorem dX3_enter_11 : decode cX3_enter 11 = .ok (.ifCond .le 27, 3) := by decide +kernel
theorem dX3_enter_14 : decode cX3_enter 14 = .ok (.aload_n 0, 1) := by decide +kernel
theorem dX3_enter_15 : decode cX3_enter 15 = .ok (.iload_n 3, 1) := by decide +kernel
theorem dX3_enter_16 : decode cX3_enter 16 = .ok (.iload 4, 2) := by decide +kernel
theorem dX3_enter_18 : decode cX3_enter 18 = .ok (.iadd, 1) := by decide +kernel
theorem dX3_enter_19 : decode cX3_enter 19 = .ok (.aload_n 0, 1) := by decide +kernel
theorem dX3_enter_20 : decode cX3_enter 20 = .ok (.iload_n 3, 1) := by decide +kernel
theorem dX3_enter_21 : decode cX3_enter 21 = .ok (.iload 4, 2) := by decide +kernel
theorem dX3_enter_23 : decode cX3_enter 23 = .ok (.iadd, 1) := by decide +kernel
theorem dX3_enter_24 : decode cX3_enter 24 = .ok (.iconst 1, 1) := by decide +kernel
theorem dX3_enter_25 : decode cX3_enter 25 = .ok (.isub, 1) := by decide +kernel
end
section
/-! decode rows, printed by program -/
theorem dX4_make_0 : decode cX4_make 0 = .ok (.iload_n 1, 1) := by decide +kernel
theorem dX4_make_1 : decode cX4_make 1 = .ok (.bipush 19, 2) := by decide +kernel
theorem dX4_make_3 : decode cX4_make 3 = .ok (.ishl, 1) := by decide +kernel
theorem dX4_make_4 : decode cX4_make 4 = .ok (.iload_n 2, 1) := by decide +kernel
theorem dX4_make_5 : decode cX4_make 5 = .ok (.bipush 8, 2) := by decide +kernel
theorem dX4_make_7 : decode cX4_make 7 = .ok (.ishl, 1) := by decide +kernel
theorem dX4_make_8 : decode cX4_make 8 = .ok (.ior, 1) := by decide +kernel
theorem dX4_make_9 : decode cX4_make 9 = .ok (.iload_n 0, 1) := by decide +kernel
theorem dX4_make_10 : decode cX4_make 10 = .ok (.bipush 6, 2) := by decide +kernel
theorem dX4_make_12 : decode cX4_make 12 = .ok (.ishl, 1) := by decide +kernel
theorem dX4_make_13 : decode cX4_make 13 = .ok (.ior, 1) := by decide +kernel
theorem dX4_make_14 : decode cX4_make 14 = .ok (.iload_n 3, 1) := by decide +kernel
theorem dX4_make_15 : decode cX4_make 15 = .ok (.iconst 2, 1) := by decide +kernel
theorem dX4_make_16 : decode cX4_make 16 = .ok (.ishl, 1) := by decide +kernel
theorem dX4_make_17 : decode cX4_make 17 = .ok (.ior, 1) := by decide +kernel
theorem dX4_make_18 : decode cX4_make 18 = .ok (.iload 4, 2) := by decide +kernel
theorem dX4_make_20 : decode cX4_make 20 = .ok (.ifCond .eq 7, 3) := by decide +kernel
theorem dX4_make_23 : decode cX4_make 23 = .ok (.iconst 2, 1) := by decide +kernel
theorem dX4_make_24 : decode cX4_make 24 = .ok (.goto 4, 3) := by decide +kernel
theorem dX4_make_27 : decode cX4_make 27 = .ok (.iconst 0, 1) := by decide +kernel
theorem dX4_make_28 : decode cX4_make 28 = .ok (.ior, 1) := by decide +kernel
theorem dX4_make_29 : decode cX4_make 29 = .ok (.ireturn, 1) := by decide +kernel
theorem dX4_missingOf_0 : decode cX4_missingOf 0 = .ok (.iload_n 0, 1) := by decide +kernel
theorem dX4_missingOf_1 : decode cX4_missingOf 1 = .ok (.invokestatic 11, 3) := by decide +kernel
theorem dX4_missingOf_4 : decode cX4_missingOf 4 = .ok (.iload_n 0, 1) := by decide +kernel
theorem dX4_missingOf_5 : decode cX4_missingOf 5 = .ok (.invokestatic 15, 3) := by decide +kernel
theorem dX4_missingOf_8 : decode cX4_missingOf 8 = .ok (.iload_n 1, 1) := by decide +kernel
theorem dX4_missingOf_9 : decode cX4_missingOf 9 = .ok (.iload_n 2, 1) := by decide +kernel
theorem dX4_missingOf_10 : decode cX4_missingOf 10 = .ok (.iload_n 0, 1) := by decide +kernel
theorem dX4_missingOf_11 : decode cX4_missingOf 11 = .ok (.invokestatic 18, 3) := by decide +kernel
theorem dX4_missingOf_14 : decode cX4_missingOf 14 = .ok (.ifCond .ne 7, 3) := by decide +kernel
theorem dX4_missingOf_17 : decode cX4_missingOf 17 = .ok (.iconst 1, 1) := by decide +kernel
theorem dX4_missingOf_18 : decode cX4_missingOf 18 = .ok (.goto 4, 3) := by decide +kernel
theorem dX4_missingOf_21 : decode cX4_missingOf 21 = .ok (.iconst 0, 1) := by decide +kernel
theorem dX4_missingOf_22 : decode cX4_missingOf 22 = .ok (.invokestatic 22, 3) := by decide +kernel
theorem dX4_missingOf_25 : decode cX4_missingOf 25 = .ok (.iconst 1, 1) := by decide +kernel
theorem dX4_missingOf_26 : decode cX4_missingOf 26 = .ok (.ior, 1) := by decide +kernel
theorem dX4_missingOf_27 : decode cX4_missingOf 27 = .ok (.ireturn, 1) := by decide +kernel
theorem dX4_timeOf_0 : decode cX4_timeOf 0 = .ok (.iload_n 0, 1) := by decide +kernel
theorem dX4_timeOf_1 : decode cX4_timeOf 1 = .ok (.bipush 8, 2) := by decide +kernel
theorem dX4_timeOf_3 : decode cX4_timeOf 3 = .ok (.ishr, 1) := by decide +kernel
theorem dX4_timeOf_4 : decode cX4_timeOf 4 = .ok (.ireturn, 1) := by decide +kernel
theorem dX4_dayOf_0 : decode cX4_dayOf 0 = .ok (.iload_n 0, 1) := by decide +kernel
theorem dX4_dayOf_1 : decode cX4_dayOf 1 = .ok (.bipush 19, 2) := by decide +kernel
theorem dX4_dayOf_3 : decode cX4_dayOf 3 = .ok (.ishr, 1) := by decide +kernel
theorem dX4_dayOf_4 : decode cX4_dayOf 4 = .ok (.bipush 31, 2) := by decide +kernel
theorem dX4_dayOf_6 : decode cX4_dayOf 6 = .ok (.iand, 1) := by decide +kernel
theorem dX4_dayOf_7 : decode cX4_dayOf 7 = .ok (.ireturn, 1) := by decide +kernel
theorem dX4_weekOf_0 : decode cX4_weekOf 0 = .ok (.iload_n 0, 1) := by decide +kernel
theorem dX4_weekOf_1 : decode cX4_weekOf 1 = .ok (.invokestatic 15, 3) := by decide +kernel
theorem dX4_weekOf_4 : decode cX4_weekOf 4 = .ok (.bipush 7, 2) := by decide +kernel
theorem dX4_weekOf_6 : decode cX4_weekOf 6 = .ok (.idiv, 1) := by decide +kernel
theorem dX4_weekOf_7 : decode cX4_weekOf 7 = .ok (.ireturn, 1) := by decide +kernel
theorem dX4_minuteOf_0 : decode cX4_minuteOf 0 = .ok (.iload_n 0, 1) := by decide +kernel
theorem dX4_minuteOf_1 : decode cX4_minuteOf 1 = .ok (.bipush 8, 2) := by decide +kernel
theorem dX4_minuteOf_3 : decode cX4_minuteOf 3 = .ok (.ishr, 1) := by decide +kernel
theorem dX4_minuteOf_4 : decode cX4_minuteOf 4 = .ok (.sipush 2047, 3) := by decide +kernel
theorem dX4_minuteOf_7 : decode cX4_minuteOf 7 = .ok (.iand, 1) := by decide +kernel
theorem dX4_minuteOf_8 : decode cX4_minuteOf 8 = .ok (.ireturn, 1) := by decide +kernel
theorem dX4_walletOf_0 : decode cX4_walletOf 0 = .ok (.iload_n 0, 1) := by decide +kernel
theorem dX4_walletOf_1 : decode cX4_walletOf 1 = .ok (.bipush 6, 2) := by decide +kernel
theorem dX4_walletOf_3 : decode cX4_walletOf 3 = .ok (.ishr, 1) := by decide +kernel
theorem dX4_walletOf_4 : decode cX4_walletOf 4 = .ok (.iconst 3, 1) := by decide +kernel
theorem dX4_walletOf_5 : decode cX4_walletOf 5 = .ok (.iand, 1) := by decide +kernel
theorem dX4_walletOf_6 : decode cX4_walletOf 6 = .ok (.ireturn, 1) := by decide +kernel
theorem dX4_stationOf_0 : decode cX4_stationOf 0 = .ok (.iload_n 0, 1) := by decide +kernel
theorem dX4_stationOf_1 : decode cX4_stationOf 1 = .ok (.iconst 2, 1) := by decide +kernel
theorem dX4_stationOf_2 : decode cX4_stationOf 2 = .ok (.ishr, 1) := by decide +kernel
theorem dX4_stationOf_3 : decode cX4_stationOf 3 = .ok (.bipush 15, 2) := by decide +kernel
theorem dX4_stationOf_5 : decode cX4_stationOf 5 = .ok (.iand, 1) := by decide +kernel
theorem dX4_stationOf_6 : decode cX4_stationOf 6 = .ok (.ireturn, 1) := by decide +kernel
theorem dX4_zoneOf_0 : decode cX4_zoneOf 0 = .ok (.iload_n 0, 1) := by decide +kernel
theorem dX4_zoneOf_1 : decode cX4_zoneOf 1 = .ok (.invokestatic 26, 3) := by decide +kernel
theorem dX4_zoneOf_4 : decode cX4_zoneOf 4 = .ok (.iconst 2, 1) := by decide +kernel
theorem dX4_zoneOf_5 : decode cX4_zoneOf 5 = .ok (.idiv, 1) := by decide +kernel
theorem dX4_zoneOf_6 : decode cX4_zoneOf 6 = .ok (.ireturn, 1) := by decide +kernel
theorem dX4_isIn_0 : decode cX4_isIn 0 = .ok (.iload_n 0, 1) := by decide +kernel
theorem dX4_isIn_1 : decode cX4_isIn 1 = .ok (.iconst 2, 1) := by decide +kernel
theorem dX4_isIn_2 : decode cX4_isIn 2 = .ok (.iand, 1) := by decide +kernel
theorem dX4_isIn_3 : decode cX4_isIn 3 = .ok (.ifCond .eq 7, 3) := by decide +kernel
theorem dX4_isIn_6 : decode cX4_isIn 6 = .ok (.iconst 1, 1) := by decide +kernel
theorem dX4_isIn_7 : decode cX4_isIn 7 = .ok (.goto 4, 3) := by decide +kernel
theorem dX4_isIn_10 : decode cX4_isIn 10 = .ok (.iconst 0, 1) := by decide +kernel
theorem dX4_isIn_11 : decode cX4_isIn 11 = .ok (.ireturn, 1) := by decide +kernel
theorem dX4_isClaimed_0 : decode cX4_isClaimed 0 = .ok (.iload_n 0, 1) := by decide +kernel
theorem dX4_isClaimed_1 : decode cX4_isClaimed 1 = .ok (.iconst 1, 1) := by decide +kernel
theorem dX4_isClaimed_2 : decode cX4_isClaimed 2 = .ok (.iand, 1) := by decide +kernel
theorem dX4_isClaimed_3 : decode cX4_isClaimed 3 = .ok (.ifCond .eq 7, 3) := by decide +kernel
theorem dX4_isClaimed_6 : decode cX4_isClaimed 6 = .ok (.iconst 1, 1) := by decide +kernel
theorem dX4_isClaimed_7 : decode cX4_isClaimed 7 = .ok (.goto 4, 3) := by decide +kernel
theorem dX4_isClaimed_10 : decode cX4_isClaimed 10 = .ok (.iconst 0, 1) := by decide +kernel
theorem dX4_isClaimed_11 : decode cX4_isClaimed 11 = .ok (.ireturn, 1) := by decide +kernel
theorem dX5_init_0 : decode cX5_init 0 = .ok (.aload_n 0, 1) := by decide +kernel
theorem dX5_init_1 : decode cX5_init 1 = .ok (.invokespecial 3, 3) := by decide +kernel
theorem dX5_init_4 : decode cX5_init 4 = .ok (.aload_n 0, 1) := by decide +kernel
theorem dX5_init_5 : decode cX5_init 5 = .ok (.bipush 61, 2) := by decide +kernel
theorem dX5_init_7 : decode cX5_init 7 = .ok (.newarray .int, 2) := by decide +kernel
theorem dX5_init_9 : decode cX5_init 9 = .ok (.putfield 9, 3) := by decide +kernel
theorem dX5_init_12 : decode cX5_init 12 = .ok (.aload_n 0, 1) := by decide +kernel
theorem dX5_init_13 : decode cX5_init 13 = .ok (.iconst 0, 1) := by decide +kernel
theorem dX5_init_14 : decode cX5_init 14 = .ok (.putfield 15, 3) := by decide +kernel
theorem dX5_init_17 : decode cX5_init 17 = .ok (.return_, 1) := by decide +kernel
theorem dX5_tapAt_0 : decode cX5_tapAt 0 = .ok (.aload_n 0, 1) := by decide +kernel
theorem dX5_tapAt_1 : decode cX5_tapAt 1 = .ok (.getfield 9, 3) := by decide +kernel
theorem dX5_tapAt_4 : decode cX5_tapAt 4 = .ok (.iload_n 1, 1) := by decide +kernel
theorem dX5_tapAt_5 : decode cX5_tapAt 5 = .ok (.invokestatic 19, 3) := by decide +kernel
theorem dX5_tapAt_8 : decode cX5_tapAt 8 = .ok (.ireturn, 1) := by decide +kernel
theorem dX5_insert_0 : decode cX5_insert 0 = .ok (.aload_n 0, 1) := by decide +kernel
theorem dX5_insert_1 : decode cX5_insert 1 = .ok (.getfield 15, 3) := by decide +kernel
theorem dX5_insert_4 : decode cX5_insert 4 = .ok (.aload_n 0, 1) := by decide +kernel
theorem dX5_insert_5 : decode cX5_insert 5 = .ok (.getfield 9, 3) := by decide +kernel
theorem dX5_insert_8 : decode cX5_insert 8 = .ok (.arraylength, 1) := by decide +kernel
theorem dX5_insert_9 : decode cX5_insert 9 = .ok (.if_icmp .lt 5, 3) := by decide +kernel
theorem dX5_insert_12 : decode cX5_insert 12 = .ok (.iconst (-1), 1) := by decide +kernel
theorem dX5_insert_13 : decode cX5_insert 13 = .ok (.ireturn, 1) := by decide +kernel
theorem dX5_insert_14 : decode cX5_insert 14 = .ok (.aload_n 0, 1) := by decide +kernel
theorem dX5_insert_15 : decode cX5_insert 15 = .ok (.getfield 15, 3) := by decide +kernel
theorem dX5_insert_18 : decode cX5_insert 18 = .ok (.istore_n 2, 1) := by decide +kernel
theorem dX5_insert_19 : decode cX5_insert 19 = .ok (.iload_n 2, 1) := by decide +kernel
theorem dX5_insert_20 : decode cX5_insert 20 = .ok (.ifCond .le 41, 3) := by decide +kernel
theorem dX5_insert_23 : decode cX5_insert 23 = .ok (.aload_n 0, 1) := by decide +kernel
theorem dX5_insert_24 : decode cX5_insert 24 = .ok (.iload_n 2, 1) := by decide +kernel
theorem dX5_insert_25 : decode cX5_insert 25 = .ok (.iconst 1, 1) := by decide +kernel
theorem dX5_insert_26 : decode cX5_insert 26 = .ok (.isub, 1) := by decide +kernel
theorem dX5_insert_27 : decode cX5_insert 27 = .ok (.invokevirtual 25, 3) := by decide +kernel
theorem dX5_insert_30 : decode cX5_insert 30 = .ok (.invokestatic 29, 3) := by decide +kernel
theorem dX5_insert_33 : decode cX5_insert 33 = .ok (.iload_n 1, 1) := by decide +kernel
theorem dX5_insert_34 : decode cX5_insert 34 = .ok (.invokestatic 29, 3) := by decide +kernel
theorem dX5_insert_37 : decode cX5_insert 37 = .ok (.if_icmp .le 24, 3) := by decide +kernel
theorem dX5_insert_40 : decode cX5_insert 40 = .ok (.aload_n 0, 1) := by decide +kernel
theorem dX5_insert_41 : decode cX5_insert 41 = .ok (.getfield 9, 3) := by decide +kernel
theorem dX5_insert_44 : decode cX5_insert 44 = .ok (.iload_n 2, 1) := by decide +kernel
theorem dX5_insert_45 : decode cX5_insert 45 = .ok (.aload_n 0, 1) := by decide +kernel
theorem dX5_insert_46 : decode cX5_insert 46 = .ok (.iload_n 2, 1) := by decide +kernel
theorem dX5_insert_47 : decode cX5_insert 47 = .ok (.iconst 1, 1) := by decide +kernel
theorem dX5_insert_48 : decode cX5_insert 48 = .ok (.isub, 1) := by decide +kernel
theorem dX5_insert_49 : decode cX5_insert 49 = .ok (.invokevirtual 25, 3) := by decide +kernel
theorem dX5_insert_52 : decode cX5_insert 52 = .ok (.invokestatic 34, 3) := by decide +kernel
theorem dX5_insert_55 : decode cX5_insert 55 = .ok (.iinc 2 (-1), 3) := by decide +kernel
theorem dX5_insert_58 : decode cX5_insert 58 = .ok (.goto (-39), 3) := by decide +kernel
theorem dX5_insert_61 : decode cX5_insert 61 = .ok (.aload_n 0, 1) := by decide +kernel
theorem dX5_insert_62 : decode cX5_insert 62 = .ok (.getfield 9, 3) := by decide +kernel
theorem dX5_insert_65 : decode cX5_insert 65 = .ok (.iload_n 2, 1) := by decide +kernel
theorem dX5_insert_66 : decode cX5_insert 66 = .ok (.iload_n 1, 1) := by decide +kernel
theorem dX5_insert_67 : decode cX5_insert 67 = .ok (.invokestatic 34, 3) := by decide +kernel
theorem dX5_insert_70 : decode cX5_insert 70 = .ok (.aload_n 0, 1) := by decide +kernel
theorem dX5_insert_71 : decode cX5_insert 71 = .ok (.dup, 1) := by decide +kernel
theorem dX5_insert_72 : decode cX5_insert 72 = .ok (.getfield 15, 3) := by decide +kernel
theorem dX5_insert_75 : decode cX5_insert 75 = .ok (.iconst 1, 1) := by decide +kernel
theorem dX5_insert_76 : decode cX5_insert 76 = .ok (.iadd, 1) := by decide +kernel
theorem dX5_insert_77 : decode cX5_insert 77 = .ok (.putfield 15, 3) := by decide +kernel
theorem dX5_insert_80 : decode cX5_insert 80 = .ok (.iload_n 2, 1) := by decide +kernel
theorem dX5_insert_81 : decode cX5_insert 81 = .ok (.ireturn, 1) := by decide +kernel
theorem dX5_takeAway_0 : decode cX5_takeAway 0 = .ok (.iload_n 1, 1) := by decide +kernel
theorem dX5_takeAway_1 : decode cX5_takeAway 1 = .ok (.istore_n 2, 1) := by decide +kernel
theorem dX5_takeAway_2 : decode cX5_takeAway 2 = .ok (.iload_n 2, 1) := by decide +kernel
theorem dX5_takeAway_3 : decode cX5_takeAway 3 = .ok (.iconst 1, 1) := by decide +kernel
theorem dX5_takeAway_4 : decode cX5_takeAway 4 = .ok (.iadd, 1) := by decide +kernel
theorem dX5_takeAway_5 : decode cX5_takeAway 5 = .ok (.aload_n 0, 1) := by decide +kernel
theorem dX5_takeAway_6 : decode cX5_takeAway 6 = .ok (.getfield 15, 3) := by decide +kernel
theorem dX5_takeAway_9 : decode cX5_takeAway 9 = .ok (.if_icmp .ge 24, 3) := by decide +kernel
theorem dX5_takeAway_12 : decode cX5_takeAway 12 = .ok (.aload_n 0, 1) := by decide +kernel
theorem dX5_takeAway_13 : decode cX5_takeAway 13 = .ok (.getfield 9, 3) := by decide +kernel
theorem dX5_takeAway_16 : decode cX5_takeAway 16 = .ok (.iload_n 2, 1) := by decide +kernel
theorem dX5_takeAway_17 : decode cX5_takeAway 17 = .ok (.aload_n 0, 1) := by decide +kernel
theorem dX5_takeAway_18 : decode cX5_takeAway 18 = .ok (.iload_n 2, 1) := by decide +kernel
theorem dX5_takeAway_19 : decode cX5_takeAway 19 = .ok (.iconst 1, 1) := by decide +kernel
theorem dX5_takeAway_20 : decode cX5_takeAway 20 = .ok (.iadd, 1) := by decide +kernel
theorem dX5_takeAway_21 : decode cX5_takeAway 21 = .ok (.invokevirtual 25, 3) := by decide +kernel
theorem dX5_takeAway_24 : decode cX5_takeAway 24 = .ok (.invokestatic 34, 3) := by decide +kernel
theorem dX5_takeAway_27 : decode cX5_takeAway 27 = .ok (.iinc 2 1, 3) := by decide +kernel
theorem dX5_takeAway_30 : decode cX5_takeAway 30 = .ok (.goto (-28), 3) := by decide +kernel
theorem dX5_takeAway_33 : decode cX5_takeAway 33 = .ok (.aload_n 0, 1) := by decide +kernel
theorem dX5_takeAway_34 : decode cX5_takeAway 34 = .ok (.dup, 1) := by decide +kernel
theorem dX5_takeAway_35 : decode cX5_takeAway 35 = .ok (.getfield 15, 3) := by decide +kernel
theorem dX5_takeAway_38 : decode cX5_takeAway 38 = .ok (.iconst 1, 1) := by decide +kernel
theorem dX5_takeAway_39 : decode cX5_takeAway 39 = .ok (.isub, 1) := by decide +kernel
theorem dX5_takeAway_40 : decode cX5_takeAway 40 = .ok (.putfield 15, 3) := by decide +kernel
theorem dX5_takeAway_43 : decode cX5_takeAway 43 = .ok (.return_, 1) := by decide +kernel
theorem dX5_copyFrom_0 : decode cX5_copyFrom 0 = .ok (.aload_n 1, 1) := by decide +kernel
theorem dX5_copyFrom_1 : decode cX5_copyFrom 1 = .ok (.getfield 9, 3) := by decide +kernel
theorem dX5_copyFrom_4 : decode cX5_copyFrom 4 = .ok (.aload_n 0, 1) := by decide +kernel
theorem dX5_copyFrom_5 : decode cX5_copyFrom 5 = .ok (.getfield 9, 3) := by decide +kernel
theorem dX5_copyFrom_8 : decode cX5_copyFrom 8 = .ok (.invokestatic 38, 3) := by decide +kernel
theorem dX5_copyFrom_11 : decode cX5_copyFrom 11 = .ok (.aload_n 0, 1) := by decide +kernel
theorem dX5_copyFrom_12 : decode cX5_copyFrom 12 = .ok (.aload_n 1, 1) := by decide +kernel
theorem dX5_copyFrom_13 : decode cX5_copyFrom 13 = .ok (.getfield 15, 3) := by decide +kernel
theorem dX5_copyFrom_16 : decode cX5_copyFrom 16 = .ok (.putfield 15, 3) := by decide +kernel
theorem dX5_copyFrom_19 : decode cX5_copyFrom 19 = .ok (.return_, 1) := by decide +kernel
theorem dX6_init_0 : decode cX6_init 0 = .ok (.aload_n 0, 1) := by decide +kernel
theorem dX6_init_1 : decode cX6_init 1 = .ok (.invokespecial 3, 3) := by decide +kernel
theorem dX6_init_4 : decode cX6_init 4 = .ok (.aload_n 0, 1) := by decide +kernel
theorem dX6_init_5 : decode cX6_init 5 = .ok (.bipush 10, 2) := by decide +kernel
theorem dX6_init_7 : decode cX6_init 7 = .ok (.newarray .int, 2) := by decide +kernel
theorem dX6_init_9 : decode cX6_init 9 = .ok (.putfield 11, 3) := by decide +kernel
theorem dX6_init_12 : decode cX6_init 12 = .ok (.aload_n 0, 1) := by decide +kernel
theorem dX6_init_13 : decode cX6_init 13 = .ok (.iconst 0, 1) := by decide +kernel
theorem dX6_init_14 : decode cX6_init 14 = .ok (.putfield 15, 3) := by decide +kernel
theorem dX6_init_17 : decode cX6_init 17 = .ok (.aload_n 0, 1) := by decide +kernel
theorem dX6_init_18 : decode cX6_init 18 = .ok (.iconst 0, 1) := by decide +kernel
theorem dX6_init_19 : decode cX6_init 19 = .ok (.putfield 19, 3) := by decide +kernel
theorem dX6_init_22 : decode cX6_init 22 = .ok (.aload_n 0, 1) := by decide +kernel
theorem dX6_init_23 : decode cX6_init 23 = .ok (.iconst 0, 1) := by decide +kernel
theorem dX6_init_24 : decode cX6_init 24 = .ok (.putfield 22, 3) := by decide +kernel
theorem dX6_init_27 : decode cX6_init 27 = .ok (.aload_n 0, 1) := by decide +kernel
theorem dX6_init_28 : decode cX6_init 28 = .ok (.iconst 0, 1) := by decide +kernel
theorem dX6_init_29 : decode cX6_init 29 = .ok (.putfield 25, 3) := by decide +kernel
theorem dX6_init_32 : decode cX6_init 32 = .ok (.aload_n 0, 1) := by decide +kernel
theorem dX6_init_33 : decode cX6_init 33 = .ok (.iconst 0, 1) := by decide +kernel
theorem dX6_init_34 : decode cX6_init 34 = .ok (.putfield 28, 3) := by decide +kernel
theorem dX6_init_37 : decode cX6_init 37 = .ok (.aload_n 0, 1) := by decide +kernel
theorem dX6_init_38 : decode cX6_init 38 = .ok (.iconst 0, 1) := by decide +kernel
theorem dX6_init_39 : decode cX6_init 39 = .ok (.putfield 31, 3) := by decide +kernel
theorem dX6_init_42 : decode cX6_init 42 = .ok (.aload_n 0, 1) := by decide +kernel
theorem dX6_init_43 : decode cX6_init 43 = .ok (.iconst 0, 1) := by decide +kernel
theorem dX6_init_44 : decode cX6_init 44 = .ok (.putfield 34, 3) := by decide +kernel
theorem dX6_init_47 : decode cX6_init 47 = .ok (.return_, 1) := by decide +kernel
theorem dX6_readUpTo_0 : decode cX6_readUpTo 0 = .ok (.aload_n 0, 1) := by decide +kernel
theorem dX6_readUpTo_1 : decode cX6_readUpTo 1 = .ok (.iconst 0, 1) := by decide +kernel
theorem dX6_readUpTo_2 : decode cX6_readUpTo 2 = .ok (.putfield 15, 3) := by decide +kernel
theorem dX6_readUpTo_5 : decode cX6_readUpTo 5 = .ok (.aload_n 0, 1) := by decide +kernel
theorem dX6_readUpTo_6 : decode cX6_readUpTo 6 = .ok (.iconst 0, 1) := by decide +kernel
theorem dX6_readUpTo_7 : decode cX6_readUpTo 7 = .ok (.putfield 19, 3) := by decide +kernel
theorem dX6_readUpTo_10 : decode cX6_readUpTo 10 = .ok (.iconst 0, 1) := by decide +kernel
theorem dX6_readUpTo_11 : decode cX6_readUpTo 11 = .ok (.istore_n 3, 1) := by decide +kernel
theorem dX6_readUpTo_12 : decode cX6_readUpTo 12 = .ok (.iload_n 3, 1) := by decide +kernel
theorem dX6_readUpTo_13 : decode cX6_readUpTo 13 = .ok (.iload_n 2, 1) := by decide +kernel
theorem dX6_readUpTo_14 : decode cX6_readUpTo 14 = .ok (.if_icmp .ge 23, 3) := by decide +kernel
theorem dX6_readUpTo_17 : decode cX6_readUpTo 17 = .ok (.aload_n 0, 1) := by decide +kernel
theorem dX6_readUpTo_18 : decode cX6_readUpTo 18 = .ok (.aload_n 1, 1) := by decide +kernel
theorem dX6_readUpTo_19 : decode cX6_readUpTo 19 = .ok (.iload_n 3, 1) := by decide +kernel
theorem dX6_readUpTo_20 : decode cX6_readUpTo 20 = .ok (.invokestatic 38, 3) := by decide +kernel
theorem dX6_readUpTo_23 : decode cX6_readUpTo 23 = .ok (.invokevirtual 44, 3) := by decide +kernel
theorem dX6_readUpTo_26 : decode cX6_readUpTo 26 = .ok (.ifCond .ne 5, 3) := by decide +kernel
theorem dX6_readUpTo_29 : decode cX6_readUpTo 29 = .ok (.iload_n 3, 1) := by decide +kernel
theorem dX6_readUpTo_30 : decode cX6_readUpTo 30 = .ok (.ireturn, 1) := by decide +kernel
theorem dX6_readUpTo_31 : decode cX6_readUpTo 31 = .ok (.iinc 3 1, 3) := by decide +kernel
theorem dX6_readUpTo_34 : decode cX6_readUpTo 34 = .ok (.goto (-22), 3) := by decide +kernel
theorem dX6_readUpTo_37 : decode cX6_readUpTo 37 = .ok (.iload_n 2, 1) := by decide +kernel
theorem dX6_readUpTo_38 : decode cX6_readUpTo 38 = .ok (.ireturn, 1) := by decide +kernel
theorem dX6_isWhole_0 : decode cX6_isWhole 0 = .ok (.aload_n 0, 1) := by decide +kernel
theorem dX6_isWhole_1 : decode cX6_isWhole 1 = .ok (.getfield 19, 3) := by decide +kernel
theorem dX6_isWhole_4 : decode cX6_isWhole 4 = .ok (.bipush 7, 2) := by decide +kernel
theorem dX6_isWhole_6 : decode cX6_isWhole 6 = .ok (.if_icmp .ne 7, 3) := by decide +kernel
theorem dX6_isWhole_9 : decode cX6_isWhole 9 = .ok (.iconst 1, 1) := by decide +kernel
theorem dX6_isWhole_10 : decode cX6_isWhole 10 = .ok (.goto 4, 3) := by decide +kernel
theorem dX6_isWhole_13 : decode cX6_isWhole 13 = .ok (.iconst 0, 1) := by decide +kernel
theorem dX6_isWhole_14 : decode cX6_isWhole 14 = .ok (.ireturn, 1) := by decide +kernel
theorem dX6_takes_0 : decode cX6_takes 0 = .ok (.aload_n 0, 1) := by decide +kernel
theorem dX6_takes_1 : decode cX6_takes 1 = .ok (.getfield 19, 3) := by decide +kernel
theorem dX6_takes_4 : decode cX6_takes 4 = .ok (.tableswitch 192 0 6 #[44, 66, 83, 90, 121, 128, 183], 44) := by decide +kernel
theorem dX6_takes_48 : decode cX6_takes 48 = .ok (.aload_n 0, 1) := by decide +kernel
theorem dX6_takes_49 : decode cX6_takes 49 = .ok (.iload_n 1, 1) := by decide +kernel
theorem dX6_takes_50 : decode cX6_takes 50 = .ok (.bipush 48, 2) := by decide +kernel
theorem dX6_takes_52 : decode cX6_takes 52 = .ok (.isub, 1) := by decide +kernel
theorem dX6_takes_53 : decode cX6_takes 53 = .ok (.putfield 25, 3) := by decide +kernel
theorem dX6_takes_56 : decode cX6_takes 56 = .ok (.aload_n 0, 1) := by decide +kernel
theorem dX6_takes_57 : decode cX6_takes 57 = .ok (.aload_n 0, 1) := by decide +kernel
theorem dX6_takes_58 : decode cX6_takes 58 = .ok (.getfield 25, 3) := by decide +kernel
theorem dX6_takes_61 : decode cX6_takes 61 = .ok (.iconst 4, 1) := by decide +kernel
theorem dX6_takes_62 : decode cX6_takes 62 = .ok (.invokestatic 48, 3) := by decide +kernel
theorem dX6_takes_65 : decode cX6_takes 65 = .ok (.iconst 1, 1) := by decide +kernel
theorem dX6_takes_66 : decode cX6_takes 66 = .ok (.invokevirtual 52, 3) := by decide +kernel
theorem dX6_takes_69 : decode cX6_takes 69 = .ok (.ireturn, 1) := by decide +kernel
theorem dX6_takes_70 : decode cX6_takes 70 = .ok (.aload_n 0, 1) := by decide +kernel
theorem dX6_takes_71 : decode cX6_takes 71 = .ok (.iload_n 1, 1) := by decide +kernel
theorem dX6_takes_72 : decode cX6_takes 72 = .ok (.bipush 100, 2) := by decide +kernel
theorem dX6_takes_74 : decode cX6_takes 74 = .ok (.if_icmp .ne 7, 3) := by decide +kernel
theorem dX6_takes_77 : decode cX6_takes 77 = .ok (.iconst 1, 1) := by decide +kernel
theorem dX6_takes_78 : decode cX6_takes 78 = .ok (.goto 4, 3) := by decide +kernel
theorem dX6_takes_81 : decode cX6_takes 81 = .ok (.iconst 0, 1) := by decide +kernel
theorem dX6_takes_82 : decode cX6_takes 82 = .ok (.iconst 2, 1) := by decide +kernel
theorem dX6_takes_83 : decode cX6_takes 83 = .ok (.invokevirtual 52, 3) := by decide +kernel
theorem dX6_takes_86 : decode cX6_takes 86 = .ok (.ireturn, 1) := by decide +kernel
theorem dX6_takes_87 : decode cX6_takes 87 = .ok (.aload_n 0, 1) := by decide +kernel
theorem dX6_takes_88 : decode cX6_takes 88 = .ok (.iload_n 1, 1) := by decide +kernel
theorem dX6_takes_89 : decode cX6_takes 89 = .ok (.iconst 3, 1) := by decide +kernel
theorem dX6_takes_90 : decode cX6_takes 90 = .ok (.invokevirtual 56, 3) := by decide +kernel
theorem dX6_takes_93 : decode cX6_takes 93 = .ok (.ireturn, 1) := by decide +kernel
theorem dX6_takes_94 : decode cX6_takes 94 = .ok (.aload_n 0, 1) := by decide +kernel
theorem dX6_takes_95 : decode cX6_takes 95 = .ok (.aload_n 0, 1) := by decide +kernel
theorem dX6_takes_96 : decode cX6_takes 96 = .ok (.getfield 22, 3) := by decide +kernel
theorem dX6_takes_99 : decode cX6_takes 99 = .ok (.putfield 28, 3) := by decide +kernel
theorem dX6_takes_102 : decode cX6_takes 102 = .ok (.iload_n 1, 1) := by decide +kernel
theorem dX6_takes_103 : decode cX6_takes 103 = .ok (.bipush 58, 2) := by decide +kernel
theorem dX6_takes_105 : decode cX6_takes 105 = .ok (.if_icmp .ne 12, 3) := by decide +kernel
theorem dX6_takes_108 : decode cX6_takes 108 = .ok (.aload_n 0, 1) := by decide +kernel
theorem dX6_takes_109 : decode cX6_takes 109 = .ok (.iconst 1, 1) := by decide +kernel
theorem dX6_takes_110 : decode cX6_takes 110 = .ok (.iconst 4, 1) := by decide +kernel
theorem dX6_takes_111 : decode cX6_takes 111 = .ok (.invokevirtual 52, 3) := by decide +kernel
theorem dX6_takes_114 : decode cX6_takes 114 = .ok (.goto 10, 3) := by decide +kernel
theorem dX6_takes_117 : decode cX6_takes 117 = .ok (.aload_n 0, 1) := by decide +kernel
theorem dX6_takes_118 : decode cX6_takes 118 = .ok (.iload_n 1, 1) := by decide +kernel
theorem dX6_takes_119 : decode cX6_takes 119 = .ok (.bipush 28, 2) := by decide +kernel
theorem dX6_takes_121 : decode cX6_takes 121 = .ok (.invokevirtual 59, 3) := by decide +kernel
theorem dX6_takes_124 : decode cX6_takes 124 = .ok (.ireturn, 1) := by decide +kernel
theorem dX6_takes_125 : decode cX6_takes 125 = .ok (.aload_n 0, 1) := by decide +kernel
theorem dX6_takes_126 : decode cX6_takes 126 = .ok (.iload_n 1, 1) := by decide +kernel
theorem dX6_takes_127 : decode cX6_takes 127 = .ok (.iconst 5, 1) := by decide +kernel
theorem dX6_takes_128 : decode cX6_takes 128 = .ok (.invokevirtual 56, 3) := by decide +kernel
theorem dX6_takes_131 : decode cX6_takes 131 = .ok (.ireturn, 1) := by decide +kernel
theorem dX6_takes_132 : decode cX6_takes 132 = .ok (.aload_n 0, 1) := by decide +kernel
theorem dX6_takes_133 : decode cX6_takes 133 = .ok (.aload_n 0, 1) := by decide +kernel
theorem dX6_takes_134 : decode cX6_takes 134 = .ok (.getfield 22, 3) := by decide +kernel
theorem dX6_takes_137 : decode cX6_takes 137 = .ok (.putfield 31, 3) := by decide +kernel
theorem dX6_takes_140 : decode cX6_takes 140 = .ok (.aload_n 0, 1) := by decide +kernel
theorem dX6_takes_141 : decode cX6_takes 141 = .ok (.iload_n 1, 1) := by decide +kernel
theorem dX6_takes_142 : decode cX6_takes 142 = .ok (.bipush 43, 2) := by decide +kernel
theorem dX6_takes_144 : decode cX6_takes 144 = .ok (.if_icmp .ne 7, 3) := by decide +kernel
theorem dX6_takes_147 : decode cX6_takes 147 = .ok (.iconst 1, 1) := by decide +kernel
theorem dX6_takes_148 : decode cX6_takes 148 = .ok (.goto 4, 3) := by decide +kernel
theorem dX6_takes_151 : decode cX6_takes 151 = .ok (.iconst 0, 1) := by decide +kernel
theorem dX6_takes_152 : decode cX6_takes 152 = .ok (.putfield 34, 3) := by decide +kernel
theorem dX6_takes_155 : decode cX6_takes 155 = .ok (.aload_n 0, 1) := by decide +kernel
theorem dX6_takes_156 : decode cX6_takes 156 = .ok (.getfield 34, 3) := by decide +kernel
theorem dX6_takes_159 : decode cX6_takes 159 = .ok (.ifCond .ne 9, 3) := by decide +kernel
theorem dX6_takes_162 : decode cX6_takes 162 = .ok (.iload_n 1, 1) := by decide +kernel
theorem dX6_takes_163 : decode cX6_takes 163 = .ok (.bipush 45, 2) := by decide +kernel
theorem dX6_takes_165 : decode cX6_takes 165 = .ok (.if_icmp .ne 13, 3) := by decide +kernel
theorem dX6_takes_168 : decode cX6_takes 168 = .ok (.aload_n 0, 1) := by decide +kernel
theorem dX6_takes_169 : decode cX6_takes 169 = .ok (.iconst 1, 1) := by decide +kernel
theorem dX6_takes_170 : decode cX6_takes 170 = .ok (.bipush 6, 2) := by decide +kernel
theorem dX6_takes_172 : decode cX6_takes 172 = .ok (.invokevirtual 52, 3) := by decide +kernel
theorem dX6_takes_175 : decode cX6_takes 175 = .ok (.goto 11, 3) := by decide +kernel
theorem dX6_takes_178 : decode cX6_takes 178 = .ok (.aload_n 0, 1) := by decide +kernel
theorem dX6_takes_179 : decode cX6_takes 179 = .ok (.iload_n 1, 1) := by decide +kernel
theorem dX6_takes_180 : decode cX6_takes 180 = .ok (.sipush 1440, 3) := by decide +kernel
theorem dX6_takes_183 : decode cX6_takes 183 = .ok (.invokevirtual 59, 3) := by decide +kernel
theorem dX6_takes_186 : decode cX6_takes 186 = .ok (.ireturn, 1) := by decide +kernel
theorem dX6_takes_187 : decode cX6_takes 187 = .ok (.aload_n 0, 1) := by decide +kernel
theorem dX6_takes_188 : decode cX6_takes 188 = .ok (.iload_n 1, 1) := by decide +kernel
theorem dX6_takes_189 : decode cX6_takes 189 = .ok (.bipush 48, 2) := by decide +kernel
theorem dX6_takes_191 : decode cX6_takes 191 = .ok (.isub, 1) := by decide +kernel
theorem dX6_takes_192 : decode cX6_takes 192 = .ok (.invokevirtual 62, 3) := by decide +kernel
theorem dX6_takes_195 : decode cX6_takes 195 = .ok (.ireturn, 1) := by decide +kernel
theorem dX6_takes_196 : decode cX6_takes 196 = .ok (.aload_n 0, 1) := by decide +kernel
theorem dX6_takes_197 : decode cX6_takes 197 = .ok (.iload_n 1, 1) := by decide +kernel
theorem dX6_takes_198 : decode cX6_takes 198 = .ok (.bipush 59, 2) := by decide +kernel
theorem dX6_takes_200 : decode cX6_takes 200 = .ok (.if_icmp .ne 7, 3) := by decide +kernel
theorem dX6_takes_203 : decode cX6_takes 203 = .ok (.iconst 1, 1) := by decide +kernel
theorem dX6_takes_204 : decode cX6_takes 204 = .ok (.goto 4, 3) := by decide +kernel
theorem dX6_takes_207 : decode cX6_takes 207 = .ok (.iconst 0, 1) := by decide +kernel
theorem dX6_takes_208 : decode cX6_takes 208 = .ok (.iconst 0, 1) := by decide +kernel
theorem dX6_takes_209 : decode cX6_takes 209 = .ok (.invokevirtual 52, 3) := by decide +kernel
theorem dX6_takes_212 : decode cX6_takes 212 = .ok (.ireturn, 1) := by decide +kernel
theorem dX6_goesOn_0 : decode cX6_goesOn 0 = .ok (.iload_n 1, 1) := by decide +kernel
theorem dX6_goesOn_1 : decode cX6_goesOn 1 = .ok (.ifCond .eq 8, 3) := by decide +kernel
theorem dX6_goesOn_4 : decode cX6_goesOn 4 = .ok (.aload_n 0, 1) := by decide +kernel
theorem dX6_goesOn_5 : decode cX6_goesOn 5 = .ok (.iload_n 2, 1) := by decide +kernel
theorem dX6_goesOn_6 : decode cX6_goesOn 6 = .ok (.putfield 19, 3) := by decide +kernel
theorem dX6_goesOn_9 : decode cX6_goesOn 9 = .ok (.iload_n 1, 1) := by decide +kernel
theorem dX6_goesOn_10 : decode cX6_goesOn 10 = .ok (.ireturn, 1) := by decide +kernel
theorem dX6_startsNumber_0 : decode cX6_startsNumber 0 = .ok (.aload_n 0, 1) := by decide +kernel
theorem dX6_startsNumber_1 : decode cX6_startsNumber 1 = .ok (.iload_n 1, 1) := by decide +kernel
theorem dX6_startsNumber_2 : decode cX6_startsNumber 2 = .ok (.bipush 48, 2) := by decide +kernel
theorem dX6_startsNumber_4 : decode cX6_startsNumber 4 = .ok (.isub, 1) := by decide +kernel
theorem dX6_startsNumber_5 : decode cX6_startsNumber 5 = .ok (.putfield 22, 3) := by decide +kernel
theorem dX6_startsNumber_8 : decode cX6_startsNumber 8 = .ok (.aload_n 0, 1) := by decide +kernel
theorem dX6_startsNumber_9 : decode cX6_startsNumber 9 = .ok (.aload_n 0, 1) := by decide +kernel
theorem dX6_startsNumber_10 : decode cX6_startsNumber 10 = .ok (.getfield 22, 3) := by decide +kernel
theorem dX6_startsNumber_13 : decode cX6_startsNumber 13 = .ok (.bipush 10, 2) := by decide +kernel
theorem dX6_startsNumber_15 : decode cX6_startsNumber 15 = .ok (.invokestatic 48, 3) := by decide +kernel
theorem dX6_startsNumber_18 : decode cX6_startsNumber 18 = .ok (.iload_n 2, 1) := by decide +kernel
theorem dX6_startsNumber_19 : decode cX6_startsNumber 19 = .ok (.invokevirtual 52, 3) := by decide +kernel
theorem dX6_startsNumber_22 : decode cX6_startsNumber 22 = .ok (.ireturn, 1) := by decide +kernel
theorem dX6_lengthensNumber_0 : decode cX6_lengthensNumber 0 = .ok (.iload_n 1, 1) := by decide +kernel
theorem dX6_lengthensNumber_1 : decode cX6_lengthensNumber 1 = .ok (.bipush 48, 2) := by decide +kernel
theorem dX6_lengthensNumber_3 : decode cX6_lengthensNumber 3 = .ok (.isub, 1) := by decide +kernel
theorem dX6_lengthensNumber_4 : decode cX6_lengthensNumber 4 = .ok (.istore_n 3, 1) := by decide +kernel
theorem dX6_lengthensNumber_5 : decode cX6_lengthensNumber 5 = .ok (.iload_n 3, 1) := by decide +kernel
theorem dX6_lengthensNumber_6 : decode cX6_lengthensNumber 6 = .ok (.bipush 10, 2) := by decide +kernel
theorem dX6_lengthensNumber_8 : decode cX6_lengthensNumber 8 = .ok (.invokestatic 48, 3) := by decide +kernel
theorem dX6_lengthensNumber_11 : decode cX6_lengthensNumber 11 = .ok (.ifCond .eq 26, 3) := by decide +kernel
theorem dX6_lengthensNumber_14 : decode cX6_lengthensNumber 14 = .ok (.aload_n 0, 1) := by decide +kernel
theorem dX6_lengthensNumber_15 : decode cX6_lengthensNumber 15 = .ok (.getfield 22, 3) := by decide +kernel
theorem dX6_lengthensNumber_18 : decode cX6_lengthensNumber 18 = .ok (.ifCond .eq 19, 3) := by decide +kernel
theorem dX6_lengthensNumber_21 : decode cX6_lengthensNumber 21 = .ok (.aload_n 0, 1) := by decide +kernel
theorem dX6_lengthensNumber_22 : decode cX6_lengthensNumber 22 = .ok (.getfield 22, 3) := by decide +kernel
theorem dX6_lengthensNumber_25 : decode cX6_lengthensNumber 25 = .ok (.bipush 10, 2) := by decide +kernel
theorem dX6_lengthensNumber_27 : decode cX6_lengthensNumber 27 = .ok (.imul, 1) := by decide +kernel
theorem dX6_lengthensNumber_28 : decode cX6_lengthensNumber 28 = .ok (.iload_n 3, 1) := by decide +kernel
theorem dX6_lengthensNumber_29 : decode cX6_lengthensNumber 29 = .ok (.iadd, 1) := by decide +kernel
theorem dX6_lengthensNumber_30 : decode cX6_lengthensNumber 30 = .ok (.iload_n 2, 1) := by decide +kernel
theorem dX6_lengthensNumber_31 : decode cX6_lengthensNumber 31 = .ok (.invokestatic 48, 3) := by decide +kernel
theorem dX6_lengthensNumber_34 : decode cX6_lengthensNumber 34 = .ok (.ifCond .ne 5, 3) := by decide +kernel
theorem dX6_lengthensNumber_37 : decode cX6_lengthensNumber 37 = .ok (.iconst 0, 1) := by decide +kernel
theorem dX6_lengthensNumber_38 : decode cX6_lengthensNumber 38 = .ok (.ireturn, 1) := by decide +kernel
theorem dX6_lengthensNumber_39 : decode cX6_lengthensNumber 39 = .ok (.aload_n 0, 1) := by decide +kernel
theorem dX6_lengthensNumber_40 : decode cX6_lengthensNumber 40 = .ok (.aload_n 0, 1) := by decide +kernel
theorem dX6_lengthensNumber_41 : decode cX6_lengthensNumber 41 = .ok (.getfield 22, 3) := by decide +kernel
theorem dX6_lengthensNumber_44 : decode cX6_lengthensNumber 44 = .ok (.bipush 10, 2) := by decide +kernel
theorem dX6_lengthensNumber_46 : decode cX6_lengthensNumber 46 = .ok (.imul, 1) := by decide +kernel
theorem dX6_lengthensNumber_47 : decode cX6_lengthensNumber 47 = .ok (.iload_n 3, 1) := by decide +kernel
theorem dX6_lengthensNumber_48 : decode cX6_lengthensNumber 48 = .ok (.iadd, 1) := by decide +kernel
theorem dX6_lengthensNumber_49 : decode cX6_lengthensNumber 49 = .ok (.putfield 22, 3) := by decide +kernel
theorem dX6_lengthensNumber_52 : decode cX6_lengthensNumber 52 = .ok (.iconst 1, 1) := by decide +kernel
theorem dX6_lengthensNumber_53 : decode cX6_lengthensNumber 53 = .ok (.ireturn, 1) := by decide +kernel
theorem dX6_endsTap_0 : decode cX6_endsTap 0 = .ok (.iload_n 1, 1) := by decide +kernel
theorem dX6_endsTap_1 : decode cX6_endsTap 1 = .ok (.bipush 10, 2) := by decide +kernel
theorem dX6_endsTap_3 : decode cX6_endsTap 3 = .ok (.invokestatic 48, 3) := by decide +kernel
theorem dX6_endsTap_6 : decode cX6_endsTap 6 = .ok (.ifCond .ne 5, 3) := by decide +kernel
theorem dX6_endsTap_9 : decode cX6_endsTap 9 = .ok (.iconst 0, 1) := by decide +kernel
theorem dX6_endsTap_10 : decode cX6_endsTap 10 = .ok (.ireturn, 1) := by decide +kernel
theorem dX6_endsTap_11 : decode cX6_endsTap 11 = .ok (.aload_n 0, 1) := by decide +kernel
theorem dX6_endsTap_12 : decode cX6_endsTap 12 = .ok (.getfield 11, 3) := by decide +kernel
theorem dX6_endsTap_15 : decode cX6_endsTap 15 = .ok (.aload_n 0, 1) := by decide +kernel
theorem dX6_endsTap_16 : decode cX6_endsTap 16 = .ok (.getfield 15, 3) := by decide +kernel
theorem dX6_endsTap_19 : decode cX6_endsTap 19 = .ok (.aload_n 0, 1) := by decide +kernel
theorem dX6_endsTap_20 : decode cX6_endsTap 20 = .ok (.getfield 25, 3) := by decide +kernel
theorem dX6_endsTap_23 : decode cX6_endsTap 23 = .ok (.aload_n 0, 1) := by decide +kernel
theorem dX6_endsTap_24 : decode cX6_endsTap 24 = .ok (.getfield 28, 3) := by decide +kernel
theorem dX6_endsTap_27 : decode cX6_endsTap 27 = .ok (.aload_n 0, 1) := by decide +kernel
theorem dX6_endsTap_28 : decode cX6_endsTap 28 = .ok (.getfield 31, 3) := by decide +kernel
theorem dX6_endsTap_31 : decode cX6_endsTap 31 = .ok (.iload_n 1, 1) := by decide +kernel
theorem dX6_endsTap_32 : decode cX6_endsTap 32 = .ok (.aload_n 0, 1) := by decide +kernel
theorem dX6_endsTap_33 : decode cX6_endsTap 33 = .ok (.getfield 34, 3) := by decide +kernel
theorem dX6_endsTap_36 : decode cX6_endsTap 36 = .ok (.invokestatic 65, 3) := by decide +kernel
theorem dX6_endsTap_39 : decode cX6_endsTap 39 = .ok (.invokestatic 71, 3) := by decide +kernel
theorem dX6_endsTap_42 : decode cX6_endsTap 42 = .ok (.aload_n 0, 1) := by decide +kernel
theorem dX6_endsTap_43 : decode cX6_endsTap 43 = .ok (.dup, 1) := by decide +kernel
theorem dX6_endsTap_44 : decode cX6_endsTap 44 = .ok (.getfield 15, 3) := by decide +kernel
theorem dX6_endsTap_47 : decode cX6_endsTap 47 = .ok (.iconst 1, 1) := by decide +kernel
theorem dX6_endsTap_48 : decode cX6_endsTap 48 = .ok (.iadd, 1) := by decide +kernel
theorem dX6_endsTap_49 : decode cX6_endsTap 49 = .ok (.putfield 15, 3) := by decide +kernel
theorem dX6_endsTap_52 : decode cX6_endsTap 52 = .ok (.aload_n 0, 1) := by decide +kernel
theorem dX6_endsTap_53 : decode cX6_endsTap 53 = .ok (.bipush 7, 2) := by decide +kernel
theorem dX6_endsTap_55 : decode cX6_endsTap 55 = .ok (.putfield 19, 3) := by decide +kernel
theorem dX6_endsTap_58 : decode cX6_endsTap 58 = .ok (.iconst 1, 1) := by decide +kernel
theorem dX6_endsTap_59 : decode cX6_endsTap 59 = .ok (.ireturn, 1) := by decide +kernel
end
section
def s_X1_at_b17 (h : mH) (t0 : Int32) : Option (Int32) := some t0
def s_X1_at_b16 (h : mH) : Option (Int32) := s_X1_at_b17 h 0
def s_X1_at (h : mH) (v0 : Nat) (v1 : Int32) : Option (Int32) := if v1 < 0 then (s_X1_at_b16 h) else ((m_ilen h v0).bind fun x6 => if x6 ≤ v1 then (s_X1_at_b16 h) else ((m_iald h v0 v1).bind fun x12 => s_X1_at_b17 h x12))
def s_X1_fill_L2 : Nat → mH → Nat → Int32 → Int32 → Option (mH)
  | 0, _, _, _, _ => none
  | n + 1, h, v0, v1, v2 => (m_ilen h v0).bind fun x4 => if x4 ≤ v2 then (some h) else ((m_iast h v0 v2 v1).bind fun h11 => s_X1_fill_L2 n h11 v0 v1 (v2 + 1))
def s_X1_fill (h : mH) (v0 : Nat) (v1 : Int32) : Option (mH) := s_X1_fill_L2 m_F h v0 v1 0
def s_X5_tapAt (h : mH) (v0 : Nat) (v1 : Int32) : Option (Int32) := (m_gr h 3 v0 0).bind fun x1 => (s_X1_at h x1 v1).bind fun x5 => some x5
def s_X4_isIn_b11 (h : mH) (t0 : Int32) : Option (Int32) := (m_z t0).bind fun x11 => some x11
def s_X4_isIn (h : mH) (v0 : Int32) : Option (Int32) := if (v0 &&& 2) = 0 then (s_X4_isIn_b11 h 0) else (s_X4_isIn_b11 h 1)
def s_X4_dayOf (h : mH) (v0 : Int32) : Option (Int32) := some ((v0 >>> (19 &&& 31)) &&& 31)
def s_X4_minuteOf (h : mH) (v0 : Int32) : Option (Int32) := some ((v0 >>> (8 &&& 31)) &&& 2047)
def s_X0_isRide_b43 (h : mH) (t0 : Int32) : Option (Int32) := (m_z t0).bind fun x43 => some x43
def s_X0_isRide_b42 (h : mH) : Option (Int32) := s_X0_isRide_b43 h 0
def s_X0_isRide (h : mH) (v0 : Int32) (v1 : Int32) (v2 : Int32) : Option (Int32) := (s_X4_isIn h v0).bind fun x1 => if x1 = 0 then (s_X0_isRide_b42 h) else ((s_X4_isIn h v1).bind fun x8 => if x8 = 0 then ((s_X4_dayOf h v0).bind fun x15 => (s_X4_dayOf h v1).bind fun x19 => if x15 = x19 then ((s_X4_minuteOf h v1).bind fun x26 => (s_X4_minuteOf h v0).bind fun x30 => if v2 < (x26 - x30) then (s_X0_isRide_b42 h) else (s_X0_isRide_b43 h 1)) else (s_X0_isRide_b42 h)) else (s_X0_isRide_b42 h))
def s_X1_put_b14 (h : mH) : Option (mH) := some h
def s_X1_put (h : mH) (v0 : Nat) (v1 : Int32) (v2 : Int32) : Option (mH) := if v1 < 0 then (s_X1_put_b14 h) else ((m_ilen h v0).bind fun x6 => if x6 ≤ v1 then (s_X1_put_b14 h) else ((m_iast h v0 v1 v2).bind fun h13 => s_X1_put_b14 h13))
def s_X1_raise (h : mH) (v0 : Nat) (v1 : Int32) (v2 : Int32) : Option (mH) := (s_X1_at h v0 v1).bind fun x4 => (s_X1_put h v0 v1 (x4 + v2)).bind fun h9 => some h9
def s_X1_copy_b26 (h : mH) : Option (mH) := some h
def s_X1_copy_L2 : Nat → mH → Nat → Nat → Int32 → Option (mH)
  | 0, _, _, _, _ => none
  | n + 1, h, v0, v1, v2 => (m_ilen h v0).bind fun x4 => if x4 ≤ v2 then (s_X1_copy_b26 h) else ((m_ilen h v1).bind fun x10 => if x10 ≤ v2 then (s_X1_copy_b26 h) else ((m_iald h v0 v2).bind fun x18 => (m_iast h v1 v2 x18).bind fun h19 => s_X1_copy_L2 n h19 v0 v1 (v2 + 1)))
def s_X1_copy (h : mH) (v0 : Nat) (v1 : Nat) : Option (mH) := s_X1_copy_L2 m_F h v0 v1 0
def s_X1_sum_L10 (h : mH) : Nat → Int32 → Nat → Int32 → Int32 → Option (Int32)
  | 0, _, _, _, _ => none
  | n + 1, v1, v2, v3, v4 => if v3 ≤ v4 then (some v1) else ((m_iald h v2 v4).bind fun x19 => s_X1_sum_L10 h n (v1 + x19) v2 v3 (v4 + 1))
def s_X1_sum (h : mH) (v0 : Nat) : Option (Int32) := (m_ilen h v0).bind fun x5 => s_X1_sum_L10 h m_F 0 v0 x5 0
def s_X4_make_b28 (h : mH) (t0 : Int32) (t1 : Int32) : Option (Int32) := some (t0 ||| t1)
def s_X4_make (h : mH) (v0 : Int32) (v1 : Int32) (v2 : Int32) (v3 : Int32) (v4 : Int32) : Option (Int32) := if v4 = 0 then (s_X4_make_b28 h ((((v1 <<< (19 &&& 31)) ||| (v2 <<< (8 &&& 31))) ||| (v0 <<< (6 &&& 31))) ||| (v3 <<< (2 &&& 31))) 0) else (s_X4_make_b28 h ((((v1 <<< (19 &&& 31)) ||| (v2 <<< (8 &&& 31))) ||| (v0 <<< (6 &&& 31))) ||| (v3 <<< (2 &&& 31))) 2)
def s_X4_timeOf (h : mH) (v0 : Int32) : Option (Int32) := some (v0 >>> (8 &&& 31))
def s_X4_weekOf (h : mH) (v0 : Int32) : Option (Int32) := (s_X4_dayOf h v0).bind fun x1 => (m_div x1 7).bind fun x6 => some x6
def s_X5_insert_b61 (h : mH) (v0 : Nat) (v1 : Int32) (v2 : Int32) : Option (Int32 × mH) := (m_gr h 3 v0 0).bind fun x62 => (s_X1_put h x62 v2 v1).bind fun h67 => (m_gi h67 3 v0 1).bind fun x72 => (m_put h67 3 v0 1 (.int (x72 + 1))).bind fun h77 => some (v2, h77)
def s_X5_insert_L19 : Nat → mH → Nat → Int32 → Int32 → Option (Int32 × mH)
  | 0, _, _, _, _ => none
  | n + 1, h, v0, v1, v2 => if v2 ≤ 0 then (s_X5_insert_b61 h v0 v1 v2) else ((m_is h 3 v0).bind fun _ => (s_X5_tapAt h v0 (v2 - 1)).bind fun x27 => (s_X4_timeOf h x27).bind fun x30 => (s_X4_timeOf h v1).bind fun x34 => if x30 ≤ x34 then (s_X5_insert_b61 h v0 v1 v2) else ((m_gr h 3 v0 0).bind fun x41 => (m_is h 3 v0).bind fun _ => (s_X5_tapAt h v0 (v2 - 1)).bind fun x49 => (s_X1_put h x41 v2 x49).bind fun h52 => s_X5_insert_L19 n h52 v0 v1 (v2 + (-1))))
def s_X5_insert (h : mH) (v0 : Nat) (v1 : Int32) : Option (Int32 × mH) := (m_gi h 3 v0 1).bind fun x1 => (m_gr h 3 v0 0).bind fun x5 => (m_ilen h x5).bind fun x8 => if x1 < x8 then ((m_gi h 3 v0 1).bind fun x15 => s_X5_insert_L19 m_F h v0 v1 x15) else (some ((-1), h))
end
section
abbrev rm_X1_at : Room := { frames := 0, cells := 0, slots := 0, locals := 0 }
theorem yk_X1_at : m_K yX1_at cX1_at 2 (some .int) 2 := ⟨wm_0_196, wm_0_4, by decide +kernel⟩
theorem ys_X1_at : Cond.static yX1_at ∈ wT := wm_0_195
set_option maxRecDepth 100000 in
set_option maxHeartbeats 4000000 in
theorem k_X1_at_b17 {p : Program} {l : Launch} {e : Env} {s : State} {m : MethodId} {args : Array Value} {below : List Frame} {meth : Method} {c : Code} {D : va_G} {ids : m_I3} {st : m_T} {A : Nat → Prop} {z : Nat} {r : Int32} (hx : p.tables.exec = Jvm.exec) (hb : c.code = cX1_at) (hr : meth.sig.returnType = some .int) (hml : c.maxLocals = 2) (hown : s.vm.findClass RX1 = some m.cls) (hts : ∀ w ∈ (m_ws yX1_at cX1_at 2 (some .int)), w.before args s = true) (hlocks : meth.locks = false) (hin : meth.name = yX1_at.name) (hE : m_EV st A s s.heap) (hA : ∀ q, s.heap.size ≤ q → A q) {h : mH} (t0 : Int32) (H : Heap) (locs : List Loc) (ls : Array Slot) (hrun : s_X1_at_b17 h t0 = some r) (hR : Rl D ids A h s H) (hz : H.size = z) (hS : va_S A s.heap H locs) (hl : lv_has ls 2 []) : W p l e rm_X1_at s m args below meth c H locs 0 0 (MQ below (mQi D ids A r h z) args s 0 0 A) (F0 m 17 ls [.int t0]) := by
  unfold s_X1_at_b17 at hrun
  cases hrun
  exact mr_iret hx hb hr hlocks hR hz hS dX1_at_17
set_option maxRecDepth 100000 in
set_option maxHeartbeats 4000000 in
theorem k_X1_at_b16 {p : Program} {l : Launch} {e : Env} {s : State} {m : MethodId} {args : Array Value} {below : List Frame} {meth : Method} {c : Code} {D : va_G} {ids : m_I3} {st : m_T} {A : Nat → Prop} {z : Nat} {r : Int32} (hx : p.tables.exec = Jvm.exec) (hb : c.code = cX1_at) (hr : meth.sig.returnType = some .int) (hml : c.maxLocals = 2) (hown : s.vm.findClass RX1 = some m.cls) (hts : ∀ w ∈ (m_ws yX1_at cX1_at 2 (some .int)), w.before args s = true) (hlocks : meth.locks = false) (hin : meth.name = yX1_at.name) (hE : m_EV st A s s.heap) (hA : ∀ q, s.heap.size ≤ q → A q) {h : mH} (H : Heap) (locs : List Loc) (ls : Array Slot) (hrun : s_X1_at_b16 h  = some r) (hR : Rl D ids A h s H) (hz : H.size = z) (hS : va_S A s.heap H locs) (hl : lv_has ls 2 []) : W p l e rm_X1_at s m args below meth c H locs 0 0 (MQ below (mQi D ids A r h z) args s 0 0 A) (F0 m 16 ls []) := by
  unfold s_X1_at_b16 at hrun
  refine lv_iconst (v := 0) hx hb dX1_at_16 (by decide) ?_
  exact k_X1_at_b17 hx hb hr hml hown hts hlocks hin hE hA _ _ _ _ hrun hR hz hS (lv_sub hl [] rfl)
set_option maxRecDepth 100000 in
set_option maxHeartbeats 4000000 in
theorem c_X1_at (l : Launch) (D : va_G) (ids : m_I3) (st : m_T) (z : Nat) {h : mH} {v0 : Nat} {v1 : Int32} {r : Int32} (hrun : s_X1_at h v0 v1 = some r) : Met l yX1_at (m_ws yX1_at cX1_at 2 (some .int)) rm_X1_at (mPc D ids st [.ref v0, .int v1] h z) (mQi D ids (m_A h z) r h z) rm_X1_at.cells rm_X1_at.slots (m_A h z) := by
  refine mr_of (cc := cX1_at) (maxL := 2) (ret := some .int) (by decide) rfl (Nat.le_of_ble_eq_true rfl) ?_
  intro p e s m below meth c ls hx hb hr hml hown hts hlocks hin hR hE hz hl
  have hA : ∀ q, s.heap.size ≤ q → m_A h z q := fun q hq => Or.inr (by rw [← hz]; exact hq)
  have hS : va_S (m_A h z) s.heap s.heap [] := va_S.rf
  have hl : lv_has ls 2 [(0, .ref v0), (1, .int v1)] := hl
  unfold s_X1_at at hrun
  refine lv_iload_n hx hb dX1_at_0 rfl (lv_at hl 1 rfl) ?_
  refine lv_if_lt (tgt := 16) hx hb dX1_at_1 (by decide) (fun hc => ?_) (fun hc => ?_)
  · have hrun := mt_t hrun hc
    exact k_X1_at_b16 hx hb hr hml hown hts hlocks hin hE hA _ _ _ hrun hR hz hS (lv_sub hl [] rfl)
  · have hrun := mt_f hrun hc
    refine lv_iload_n hx hb dX1_at_4 rfl (lv_at hl 1 rfl) ?_
    refine lv_aload_n hx hb dX1_at_5 rfl (lv_at hl 0 rfl) ?_
    obtain ⟨x6, hc9, hrun⟩ := m_bind hrun
    refine mr_ilen hx hb hR hc9 dX1_at_6 ?_
    refine lv_icmp_ge (tgt := 16) hx hb dX1_at_7 (by decide) (fun hc => ?_) (fun hc => ?_)
    · have hrun := mt_t hrun hc
      exact k_X1_at_b16 hx hb hr hml hown hts hlocks hin hE hA _ _ _ hrun hR hz hS (lv_sub hl [] rfl)
    · have hrun := mt_f hrun hc
      refine lv_aload_n hx hb dX1_at_10 rfl (lv_at hl 0 rfl) ?_
      refine lv_iload_n hx hb dX1_at_11 rfl (lv_at hl 1 rfl) ?_
      obtain ⟨x12, hc9, hrun⟩ := m_bind hrun
      refine mr_iald hx hb hR hc9 dX1_at_12 ?_
      refine lv_goto (tgt := 17) hx hb dX1_at_13 (by decide) ?_
      exact k_X1_at_b17 hx hb hr hml hown hts hlocks hin hE hA _ _ _ _ hrun hR hz hS (lv_sub hl [] rfl)
abbrev rm_X1_fill : Room := { frames := 0, cells := 0, slots := 0, locals := 0 }
theorem yk_X1_fill : m_K yX1_fill cX1_fill 3 (none) 2 := ⟨wm_0_55, wm_0_4, by decide +kernel⟩
theorem ys_X1_fill : Cond.static yX1_fill ∈ wT := wm_0_54
set_option maxRecDepth 100000 in
set_option maxHeartbeats 4000000 in
theorem k_X1_fill_L2 {p : Program} {l : Launch} {e : Env} {s : State} {m : MethodId} {args : Array Value} {below : List Frame} {meth : Method} {c : Code} {D : va_G} {ids : m_I3} {st : m_T} {A : Nat → Prop} {z : Nat} {hF : mH} (hx : p.tables.exec = Jvm.exec) (hb : c.code = cX1_fill) (hr : meth.sig.returnType = none) (hml : c.maxLocals = 3) (hown : s.vm.findClass RX1 = some m.cls) (hts : ∀ w ∈ (m_ws yX1_fill cX1_fill 3 (none)), w.before args s = true) (hlocks : meth.locks = false) (hin : meth.name = yX1_fill.name) (hE : m_EV st A s s.heap) (hA : ∀ q, s.heap.size ≤ q → A q) : ∀ (n : Nat) (h : mH) (v0 : Nat) (v1 : Int32) (v2 : Int32) (H : Heap) (locs : List Loc) (ls : Array Slot), s_X1_fill_L2 n h v0 v1 v2 = some hF → Rl D ids A h s H → H.size = z → va_S A s.heap H locs → lv_has ls 3 [(0, .ref v0), (1, .int v1), (2, .int v2)] → W p l e rm_X1_fill s m args below meth c H locs 0 0 (MQ below (mQv D ids A hF z) args s 0 0 A) (F0 m 2 ls []) := by
  intro n
  induction n with
  | zero => intro h v0 v1 v2 H locs ls hrun; exact absurd hrun (by intro h9; cases h9)
  | succ n ih =>
    intro h v0 v1 v2 H locs ls hrun hR hz hS hl
    rw [s_X1_fill_L2] at hrun
    refine lv_iload_n hx hb dX1_fill_2 rfl (lv_at hl 2 rfl) ?_
    refine lv_aload_n hx hb dX1_fill_3 rfl (lv_at hl 0 rfl) ?_
    obtain ⟨x4, hc9, hrun⟩ := m_bind hrun
    refine mr_ilen hx hb hR hc9 dX1_fill_4 ?_
    refine lv_icmp_ge (tgt := 18) hx hb dX1_fill_5 (by decide) (fun hc => ?_) (fun hc => ?_)
    · have hrun := mt_t hrun hc
      cases hrun
      exact mr_vret hx hb hr hlocks hR hz hS dX1_fill_18
    · have hrun := mt_f hrun hc
      refine lv_aload_n hx hb dX1_fill_8 rfl (lv_at hl 0 rfl) ?_
      refine lv_iload_n hx hb dX1_fill_9 rfl (lv_at hl 2 rfl) ?_
      refine lv_iload_n hx hb dX1_fill_10 rfl (lv_at hl 1 rfl) ?_
      obtain ⟨h11, hc9, hrun⟩ := m_bind hrun
      refine mr_iast hx hb hR hz hS hc9 dX1_fill_11 (fun H locs hR hz hS => ?_)
      refine lv_iinc (v := v2 + 1) (lv' := [(2, .int (v2 + 1)), (0, .ref v0), (1, .int v1)]) hx hb dX1_fill_12 hl (k := 2) rfl rfl (by decide) rfl (fun ls hl => ?_)
      refine lv_goto (tgt := 2) hx hb dX1_fill_15 (by decide) ?_
      exact ih _ _ _ _ _ _ _ hrun hR hz hS (lv_sub hl [1, 2, 0] rfl)
set_option maxRecDepth 100000 in
set_option maxHeartbeats 4000000 in
theorem c_X1_fill (l : Launch) (D : va_G) (ids : m_I3) (st : m_T) (z : Nat) {h : mH} {v0 : Nat} {v1 : Int32} {hF : mH} (hrun : s_X1_fill h v0 v1 = some hF) : Met l yX1_fill (m_ws yX1_fill cX1_fill 3 (none)) rm_X1_fill (mPc D ids st [.ref v0, .int v1] h z) (mQv D ids (m_A h z) hF z) rm_X1_fill.cells rm_X1_fill.slots (m_A h z) := by
  refine mr_of (cc := cX1_fill) (maxL := 3) (ret := none) (by decide) rfl (Nat.le_of_ble_eq_true rfl) ?_
  intro p e s m below meth c ls hx hb hr hml hown hts hlocks hin hR hE hz hl
  have hA : ∀ q, s.heap.size ≤ q → m_A h z q := fun q hq => Or.inr (by rw [← hz]; exact hq)
  have hS : va_S (m_A h z) s.heap s.heap [] := va_S.rf
  have hl : lv_has ls 3 [(0, .ref v0), (1, .int v1)] := hl
  unfold s_X1_fill at hrun
  refine lv_iconst (v := 0) hx hb dX1_fill_0 (by decide) ?_
  refine lv_istore_n (lv' := [(2, .int 0), (0, .ref v0), (1, .int v1)]) hx hb dX1_fill_1 rfl hl (by decide) rfl (fun ls hl => ?_)
  exact k_X1_fill_L2 hx hb hr hml hown hts hlocks hin hE hA _ _ _ _ _ _ _ _ hrun hR hz hS (lv_sub hl [1, 2, 0] rfl)
abbrev rm_X5_tapAt : Room := { frames := 1, cells := 0, slots := 0, locals := 21 }
theorem yk_X5_tapAt : m_K yX5_tapAt cX5_tapAt 2 (some .int) 1 := ⟨wm_0_205, wm_0_3, by decide +kernel⟩
theorem ys_X5_tapAt : Cond.instanceMethod yX5_tapAt ∈ wT ∧ Cond.selects RX5 yX5_tapAt yX5_tapAt ∈ wT := ⟨wm_0_203, wm_0_204⟩
set_option maxRecDepth 100000 in
set_option maxHeartbeats 4000000 in
theorem c_X5_tapAt (l : Launch) (D : va_G) (ids : m_I3) (st : m_T) (z : Nat) {h : mH} {v0 : Nat} {v1 : Int32} {r : Int32} (hrun : s_X5_tapAt h v0 v1 = some r) : Met l yX5_tapAt (m_ws yX5_tapAt cX5_tapAt 2 (some .int)) rm_X5_tapAt (mPc D ids st [.ref v0, .int v1] h z) (mQi D ids (m_A h z) r h z) rm_X5_tapAt.cells rm_X5_tapAt.slots (m_A h z) := by
  refine mr_of (cc := cX5_tapAt) (maxL := 2) (ret := some .int) (by decide) rfl (Nat.le_of_ble_eq_true rfl) ?_
  intro p e s m below meth c ls hx hb hr hml hown hts hlocks hin hR hE hz hl
  have hA : ∀ q, s.heap.size ≤ q → m_A h z q := fun q hq => Or.inr (by rw [← hz]; exact hq)
  have hS : va_S (m_A h z) s.heap s.heap [] := va_S.rf
  have hl : lv_has ls 2 [(0, .ref v0), (1, .int v1)] := hl
  unfold s_X5_tapAt at hrun
  refine lv_aload_n hx hb dX5_tapAt_0 rfl (lv_at hl 0 rfl) ?_
  obtain ⟨x1, hc9, hrun⟩ := m_bind hrun
  refine mr_get (C := RX5) (T := TX5) (N := 2) (ci := 3) hx hb hts (fun w q => m_ws_in (wi_X5 w q)) hown hR rfl 0 (by decide) (hts _ (m_ws_in wm_0_38)) (fun _ h9 => h9) (m_gr_spec hc9) dX5_tapAt_1 ?_
  refine lv_iload_n hx hb dX5_tapAt_4 rfl (lv_at hl 1 rfl) ?_
  obtain ⟨x5, hc9, hrun⟩ := m_bind hrun
  refine mr_calli (mr_runS (As := [.ref x1, .int v1]) (rest := []) hx hb hml hown hts (c_X1_at l D ids st z hc9) yk_X1_at ys_X1_at wm_0_206 ⟨(Nat.le_of_ble_eq_true rfl), (Nat.le_of_ble_eq_true rfl)⟩ (mr_recvS hR hE hz hS hA) hl.1 rfl (Nat.le_of_ble_eq_true rfl) dX5_tapAt_5 ⟨(Nat.le_of_ble_eq_true rfl), (Nat.le_of_ble_eq_true rfl)⟩) hR hz hS hA (fun H locs hR hz hS => ?_)
  cases hrun
  exact mr_iret hx hb hr hlocks hR hz hS dX5_tapAt_8
abbrev rm_X4_isIn : Room := { frames := 0, cells := 0, slots := 0, locals := 0 }
theorem yk_X4_isIn : m_K yX4_isIn cX4_isIn 1 (some .boolean) 1 := ⟨wm_0_215, wm_0_8, by decide +kernel⟩
theorem ys_X4_isIn : Cond.static yX4_isIn ∈ wT := wm_0_214
set_option maxRecDepth 100000 in
set_option maxHeartbeats 4000000 in
theorem k_X4_isIn_b11 {p : Program} {l : Launch} {e : Env} {s : State} {m : MethodId} {args : Array Value} {below : List Frame} {meth : Method} {c : Code} {D : va_G} {ids : m_I3} {st : m_T} {A : Nat → Prop} {z : Nat} {r : Int32} (hx : p.tables.exec = Jvm.exec) (hb : c.code = cX4_isIn) (hr : meth.sig.returnType = some .boolean) (hml : c.maxLocals = 1) (hown : s.vm.findClass RX4 = some m.cls) (hts : ∀ w ∈ (m_ws yX4_isIn cX4_isIn 1 (some .boolean)), w.before args s = true) (hlocks : meth.locks = false) (hin : meth.name = yX4_isIn.name) (hE : m_EV st A s s.heap) (hA : ∀ q, s.heap.size ≤ q → A q) {h : mH} (t0 : Int32) (H : Heap) (locs : List Loc) (ls : Array Slot) (hrun : s_X4_isIn_b11 h t0 = some r) (hR : Rl D ids A h s H) (hz : H.size = z) (hS : va_S A s.heap H locs) (hl : lv_has ls 1 []) : W p l e rm_X4_isIn s m args below meth c H locs 0 0 (MQ below (mQi D ids A r h z) args s 0 0 A) (F0 m 11 ls [.int t0]) := by
  unfold s_X4_isIn_b11 at hrun
  obtain ⟨w9, hc9, hrun⟩ := m_bind hrun
  cases hrun
  exact mr_zret hc9 hx hb hr hlocks hR hz hS dX4_isIn_11
set_option maxRecDepth 100000 in
set_option maxHeartbeats 4000000 in
theorem c_X4_isIn (l : Launch) (D : va_G) (ids : m_I3) (st : m_T) (z : Nat) {h : mH} {v0 : Int32} {r : Int32} (hrun : s_X4_isIn h v0 = some r) : Met l yX4_isIn (m_ws yX4_isIn cX4_isIn 1 (some .boolean)) rm_X4_isIn (mPc D ids st [.int v0] h z) (mQi D ids (m_A h z) r h z) rm_X4_isIn.cells rm_X4_isIn.slots (m_A h z) := by
  refine mr_of (cc := cX4_isIn) (maxL := 1) (ret := some .boolean) (by decide) rfl (Nat.le_of_ble_eq_true rfl) ?_
  intro p e s m below meth c ls hx hb hr hml hown hts hlocks hin hR hE hz hl
  have hA : ∀ q, s.heap.size ≤ q → m_A h z q := fun q hq => Or.inr (by rw [← hz]; exact hq)
  have hS : va_S (m_A h z) s.heap s.heap [] := va_S.rf
  have hl : lv_has ls 1 [(0, .int v0)] := hl
  unfold s_X4_isIn at hrun
  refine lv_iload_n hx hb dX4_isIn_0 rfl (lv_at hl 0 rfl) ?_
  refine lv_iconst (v := 2) hx hb dX4_isIn_1 (by decide) ?_
  refine lv_iand hx hb dX4_isIn_2 ?_
  refine lv_if_eq (tgt := 10) hx hb dX4_isIn_3 (by decide) (fun hc => ?_) (fun hc => ?_)
  · have hrun := mt_t hrun hc
    refine lv_iconst (v := 0) hx hb dX4_isIn_10 (by decide) ?_
    exact k_X4_isIn_b11 hx hb hr hml hown hts hlocks hin hE hA _ _ _ _ hrun hR hz hS (lv_sub hl [] rfl)
  · have hrun := mt_f hrun hc
    refine lv_iconst (v := 1) hx hb dX4_isIn_6 (by decide) ?_
    refine lv_goto (tgt := 11) hx hb dX4_isIn_7 (by decide) ?_
    exact k_X4_isIn_b11 hx hb hr hml hown hts hlocks hin hE hA _ _ _ _ hrun hR hz hS (lv_sub hl [] rfl)
abbrev rm_X4_dayOf : Room := { frames := 0, cells := 0, slots := 0, locals := 0 }
theorem yk_X4_dayOf : m_K yX4_dayOf cX4_dayOf 1 (some .int) 1 := ⟨wm_0_218, wm_0_8, by decide +kernel⟩
theorem ys_X4_dayOf : Cond.static yX4_dayOf ∈ wT := wm_0_217
set_option maxRecDepth 100000 in
set_option maxHeartbeats 4000000 in
theorem c_X4_dayOf (l : Launch) (D : va_G) (ids : m_I3) (st : m_T) (z : Nat) {h : mH} {v0 : Int32} {r : Int32} (hrun : s_X4_dayOf h v0 = some r) : Met l yX4_dayOf (m_ws yX4_dayOf cX4_dayOf 1 (some .int)) rm_X4_dayOf (mPc D ids st [.int v0] h z) (mQi D ids (m_A h z) r h z) rm_X4_dayOf.cells rm_X4_dayOf.slots (m_A h z) := by
  refine mr_of (cc := cX4_dayOf) (maxL := 1) (ret := some .int) (by decide) rfl (Nat.le_of_ble_eq_true rfl) ?_
  intro p e s m below meth c ls hx hb hr hml hown hts hlocks hin hR hE hz hl
  have hA : ∀ q, s.heap.size ≤ q → m_A h z q := fun q hq => Or.inr (by rw [← hz]; exact hq)
  have hS : va_S (m_A h z) s.heap s.heap [] := va_S.rf
  have hl : lv_has ls 1 [(0, .int v0)] := hl
  unfold s_X4_dayOf at hrun
  refine lv_iload_n hx hb dX4_dayOf_0 rfl (lv_at hl 0 rfl) ?_
  refine lv_bipush (v := 19) hx hb dX4_dayOf_1 (by decide) ?_
  refine lv_ishr hx hb dX4_dayOf_3 ?_
  refine lv_bipush (v := 31) hx hb dX4_dayOf_4 (by decide) ?_
  refine lv_iand hx hb dX4_dayOf_6 ?_
  cases hrun
  exact mr_iret hx hb hr hlocks hR hz hS dX4_dayOf_7
abbrev rm_X4_minuteOf : Room := { frames := 0, cells := 0, slots := 0, locals := 0 }
theorem yk_X4_minuteOf : m_K yX4_minuteOf cX4_minuteOf 1 (some .int) 1 := ⟨wm_0_221, wm_0_8, by decide +kernel⟩
theorem ys_X4_minuteOf : Cond.static yX4_minuteOf ∈ wT := wm_0_220
set_option maxRecDepth 100000 in
set_option maxHeartbeats 4000000 in
theorem c_X4_minuteOf (l : Launch) (D : va_G) (ids : m_I3) (st : m_T) (z : Nat) {h : mH} {v0 : Int32} {r : Int32} (hrun : s_X4_minuteOf h v0 = some r) : Met l yX4_minuteOf (m_ws yX4_minuteOf cX4_minuteOf 1 (some .int)) rm_X4_minuteOf (mPc D ids st [.int v0] h z) (mQi D ids (m_A h z) r h z) rm_X4_minuteOf.cells rm_X4_minuteOf.slots (m_A h z) := by
  refine mr_of (cc := cX4_minuteOf) (maxL := 1) (ret := some .int) (by decide) rfl (Nat.le_of_ble_eq_true rfl) ?_
  intro p e s m below meth c ls hx hb hr hml hown hts hlocks hin hR hE hz hl
  have hA : ∀ q, s.heap.size ≤ q → m_A h z q := fun q hq => Or.inr (by rw [← hz]; exact hq)
  have hS : va_S (m_A h z) s.heap s.heap [] := va_S.rf
  have hl : lv_has ls 1 [(0, .int v0)] := hl
  unfold s_X4_minuteOf at hrun
  refine lv_iload_n hx hb dX4_minuteOf_0 rfl (lv_at hl 0 rfl) ?_
  refine lv_bipush (v := 8) hx hb dX4_minuteOf_1 (by decide) ?_
  refine lv_ishr hx hb dX4_minuteOf_3 ?_
  refine lv_sipush (v := 2047) hx hb dX4_minuteOf_4 (by decide) ?_
  refine lv_iand hx hb dX4_minuteOf_7 ?_
  cases hrun
  exact mr_iret hx hb hr hlocks hR hz hS dX4_minuteOf_8
abbrev rm_X0_isRide : Room := { frames := 1, cells := 0, slots := 0, locals := 20 }
theorem yk_X0_isRide : m_K yX0_isRide cX0_isRide 3 (some .boolean) 3 := ⟨wm_0_212, wm_0_5, by decide +kernel⟩
theorem ys_X0_isRide : Cond.static yX0_isRide ∈ wT := wm_0_211
set_option maxRecDepth 100000 in
set_option maxHeartbeats 4000000 in
theorem k_X0_isRide_b43 {p : Program} {l : Launch} {e : Env} {s : State} {m : MethodId} {args : Array Value} {below : List Frame} {meth : Method} {c : Code} {D : va_G} {ids : m_I3} {st : m_T} {A : Nat → Prop} {z : Nat} {r : Int32} (hx : p.tables.exec = Jvm.exec) (hb : c.code = cX0_isRide) (hr : meth.sig.returnType = some .boolean) (hml : c.maxLocals = 3) (hown : s.vm.findClass RX0 = some m.cls) (hts : ∀ w ∈ (m_ws yX0_isRide cX0_isRide 3 (some .boolean)), w.before args s = true) (hlocks : meth.locks = false) (hin : meth.name = yX0_isRide.name) (hE : m_EV st A s s.heap) (hA : ∀ q, s.heap.size ≤ q → A q) {h : mH} (t0 : Int32) (H : Heap) (locs : List Loc) (ls : Array Slot) (hrun : s_X0_isRide_b43 h t0 = some r) (hR : Rl D ids A h s H) (hz : H.size = z) (hS : va_S A s.heap H locs) (hl : lv_has ls 3 []) : W p l e rm_X0_isRide s m args below meth c H locs 0 0 (MQ below (mQi D ids A r h z) args s 0 0 A) (F0 m 43 ls [.int t0]) := by
  unfold s_X0_isRide_b43 at hrun
  obtain ⟨w9, hc9, hrun⟩ := m_bind hrun
  cases hrun
  exact mr_zret hc9 hx hb hr hlocks hR hz hS dX0_isRide_43
set_option maxRecDepth 100000 in
set_option maxHeartbeats 4000000 in
theorem k_X0_isRide_b42 {p : Program} {l : Launch} {e : Env} {s : State} {m : MethodId} {args : Array Value} {below : List Frame} {meth : Method} {c : Code} {D : va_G} {ids : m_I3} {st : m_T} {A : Nat → Prop} {z : Nat} {r : Int32} (hx : p.tables.exec = Jvm.exec) (hb : c.code = cX0_isRide) (hr : meth.sig.returnType = some .boolean) (hml : c.maxLocals = 3) (hown : s.vm.findClass RX0 = some m.cls) (hts : ∀ w ∈ (m_ws yX0_isRide cX0_isRide 3 (some .boolean)), w.before args s = true) (hlocks : meth.locks = false) (hin : meth.name = yX0_isRide.name) (hE : m_EV st A s s.heap) (hA : ∀ q, s.heap.size ≤ q → A q) {h : mH} (H : Heap) (locs : List Loc) (ls : Array Slot) (hrun : s_X0_isRide_b42 h  = some r) (hR : Rl D ids A h s H) (hz : H.size = z) (hS : va_S A s.heap H locs) (hl : lv_has ls 3 []) : W p l e rm_X0_isRide s m args below meth c H locs 0 0 (MQ below (mQi D ids A r h z) args s 0 0 A) (F0 m 42 ls []) := by
  unfold s_X0_isRide_b42 at hrun
  refine lv_iconst (v := 0) hx hb dX0_isRide_42 (by decide) ?_
  exact k_X0_isRide_b43 hx hb hr hml hown hts hlocks hin hE hA _ _ _ _ hrun hR hz hS (lv_sub hl [] rfl)
set_option maxRecDepth 100000 in
set_option maxHeartbeats 4000000 in
theorem c_X0_isRide (l : Launch) (D : va_G) (ids : m_I3) (st : m_T) (z : Nat) {h : mH} {v0 : Int32} {v1 : Int32} {v2 : Int32} {r : Int32} (hrun : s_X0_isRide h v0 v1 v2 = some r) : Met l yX0_isRide (m_ws yX0_isRide cX0_isRide 3 (some .boolean)) rm_X0_isRide (mPc D ids st [.int v0, .int v1, .int v2] h z) (mQi D ids (m_A h z) r h z) rm_X0_isRide.cells rm_X0_isRide.slots (m_A h z) := by
  refine mr_of (cc := cX0_isRide) (maxL := 3) (ret := some .boolean) (by decide) rfl (Nat.le_of_ble_eq_true rfl) ?_
  intro p e s m below meth c ls hx hb hr hml hown hts hlocks hin hR hE hz hl
  have hA : ∀ q, s.heap.size ≤ q → m_A h z q := fun q hq => Or.inr (by rw [← hz]; exact hq)
  have hS : va_S (m_A h z) s.heap s.heap [] := va_S.rf
  have hl : lv_has ls 3 [(0, .int v0), (1, .int v1), (2, .int v2)] := hl
  unfold s_X0_isRide at hrun
  refine lv_iload_n hx hb dX0_isRide_0 rfl (lv_at hl 0 rfl) ?_
  obtain ⟨x1, hc9, hrun⟩ := m_bind hrun
  refine mr_calli (mr_runS (As := [.int v0]) (rest := []) hx hb hml hown hts (c_X4_isIn l D ids st z hc9) yk_X4_isIn ys_X4_isIn wm_0_213 ⟨(Nat.le_of_ble_eq_true rfl), (Nat.le_of_ble_eq_true rfl)⟩ (mr_recvS hR hE hz hS hA) hl.1 rfl (Nat.le_of_ble_eq_true rfl) dX0_isRide_1 ⟨(Nat.le_of_ble_eq_true rfl), (Nat.le_of_ble_eq_true rfl)⟩) hR hz hS hA (fun H locs hR hz hS => ?_)
  refine lv_if_eq (tgt := 42) hx hb dX0_isRide_4 (by decide) (fun hc => ?_) (fun hc => ?_)
  · have hrun := mt_t hrun hc
    exact k_X0_isRide_b42 hx hb hr hml hown hts hlocks hin hE hA _ _ _ hrun hR hz hS (lv_sub hl [] rfl)
  · have hrun := mt_f hrun hc
    refine lv_iload_n hx hb dX0_isRide_7 rfl (lv_at hl 1 rfl) ?_
    obtain ⟨x8, hc9, hrun⟩ := m_bind hrun
    refine mr_calli (mr_runS (As := [.int v1]) (rest := []) hx hb hml hown hts (c_X4_isIn l D ids st z hc9) yk_X4_isIn ys_X4_isIn wm_0_213 ⟨(Nat.le_of_ble_eq_true rfl), (Nat.le_of_ble_eq_true rfl)⟩ (mr_recvS hR hE hz hS hA) hl.1 rfl (Nat.le_of_ble_eq_true rfl) dX0_isRide_8 ⟨(Nat.le_of_ble_eq_true rfl), (Nat.le_of_ble_eq_true rfl)⟩) hR hz hS hA (fun H locs hR hz hS => ?_)
    refine lv_if_ne (tgt := 42) hx hb dX0_isRide_11 (by decide) (fun hc => ?_) (fun hc => ?_)
    · have hrun := mt_f hrun hc
      exact k_X0_isRide_b42 hx hb hr hml hown hts hlocks hin hE hA _ _ _ hrun hR hz hS (lv_sub hl [] rfl)
    · have hrun := mt_t hrun hc
      refine lv_iload_n hx hb dX0_isRide_14 rfl (lv_at hl 0 rfl) ?_
      obtain ⟨x15, hc9, hrun⟩ := m_bind hrun
      refine mr_calli (mr_runS (As := [.int v0]) (rest := []) hx hb hml hown hts (c_X4_dayOf l D ids st z hc9) yk_X4_dayOf ys_X4_dayOf wm_0_216 ⟨(Nat.le_of_ble_eq_true rfl), (Nat.le_of_ble_eq_true rfl)⟩ (mr_recvS hR hE hz hS hA) hl.1 rfl (Nat.le_of_ble_eq_true rfl) dX0_isRide_15 ⟨(Nat.le_of_ble_eq_true rfl), (Nat.le_of_ble_eq_true rfl)⟩) hR hz hS hA (fun H locs hR hz hS => ?_)
      refine lv_iload_n hx hb dX0_isRide_18 rfl (lv_at hl 1 rfl) ?_
      obtain ⟨x19, hc9, hrun⟩ := m_bind hrun
      refine mr_calli (mr_runS (As := [.int v1]) (rest := [.int x15]) hx hb hml hown hts (c_X4_dayOf l D ids st z hc9) yk_X4_dayOf ys_X4_dayOf wm_0_216 ⟨(Nat.le_of_ble_eq_true rfl), (Nat.le_of_ble_eq_true rfl)⟩ (mr_recvS hR hE hz hS hA) hl.1 rfl (Nat.le_of_ble_eq_true rfl) dX0_isRide_19 ⟨(Nat.le_of_ble_eq_true rfl), (Nat.le_of_ble_eq_true rfl)⟩) hR hz hS hA (fun H locs hR hz hS => ?_)
      refine lv_icmp_ne (tgt := 42) hx hb dX0_isRide_22 (by decide) (fun hc => ?_) (fun hc => ?_)
      · have hrun := mt_f hrun hc
        exact k_X0_isRide_b42 hx hb hr hml hown hts hlocks hin hE hA _ _ _ hrun hR hz hS (lv_sub hl [] rfl)
      · have hrun := mt_t hrun hc
        refine lv_iload_n hx hb dX0_isRide_25 rfl (lv_at hl 1 rfl) ?_
        obtain ⟨x26, hc9, hrun⟩ := m_bind hrun
        refine mr_calli (mr_runS (As := [.int v1]) (rest := []) hx hb hml hown hts (c_X4_minuteOf l D ids st z hc9) yk_X4_minuteOf ys_X4_minuteOf wm_0_219 ⟨(Nat.le_of_ble_eq_true rfl), (Nat.le_of_ble_eq_true rfl)⟩ (mr_recvS hR hE hz hS hA) hl.1 rfl (Nat.le_of_ble_eq_true rfl) dX0_isRide_26 ⟨(Nat.le_of_ble_eq_true rfl), (Nat.le_of_ble_eq_true rfl)⟩) hR hz hS hA (fun H locs hR hz hS => ?_)
        refine lv_iload_n hx hb dX0_isRide_29 rfl (lv_at hl 0 rfl) ?_
        obtain ⟨x30, hc9, hrun⟩ := m_bind hrun
        refine mr_calli (mr_runS (As := [.int v0]) (rest := [.int x26]) hx hb hml hown hts (c_X4_minuteOf l D ids st z hc9) yk_X4_minuteOf ys_X4_minuteOf wm_0_219 ⟨(Nat.le_of_ble_eq_true rfl), (Nat.le_of_ble_eq_true rfl)⟩ (mr_recvS hR hE hz hS hA) hl.1 rfl (Nat.le_of_ble_eq_true rfl) dX0_isRide_30 ⟨(Nat.le_of_ble_eq_true rfl), (Nat.le_of_ble_eq_true rfl)⟩) hR hz hS hA (fun H locs hR hz hS => ?_)
        refine lv_isub hx hb dX0_isRide_33 ?_
        refine lv_iload_n hx hb dX0_isRide_34 rfl (lv_at hl 2 rfl) ?_
        refine lv_icmp_gt (tgt := 42) hx hb dX0_isRide_35 (by decide) (fun hc => ?_) (fun hc => ?_)
        · have hrun := mt_t hrun hc
          exact k_X0_isRide_b42 hx hb hr hml hown hts hlocks hin hE hA _ _ _ hrun hR hz hS (lv_sub hl [] rfl)
        · have hrun := mt_f hrun hc
          refine lv_iconst (v := 1) hx hb dX0_isRide_38 (by decide) ?_
          refine lv_goto (tgt := 43) hx hb dX0_isRide_39 (by decide) ?_
          exact k_X0_isRide_b43 hx hb hr hml hown hts hlocks hin hE hA _ _ _ _ hrun hR hz hS (lv_sub hl [] rfl)
abbrev rm_X1_put : Room := { frames := 0, cells := 0, slots := 0, locals := 0 }
theorem yk_X1_put : m_K yX1_put cX1_put 3 (none) 3 := ⟨wm_0_224, wm_0_4, by decide +kernel⟩
theorem ys_X1_put : Cond.static yX1_put ∈ wT := wm_0_223
set_option maxRecDepth 100000 in
set_option maxHeartbeats 4000000 in
theorem k_X1_put_b14 {p : Program} {l : Launch} {e : Env} {s : State} {m : MethodId} {args : Array Value} {below : List Frame} {meth : Method} {c : Code} {D : va_G} {ids : m_I3} {st : m_T} {A : Nat → Prop} {z : Nat} {hF : mH} (hx : p.tables.exec = Jvm.exec) (hb : c.code = cX1_put) (hr : meth.sig.returnType = none) (hml : c.maxLocals = 3) (hown : s.vm.findClass RX1 = some m.cls) (hts : ∀ w ∈ (m_ws yX1_put cX1_put 3 (none)), w.before args s = true) (hlocks : meth.locks = false) (hin : meth.name = yX1_put.name) (hE : m_EV st A s s.heap) (hA : ∀ q, s.heap.size ≤ q → A q) (h : mH) (H : Heap) (locs : List Loc) (ls : Array Slot) (hrun : s_X1_put_b14 h = some hF) (hR : Rl D ids A h s H) (hz : H.size = z) (hS : va_S A s.heap H locs) (hl : lv_has ls 3 []) : W p l e rm_X1_put s m args below meth c H locs 0 0 (MQ below (mQv D ids A hF z) args s 0 0 A) (F0 m 14 ls []) := by
  unfold s_X1_put_b14 at hrun
  cases hrun
  exact mr_vret hx hb hr hlocks hR hz hS dX1_put_14
set_option maxRecDepth 100000 in
set_option maxHeartbeats 4000000 in
theorem c_X1_put (l : Launch) (D : va_G) (ids : m_I3) (st : m_T) (z : Nat) {h : mH} {v0 : Nat} {v1 : Int32} {v2 : Int32} {hF : mH} (hrun : s_X1_put h v0 v1 v2 = some hF) : Met l yX1_put (m_ws yX1_put cX1_put 3 (none)) rm_X1_put (mPc D ids st [.ref v0, .int v1, .int v2] h z) (mQv D ids (m_A h z) hF z) rm_X1_put.cells rm_X1_put.slots (m_A h z) := by
  refine mr_of (cc := cX1_put) (maxL := 3) (ret := none) (by decide) rfl (Nat.le_of_ble_eq_true rfl) ?_
  intro p e s m below meth c ls hx hb hr hml hown hts hlocks hin hR hE hz hl
  have hA : ∀ q, s.heap.size ≤ q → m_A h z q := fun q hq => Or.inr (by rw [← hz]; exact hq)
  have hS : va_S (m_A h z) s.heap s.heap [] := va_S.rf
  have hl : lv_has ls 3 [(0, .ref v0), (1, .int v1), (2, .int v2)] := hl
  unfold s_X1_put at hrun
  refine lv_iload_n hx hb dX1_put_0 rfl (lv_at hl 1 rfl) ?_
  refine lv_if_lt (tgt := 14) hx hb dX1_put_1 (by decide) (fun hc => ?_) (fun hc => ?_)
  · have hrun := mt_t hrun hc
    exact k_X1_put_b14 hx hb hr hml hown hts hlocks hin hE hA _ _ _ _ hrun hR hz hS (lv_sub hl [] rfl)
  · have hrun := mt_f hrun hc
    refine lv_iload_n hx hb dX1_put_4 rfl (lv_at hl 1 rfl) ?_
    refine lv_aload_n hx hb dX1_put_5 rfl (lv_at hl 0 rfl) ?_
    obtain ⟨x6, hc9, hrun⟩ := m_bind hrun
    refine mr_ilen hx hb hR hc9 dX1_put_6 ?_
    refine lv_icmp_ge (tgt := 14) hx hb dX1_put_7 (by decide) (fun hc => ?_) (fun hc => ?_)
    · have hrun := mt_t hrun hc
      exact k_X1_put_b14 hx hb hr hml hown hts hlocks hin hE hA _ _ _ _ hrun hR hz hS (lv_sub hl [] rfl)
    · have hrun := mt_f hrun hc
      refine lv_aload_n hx hb dX1_put_10 rfl (lv_at hl 0 rfl) ?_
      refine lv_iload_n hx hb dX1_put_11 rfl (lv_at hl 1 rfl) ?_
      refine lv_iload_n hx hb dX1_put_12 rfl (lv_at hl 2 rfl) ?_
      obtain ⟨h13, hc9, hrun⟩ := m_bind hrun
      refine mr_iast hx hb hR hz hS hc9 dX1_put_13 (fun H locs hR hz hS => ?_)
      exact k_X1_put_b14 hx hb hr hml hown hts hlocks hin hE hA _ _ _ _ hrun hR hz hS (lv_sub hl [] rfl)
abbrev rm_X1_raise : Room := { frames := 1, cells := 0, slots := 0, locals := 22 }
theorem yk_X1_raise : m_K yX1_raise cX1_raise 3 (none) 3 := ⟨wm_1_7, wm_0_4, by decide +kernel⟩
theorem ys_X1_raise : Cond.static yX1_raise ∈ wT := wm_1_6
set_option maxRecDepth 100000 in
set_option maxHeartbeats 4000000 in
theorem c_X1_raise (l : Launch) (D : va_G) (ids : m_I3) (st : m_T) (z : Nat) {h : mH} {v0 : Nat} {v1 : Int32} {v2 : Int32} {hF : mH} (hrun : s_X1_raise h v0 v1 v2 = some hF) : Met l yX1_raise (m_ws yX1_raise cX1_raise 3 (none)) rm_X1_raise (mPc D ids st [.ref v0, .int v1, .int v2] h z) (mQv D ids (m_A h z) hF z) rm_X1_raise.cells rm_X1_raise.slots (m_A h z) := by
  refine mr_of (cc := cX1_raise) (maxL := 3) (ret := none) (by decide) rfl (Nat.le_of_ble_eq_true rfl) ?_
  intro p e s m below meth c ls hx hb hr hml hown hts hlocks hin hR hE hz hl
  have hA : ∀ q, s.heap.size ≤ q → m_A h z q := fun q hq => Or.inr (by rw [← hz]; exact hq)
  have hS : va_S (m_A h z) s.heap s.heap [] := va_S.rf
  have hl : lv_has ls 3 [(0, .ref v0), (1, .int v1), (2, .int v2)] := hl
  unfold s_X1_raise at hrun
  refine lv_aload_n hx hb dX1_raise_0 rfl (lv_at hl 0 rfl) ?_
  refine lv_iload_n hx hb dX1_raise_1 rfl (lv_at hl 1 rfl) ?_
  refine lv_aload_n hx hb dX1_raise_2 rfl (lv_at hl 0 rfl) ?_
  refine lv_iload_n hx hb dX1_raise_3 rfl (lv_at hl 1 rfl) ?_
  obtain ⟨x4, hc9, hrun⟩ := m_bind hrun
  refine mr_calli (mr_runS (As := [.ref v0, .int v1]) (rest := [.int v1, .ref v0]) hx hb hml hown hts (c_X1_at l D ids st z hc9) yk_X1_at ys_X1_at wm_1_8 ⟨(Nat.le_of_ble_eq_true rfl), (Nat.le_of_ble_eq_true rfl)⟩ (mr_recvS hR hE hz hS hA) hl.1 rfl (Nat.le_of_ble_eq_true rfl) dX1_raise_4 ⟨(Nat.le_of_ble_eq_true rfl), (Nat.le_of_ble_eq_true rfl)⟩) hR hz hS hA (fun H locs hR hz hS => ?_)
  refine lv_iload_n hx hb dX1_raise_7 rfl (lv_at hl 2 rfl) ?_
  refine lv_iadd hx hb dX1_raise_8 ?_
  obtain ⟨h9, hc9, hrun⟩ := m_bind hrun
  refine mr_callv (mr_runS (As := [.ref v0, .int v1, .int (x4 + v2)]) (rest := []) hx hb hml hown hts (c_X1_put l D ids st z hc9) yk_X1_put ys_X1_put wm_1_9 ⟨(Nat.le_of_ble_eq_true rfl), (Nat.le_of_ble_eq_true rfl)⟩ (mr_recvS hR hE hz hS hA) hl.1 rfl (Nat.le_of_ble_eq_true rfl) dX1_raise_9 ⟨(Nat.le_of_ble_eq_true rfl), (Nat.le_of_ble_eq_true rfl)⟩) hR hz hS hA (fun H locs hR hz hS => ?_)
  cases hrun
  exact mr_vret hx hb hr hlocks hR hz hS dX1_raise_12
abbrev rm_X1_copy : Room := { frames := 0, cells := 0, slots := 0, locals := 0 }
theorem yk_X1_copy : m_K yX1_copy cX1_copy 3 (none) 2 := ⟨wm_0_52, wm_0_4, by decide +kernel⟩
theorem ys_X1_copy : Cond.static yX1_copy ∈ wT := wm_0_51
set_option maxRecDepth 100000 in
set_option maxHeartbeats 4000000 in
theorem k_X1_copy_b26 {p : Program} {l : Launch} {e : Env} {s : State} {m : MethodId} {args : Array Value} {below : List Frame} {meth : Method} {c : Code} {D : va_G} {ids : m_I3} {st : m_T} {A : Nat → Prop} {z : Nat} {hF : mH} (hx : p.tables.exec = Jvm.exec) (hb : c.code = cX1_copy) (hr : meth.sig.returnType = none) (hml : c.maxLocals = 3) (hown : s.vm.findClass RX1 = some m.cls) (hts : ∀ w ∈ (m_ws yX1_copy cX1_copy 3 (none)), w.before args s = true) (hlocks : meth.locks = false) (hin : meth.name = yX1_copy.name) (hE : m_EV st A s s.heap) (hA : ∀ q, s.heap.size ≤ q → A q) (h : mH) (H : Heap) (locs : List Loc) (ls : Array Slot) (hrun : s_X1_copy_b26 h = some hF) (hR : Rl D ids A h s H) (hz : H.size = z) (hS : va_S A s.heap H locs) (hl : lv_has ls 3 []) : W p l e rm_X1_copy s m args below meth c H locs 0 0 (MQ below (mQv D ids A hF z) args s 0 0 A) (F0 m 26 ls []) := by
  unfold s_X1_copy_b26 at hrun
  cases hrun
  exact mr_vret hx hb hr hlocks hR hz hS dX1_copy_26
set_option maxRecDepth 100000 in
set_option maxHeartbeats 4000000 in
theorem k_X1_copy_L2 {p : Program} {l : Launch} {e : Env} {s : State} {m : MethodId} {args : Array Value} {below : List Frame} {meth : Method} {c : Code} {D : va_G} {ids : m_I3} {st : m_T} {A : Nat → Prop} {z : Nat} {hF : mH} (hx : p.tables.exec = Jvm.exec) (hb : c.code = cX1_copy) (hr : meth.sig.returnType = none) (hml : c.maxLocals = 3) (hown : s.vm.findClass RX1 = some m.cls) (hts : ∀ w ∈ (m_ws yX1_copy cX1_copy 3 (none)), w.before args s = true) (hlocks : meth.locks = false) (hin : meth.name = yX1_copy.name) (hE : m_EV st A s s.heap) (hA : ∀ q, s.heap.size ≤ q → A q) : ∀ (n : Nat) (h : mH) (v0 : Nat) (v1 : Nat) (v2 : Int32) (H : Heap) (locs : List Loc) (ls : Array Slot), s_X1_copy_L2 n h v0 v1 v2 = some hF → Rl D ids A h s H → H.size = z → va_S A s.heap H locs → lv_has ls 3 [(0, .ref v0), (1, .ref v1), (2, .int v2)] → W p l e rm_X1_copy s m args below meth c H locs 0 0 (MQ below (mQv D ids A hF z) args s 0 0 A) (F0 m 2 ls []) := by
  intro n
  induction n with
  | zero => intro h v0 v1 v2 H locs ls hrun; exact absurd hrun (by intro h9; cases h9)
  | succ n ih =>
    intro h v0 v1 v2 H locs ls hrun hR hz hS hl
    rw [s_X1_copy_L2] at hrun
    refine lv_iload_n hx hb dX1_copy_2 rfl (lv_at hl 2 rfl) ?_
    refine lv_aload_n hx hb dX1_copy_3 rfl (lv_at hl 0 rfl) ?_
    obtain ⟨x4, hc9, hrun⟩ := m_bind hrun
    refine mr_ilen hx hb hR hc9 dX1_copy_4 ?_
    refine lv_icmp_ge (tgt := 26) hx hb dX1_copy_5 (by decide) (fun hc => ?_) (fun hc => ?_)
    · have hrun := mt_t hrun hc
      exact k_X1_copy_b26 hx hb hr hml hown hts hlocks hin hE hA _ _ _ _ hrun hR hz hS (lv_sub hl [] rfl)
    · have hrun := mt_f hrun hc
      refine lv_iload_n hx hb dX1_copy_8 rfl (lv_at hl 2 rfl) ?_
      refine lv_aload_n hx hb dX1_copy_9 rfl (lv_at hl 1 rfl) ?_
      obtain ⟨x10, hc9, hrun⟩ := m_bind hrun
      refine mr_ilen hx hb hR hc9 dX1_copy_10 ?_
      refine lv_icmp_ge (tgt := 26) hx hb dX1_copy_11 (by decide) (fun hc => ?_) (fun hc => ?_)
      · have hrun := mt_t hrun hc
        exact k_X1_copy_b26 hx hb hr hml hown hts hlocks hin hE hA _ _ _ _ hrun hR hz hS (lv_sub hl [] rfl)
      · have hrun := mt_f hrun hc
        refine lv_aload_n hx hb dX1_copy_14 rfl (lv_at hl 1 rfl) ?_
        refine lv_iload_n hx hb dX1_copy_15 rfl (lv_at hl 2 rfl) ?_
        refine lv_aload_n hx hb dX1_copy_16 rfl (lv_at hl 0 rfl) ?_
        refine lv_iload_n hx hb dX1_copy_17 rfl (lv_at hl 2 rfl) ?_
        obtain ⟨x18, hc9, hrun⟩ := m_bind hrun
        refine mr_iald hx hb hR hc9 dX1_copy_18 ?_
        obtain ⟨h19, hc9, hrun⟩ := m_bind hrun
        refine mr_iast hx hb hR hz hS hc9 dX1_copy_19 (fun H locs hR hz hS => ?_)
        refine lv_iinc (v := v2 + 1) (lv' := [(2, .int (v2 + 1)), (0, .ref v0), (1, .ref v1)]) hx hb dX1_copy_20 hl (k := 2) rfl rfl (by decide) rfl (fun ls hl => ?_)
        refine lv_goto (tgt := 2) hx hb dX1_copy_23 (by decide) ?_
        exact ih _ _ _ _ _ _ _ hrun hR hz hS (lv_sub hl [1, 2, 0] rfl)
set_option maxRecDepth 100000 in
set_option maxHeartbeats 4000000 in
theorem c_X1_copy (l : Launch) (D : va_G) (ids : m_I3) (st : m_T) (z : Nat) {h : mH} {v0 : Nat} {v1 : Nat} {hF : mH} (hrun : s_X1_copy h v0 v1 = some hF) : Met l yX1_copy (m_ws yX1_copy cX1_copy 3 (none)) rm_X1_copy (mPc D ids st [.ref v0, .ref v1] h z) (mQv D ids (m_A h z) hF z) rm_X1_copy.cells rm_X1_copy.slots (m_A h z) := by
  refine mr_of (cc := cX1_copy) (maxL := 3) (ret := none) (by decide) rfl (Nat.le_of_ble_eq_true rfl) ?_
  intro p e s m below meth c ls hx hb hr hml hown hts hlocks hin hR hE hz hl
  have hA : ∀ q, s.heap.size ≤ q → m_A h z q := fun q hq => Or.inr (by rw [← hz]; exact hq)
  have hS : va_S (m_A h z) s.heap s.heap [] := va_S.rf
  have hl : lv_has ls 3 [(0, .ref v0), (1, .ref v1)] := hl
  unfold s_X1_copy at hrun
  refine lv_iconst (v := 0) hx hb dX1_copy_0 (by decide) ?_
  refine lv_istore_n (lv' := [(2, .int 0), (0, .ref v0), (1, .ref v1)]) hx hb dX1_copy_1 rfl hl (by decide) rfl (fun ls hl => ?_)
  exact k_X1_copy_L2 hx hb hr hml hown hts hlocks hin hE hA _ _ _ _ _ _ _ _ hrun hR hz hS (lv_sub hl [1, 2, 0] rfl)
abbrev rm_X1_sum : Room := { frames := 0, cells := 0, slots := 0, locals := 0 }
theorem yk_X1_sum : m_K yX1_sum cX1_sum 6 (some .int) 1 := ⟨wm_1_109, wm_0_4, by decide +kernel⟩
theorem ys_X1_sum : Cond.static yX1_sum ∈ wT := wm_1_108
set_option maxRecDepth 100000 in
set_option maxHeartbeats 4000000 in
theorem k_X1_sum_L10 {p : Program} {l : Launch} {e : Env} {s : State} {m : MethodId} {args : Array Value} {below : List Frame} {meth : Method} {c : Code} {D : va_G} {ids : m_I3} {st : m_T} {A : Nat → Prop} {z : Nat} {r : Int32} (hx : p.tables.exec = Jvm.exec) (hb : c.code = cX1_sum) (hr : meth.sig.returnType = some .int) (hml : c.maxLocals = 6) (hown : s.vm.findClass RX1 = some m.cls) (hts : ∀ w ∈ (m_ws yX1_sum cX1_sum 6 (some .int)), w.before args s = true) (hlocks : meth.locks = false) (hin : meth.name = yX1_sum.name) (hE : m_EV st A s s.heap) (hA : ∀ q, s.heap.size ≤ q → A q) {h : mH} : ∀ (n : Nat) (v1 : Int32) (v2 : Nat) (v3 : Int32) (v4 : Int32) (H : Heap) (locs : List Loc) (ls : Array Slot), s_X1_sum_L10 h n v1 v2 v3 v4 = some r → Rl D ids A h s H → H.size = z → va_S A s.heap H locs → lv_has ls 6 [(1, .int v1), (2, .ref v2), (3, .int v3), (4, .int v4)] → W p l e rm_X1_sum s m args below meth c H locs 0 0 (MQ below (mQi D ids A r h z) args s 0 0 A) (F0 m 10 ls []) := by
  intro n
  induction n with
  | zero => intro v1 v2 v3 v4 H locs ls hrun; exact absurd hrun (by intro h9; cases h9)
  | succ n ih =>
    intro v1 v2 v3 v4 H locs ls hrun hR hz hS hl
    rw [s_X1_sum_L10] at hrun
    refine lv_iload hx hb dX1_sum_10 (lv_at hl 3 rfl) ?_
    refine lv_iload_n hx hb dX1_sum_12 rfl (lv_at hl 2 rfl) ?_
    refine lv_icmp_ge (tgt := 33) hx hb dX1_sum_13 (by decide) (fun hc => ?_) (fun hc => ?_)
    · have hrun := mt_t hrun hc
      refine lv_iload_n hx hb dX1_sum_33 rfl (lv_at hl 0 rfl) ?_
      cases hrun
      exact mr_iret hx hb hr hlocks hR hz hS dX1_sum_34
    · have hrun := mt_f hrun hc
      refine lv_aload_n hx hb dX1_sum_16 rfl (lv_at hl 1 rfl) ?_
      refine lv_iload hx hb dX1_sum_17 (lv_at hl 3 rfl) ?_
      obtain ⟨x19, hc9, hrun⟩ := m_bind hrun
      refine mr_iald hx hb hR hc9 dX1_sum_19 ?_
      refine lv_istore (lv' := [(5, .int x19), (1, .int v1), (2, .ref v2), (3, .int v3), (4, .int v4)]) hx hb dX1_sum_20 hl (by decide) rfl (fun ls hl => ?_)
      refine lv_iload_n hx hb dX1_sum_22 rfl (lv_at hl 1 rfl) ?_
      refine lv_iload hx hb dX1_sum_23 (lv_at hl 0 rfl) ?_
      refine lv_iadd hx hb dX1_sum_25 ?_
      refine lv_istore_n (lv' := [(1, .int (v1 + x19)), (5, .int x19), (2, .ref v2), (3, .int v3), (4, .int v4)]) hx hb dX1_sum_26 rfl hl (by decide) rfl (fun ls hl => ?_)
      refine lv_iinc (v := v4 + 1) (lv' := [(4, .int (v4 + 1)), (1, .int (v1 + x19)), (5, .int x19), (2, .ref v2), (3, .int v3)]) hx hb dX1_sum_27 hl (k := 4) rfl rfl (by decide) rfl (fun ls hl => ?_)
      refine lv_goto (tgt := 10) hx hb dX1_sum_30 (by decide) ?_
      exact ih _ _ _ _ _ _ _ hrun hR hz hS (lv_sub hl [1, 3, 4, 0] rfl)
set_option maxRecDepth 100000 in
set_option maxHeartbeats 4000000 in
theorem c_X1_sum (l : Launch) (D : va_G) (ids : m_I3) (st : m_T) (z : Nat) {h : mH} {v0 : Nat} {r : Int32} (hrun : s_X1_sum h v0 = some r) : Met l yX1_sum (m_ws yX1_sum cX1_sum 6 (some .int)) rm_X1_sum (mPc D ids st [.ref v0] h z) (mQi D ids (m_A h z) r h z) rm_X1_sum.cells rm_X1_sum.slots (m_A h z) := by
  refine mr_of (cc := cX1_sum) (maxL := 6) (ret := some .int) (by decide) rfl (Nat.le_of_ble_eq_true rfl) ?_
  intro p e s m below meth c ls hx hb hr hml hown hts hlocks hin hR hE hz hl
  have hA : ∀ q, s.heap.size ≤ q → m_A h z q := fun q hq => Or.inr (by rw [← hz]; exact hq)
  have hS : va_S (m_A h z) s.heap s.heap [] := va_S.rf
  have hl : lv_has ls 6 [(0, .ref v0)] := hl
  unfold s_X1_sum at hrun
  refine lv_iconst (v := 0) hx hb dX1_sum_0 (by decide) ?_
  refine lv_istore_n (lv' := [(1, .int 0), (0, .ref v0)]) hx hb dX1_sum_1 rfl hl (by decide) rfl (fun ls hl => ?_)
  refine lv_aload_n hx hb dX1_sum_2 rfl (lv_at hl 1 rfl) ?_
  refine lv_astore_n (lv' := [(2, .ref v0), (1, .int 0), (0, .ref v0)]) hx hb dX1_sum_3 rfl hl (by decide) rfl (fun ls hl => ?_)
  refine lv_aload_n hx hb dX1_sum_4 rfl (lv_at hl 0 rfl) ?_
  obtain ⟨x5, hc9, hrun⟩ := m_bind hrun
  refine mr_ilen hx hb hR hc9 dX1_sum_5 ?_
  refine lv_istore_n (lv' := [(3, .int x5), (2, .ref v0), (1, .int 0), (0, .ref v0)]) hx hb dX1_sum_6 rfl hl (by decide) rfl (fun ls hl => ?_)
  refine lv_iconst (v := 0) hx hb dX1_sum_7 (by decide) ?_
  refine lv_istore (lv' := [(4, .int 0), (3, .int x5), (2, .ref v0), (1, .int 0), (0, .ref v0)]) hx hb dX1_sum_8 hl (by decide) rfl (fun ls hl => ?_)
  exact k_X1_sum_L10 hx hb hr hml hown hts hlocks hin hE hA _ _ _ _ _ _ _ _ hrun hR hz hS (lv_sub hl [3, 2, 1, 0] rfl)
abbrev rm_X4_make : Room := { frames := 0, cells := 0, slots := 0, locals := 0 }
theorem yk_X4_make : m_K yX4_make cX4_make 5 (some .int) 5 := ⟨wm_1_74, wm_0_8, by decide +kernel⟩
theorem ys_X4_make : Cond.static yX4_make ∈ wT := wm_1_73
set_option maxRecDepth 100000 in
set_option maxHeartbeats 4000000 in
theorem k_X4_make_b28 {p : Program} {l : Launch} {e : Env} {s : State} {m : MethodId} {args : Array Value} {below : List Frame} {meth : Method} {c : Code} {D : va_G} {ids : m_I3} {st : m_T} {A : Nat → Prop} {z : Nat} {r : Int32} (hx : p.tables.exec = Jvm.exec) (hb : c.code = cX4_make) (hr : meth.sig.returnType = some .int) (hml : c.maxLocals = 5) (hown : s.vm.findClass RX4 = some m.cls) (hts : ∀ w ∈ (m_ws yX4_make cX4_make 5 (some .int)), w.before args s = true) (hlocks : meth.locks = false) (hin : meth.name = yX4_make.name) (hE : m_EV st A s s.heap) (hA : ∀ q, s.heap.size ≤ q → A q) {h : mH} (t0 : Int32) (t1 : Int32) (H : Heap) (locs : List Loc) (ls : Array Slot) (hrun : s_X4_make_b28 h t0 t1 = some r) (hR : Rl D ids A h s H) (hz : H.size = z) (hS : va_S A s.heap H locs) (hl : lv_has ls 5 []) : W p l e rm_X4_make s m args below meth c H locs 0 0 (MQ below (mQi D ids A r h z) args s 0 0 A) (F0 m 28 ls [.int t1, .int t0]) := by
  unfold s_X4_make_b28 at hrun
  refine lv_ior hx hb dX4_make_28 ?_
  cases hrun
  exact mr_iret hx hb hr hlocks hR hz hS dX4_make_29
set_option maxRecDepth 100000 in
set_option maxHeartbeats 4000000 in
theorem c_X4_make (l : Launch) (D : va_G) (ids : m_I3) (st : m_T) (z : Nat) {h : mH} {v0 : Int32} {v1 : Int32} {v2 : Int32} {v3 : Int32} {v4 : Int32} {r : Int32} (hrun : s_X4_make h v0 v1 v2 v3 v4 = some r) : Met l yX4_make (m_ws yX4_make cX4_make 5 (some .int)) rm_X4_make (mPc D ids st [.int v0, .int v1, .int v2, .int v3, .int v4] h z) (mQi D ids (m_A h z) r h z) rm_X4_make.cells rm_X4_make.slots (m_A h z) := by
  refine mr_of (cc := cX4_make) (maxL := 5) (ret := some .int) (by decide) rfl (Nat.le_of_ble_eq_true rfl) ?_
  intro p e s m below meth c ls hx hb hr hml hown hts hlocks hin hR hE hz hl
  have hA : ∀ q, s.heap.size ≤ q → m_A h z q := fun q hq => Or.inr (by rw [← hz]; exact hq)
  have hS : va_S (m_A h z) s.heap s.heap [] := va_S.rf
  have hl : lv_has ls 5 [(0, .int v0), (1, .int v1), (2, .int v2), (3, .int v3), (4, .int v4)] := hl
  unfold s_X4_make at hrun
  refine lv_iload_n hx hb dX4_make_0 rfl (lv_at hl 1 rfl) ?_
  refine lv_bipush (v := 19) hx hb dX4_make_1 (by decide) ?_
  refine lv_ishl hx hb dX4_make_3 ?_
  refine lv_iload_n hx hb dX4_make_4 rfl (lv_at hl 2 rfl) ?_
  refine lv_bipush (v := 8) hx hb dX4_make_5 (by decide) ?_
  refine lv_ishl hx hb dX4_make_7 ?_
  refine lv_ior hx hb dX4_make_8 ?_
  refine lv_iload_n hx hb dX4_make_9 rfl (lv_at hl 0 rfl) ?_
  refine lv_bipush (v := 6) hx hb dX4_make_10 (by decide) ?_
  refine lv_ishl hx hb dX4_make_12 ?_
  refine lv_ior hx hb dX4_make_13 ?_
  refine lv_iload_n hx hb dX4_make_14 rfl (lv_at hl 3 rfl) ?_
  refine lv_iconst (v := 2) hx hb dX4_make_15 (by decide) ?_
  refine lv_ishl hx hb dX4_make_16 ?_
  refine lv_ior hx hb dX4_make_17 ?_
  refine lv_iload hx hb dX4_make_18 (lv_at hl 4 rfl) ?_
  refine lv_if_eq (tgt := 27) hx hb dX4_make_20 (by decide) (fun hc => ?_) (fun hc => ?_)
  · have hrun := mt_t hrun hc
    refine lv_iconst (v := 0) hx hb dX4_make_27 (by decide) ?_
    exact k_X4_make_b28 hx hb hr hml hown hts hlocks hin hE hA _ _ _ _ _ hrun hR hz hS (lv_sub hl [] rfl)
  · have hrun := mt_f hrun hc
    refine lv_iconst (v := 2) hx hb dX4_make_23 (by decide) ?_
    refine lv_goto (tgt := 28) hx hb dX4_make_24 (by decide) ?_
    exact k_X4_make_b28 hx hb hr hml hown hts hlocks hin hE hA _ _ _ _ _ hrun hR hz hS (lv_sub hl [] rfl)
abbrev rm_X4_timeOf : Room := { frames := 0, cells := 0, slots := 0, locals := 0 }
theorem yk_X4_timeOf : m_K yX4_timeOf cX4_timeOf 1 (some .int) 1 := ⟨wm_1_197, wm_0_8, by decide +kernel⟩
theorem ys_X4_timeOf : Cond.static yX4_timeOf ∈ wT := wm_1_196
set_option maxRecDepth 100000 in
set_option maxHeartbeats 4000000 in
theorem c_X4_timeOf (l : Launch) (D : va_G) (ids : m_I3) (st : m_T) (z : Nat) {h : mH} {v0 : Int32} {r : Int32} (hrun : s_X4_timeOf h v0 = some r) : Met l yX4_timeOf (m_ws yX4_timeOf cX4_timeOf 1 (some .int)) rm_X4_timeOf (mPc D ids st [.int v0] h z) (mQi D ids (m_A h z) r h z) rm_X4_timeOf.cells rm_X4_timeOf.slots (m_A h z) := by
  refine mr_of (cc := cX4_timeOf) (maxL := 1) (ret := some .int) (by decide) rfl (Nat.le_of_ble_eq_true rfl) ?_
  intro p e s m below meth c ls hx hb hr hml hown hts hlocks hin hR hE hz hl
  have hA : ∀ q, s.heap.size ≤ q → m_A h z q := fun q hq => Or.inr (by rw [← hz]; exact hq)
  have hS : va_S (m_A h z) s.heap s.heap [] := va_S.rf
  have hl : lv_has ls 1 [(0, .int v0)] := hl
  unfold s_X4_timeOf at hrun
  refine lv_iload_n hx hb dX4_timeOf_0 rfl (lv_at hl 0 rfl) ?_
  refine lv_bipush (v := 8) hx hb dX4_timeOf_1 (by decide) ?_
  refine lv_ishr hx hb dX4_timeOf_3 ?_
  cases hrun
  exact mr_iret hx hb hr hlocks hR hz hS dX4_timeOf_4
abbrev rm_X4_weekOf : Room := { frames := 1, cells := 0, slots := 0, locals := 20 }
theorem yk_X4_weekOf : m_K yX4_weekOf cX4_weekOf 1 (some .int) 1 := ⟨wm_1_201, wm_0_8, by decide +kernel⟩
theorem ys_X4_weekOf : Cond.static yX4_weekOf ∈ wT := wm_1_200
set_option maxRecDepth 100000 in
set_option maxHeartbeats 4000000 in
theorem c_X4_weekOf (l : Launch) (D : va_G) (ids : m_I3) (st : m_T) (z : Nat) {h : mH} {v0 : Int32} {r : Int32} (hrun : s_X4_weekOf h v0 = some r) : Met l yX4_weekOf (m_ws yX4_weekOf cX4_weekOf 1 (some .int)) rm_X4_weekOf (mPc D ids st [.int v0] h z) (mQi D ids (m_A h z) r h z) rm_X4_weekOf.cells rm_X4_weekOf.slots (m_A h z) := by
  refine mr_of (cc := cX4_weekOf) (maxL := 1) (ret := some .int) (by decide) rfl (Nat.le_of_ble_eq_true rfl) ?_
  intro p e s m below meth c ls hx hb hr hml hown hts hlocks hin hR hE hz hl
  have hA : ∀ q, s.heap.size ≤ q → m_A h z q := fun q hq => Or.inr (by rw [← hz]; exact hq)
  have hS : va_S (m_A h z) s.heap s.heap [] := va_S.rf
  have hl : lv_has ls 1 [(0, .int v0)] := hl
  unfold s_X4_weekOf at hrun
  refine lv_iload_n hx hb dX4_weekOf_0 rfl (lv_at hl 0 rfl) ?_
  obtain ⟨x1, hc9, hrun⟩ := m_bind hrun
  refine mr_calli (mr_runS (As := [.int v0]) (rest := []) hx hb hml hown hts (c_X4_dayOf l D ids st z hc9) yk_X4_dayOf ys_X4_dayOf wm_1_202 ⟨(Nat.le_of_ble_eq_true rfl), (Nat.le_of_ble_eq_true rfl)⟩ (mr_recvS hR hE hz hS hA) hl.1 rfl (Nat.le_of_ble_eq_true rfl) dX4_weekOf_1 ⟨(Nat.le_of_ble_eq_true rfl), (Nat.le_of_ble_eq_true rfl)⟩) hR hz hS hA (fun H locs hR hz hS => ?_)
  refine lv_bipush (v := 7) hx hb dX4_weekOf_4 (by decide) ?_
  obtain ⟨x6, hc9, hrun⟩ := m_bind hrun
  obtain ⟨hn9, rfl⟩ := m_div_spec hc9
  refine lv_idiv hx hb dX4_weekOf_6 hn9 ?_
  refine lv_topi (fun x6 ex6 => ?_)
  try rw [← ex6] at hrun
  cases hrun
  exact mr_iret hx hb hr hlocks hR hz hS dX4_weekOf_7
abbrev rm_X5_insert : Room := { frames := 2, cells := 0, slots := 0, locals := 42 }
theorem yk_X5_insert : m_K yX5_insert cX5_insert 3 (some .int) 1 := ⟨wm_1_193, wm_0_3, by decide +kernel⟩
theorem ys_X5_insert : Cond.instanceMethod yX5_insert ∈ wT ∧ Cond.selects RX5 yX5_insert yX5_insert ∈ wT := ⟨wm_1_191, wm_1_192⟩
set_option maxRecDepth 100000 in
set_option maxHeartbeats 4000000 in
theorem k_X5_insert_b61 {p : Program} {l : Launch} {e : Env} {s : State} {m : MethodId} {args : Array Value} {below : List Frame} {meth : Method} {c : Code} {D : va_G} {ids : m_I3} {st : m_T} {A : Nat → Prop} {z : Nat} {r : Int32} {hF : mH} (hx : p.tables.exec = Jvm.exec) (hb : c.code = cX5_insert) (hr : meth.sig.returnType = some .int) (hml : c.maxLocals = 3) (hown : s.vm.findClass RX5 = some m.cls) (hts : ∀ w ∈ (m_ws yX5_insert cX5_insert 3 (some .int)), w.before args s = true) (hlocks : meth.locks = false) (hin : meth.name = yX5_insert.name) (hE : m_EV st A s s.heap) (hA : ∀ q, s.heap.size ≤ q → A q) (h : mH) (v0 : Nat) (v1 : Int32) (v2 : Int32) (H : Heap) (locs : List Loc) (ls : Array Slot) (hrun : s_X5_insert_b61 h v0 v1 v2 = some (r, hF)) (hR : Rl D ids A h s H) (hz : H.size = z) (hS : va_S A s.heap H locs) (hl : lv_has ls 3 [(0, .ref v0), (1, .int v1), (2, .int v2)]) : W p l e rm_X5_insert s m args below meth c H locs 0 0 (MQ below (mQi D ids A r hF z) args s 0 0 A) (F0 m 61 ls []) := by
  unfold s_X5_insert_b61 at hrun
  refine lv_aload_n hx hb dX5_insert_61 rfl (lv_at hl 0 rfl) ?_
  obtain ⟨x62, hc9, hrun⟩ := m_bind hrun
  refine mr_get (C := RX5) (T := TX5) (N := 2) (ci := 3) hx hb hts (fun w q => m_ws_in (wi_X5 w q)) hown hR rfl 0 (by decide) (hts _ (m_ws_in wm_0_38)) (fun _ h9 => h9) (m_gr_spec hc9) dX5_insert_62 ?_
  refine lv_iload_n hx hb dX5_insert_65 rfl (lv_at hl 2 rfl) ?_
  refine lv_iload_n hx hb dX5_insert_66 rfl (lv_at hl 1 rfl) ?_
  obtain ⟨h67, hc9, hrun⟩ := m_bind hrun
  refine mr_callv (mr_runS (As := [.ref x62, .int v2, .int v1]) (rest := []) hx hb hml hown hts (c_X1_put l D ids st z hc9) yk_X1_put ys_X1_put wm_1_198 ⟨(Nat.le_of_ble_eq_true rfl), (Nat.le_of_ble_eq_true rfl)⟩ (mr_recvS hR hE hz hS hA) hl.1 rfl (Nat.le_of_ble_eq_true rfl) dX5_insert_67 ⟨(Nat.le_of_ble_eq_true rfl), (Nat.le_of_ble_eq_true rfl)⟩) hR hz hS hA (fun H locs hR hz hS => ?_)
  refine lv_aload_n hx hb dX5_insert_70 rfl (lv_at hl 0 rfl) ?_
  refine lv_dup hx hb dX5_insert_71 rfl ?_
  obtain ⟨x72, hc9, hrun⟩ := m_bind hrun
  refine mr_get (C := RX5) (T := TX5) (N := 2) (ci := 3) hx hb hts (fun w q => m_ws_in (wi_X5 w q)) hown hR rfl 1 (by decide) (hts _ (m_ws_in wm_0_39)) (fun _ h9 => h9) (m_gi_spec hc9) dX5_insert_72 ?_
  refine lv_iconst (v := 1) hx hb dX5_insert_75 (by decide) ?_
  refine lv_iadd hx hb dX5_insert_76 ?_
  obtain ⟨h77, hc9, hrun⟩ := m_bind hrun
  refine mr_put (C := RX5) (T := TX5) (N := 2) (ci := 3) hx hb hts (fun w q => m_ws_in (wi_X5 w q)) tyX5 tyX5_ok nmX5 hown hR hz hS rfl 1 (by decide) (hts _ (m_ws_in wm_0_39)) (fun _ h9 => h9) rfl (tyX5_ok 1 (by decide)) rfl rfl hc9 dX5_insert_77 (fun H locs hR hz hS => ?_)
  refine lv_iload_n hx hb dX5_insert_80 rfl (lv_at hl 2 rfl) ?_
  cases hrun
  exact mr_iret hx hb hr hlocks hR hz hS dX5_insert_81
set_option maxRecDepth 100000 in
set_option maxHeartbeats 4000000 in
theorem k_X5_insert_L19 {p : Program} {l : Launch} {e : Env} {s : State} {m : MethodId} {args : Array Value} {below : List Frame} {meth : Method} {c : Code} {D : va_G} {ids : m_I3} {st : m_T} {A : Nat → Prop} {z : Nat} {r : Int32} {hF : mH} (hx : p.tables.exec = Jvm.exec) (hb : c.code = cX5_insert) (hr : meth.sig.returnType = some .int) (hml : c.maxLocals = 3) (hown : s.vm.findClass RX5 = some m.cls) (hts : ∀ w ∈ (m_ws yX5_insert cX5_insert 3 (some .int)), w.before args s = true) (hlocks : meth.locks = false) (hin : meth.name = yX5_insert.name) (hE : m_EV st A s s.heap) (hA : ∀ q, s.heap.size ≤ q → A q) : ∀ (n : Nat) (h : mH) (v0 : Nat) (v1 : Int32) (v2 : Int32) (H : Heap) (locs : List Loc) (ls : Array Slot), s_X5_insert_L19 n h v0 v1 v2 = some (r, hF) → Rl D ids A h s H → H.size = z → va_S A s.heap H locs → lv_has ls 3 [(0, .ref v0), (1, .int v1), (2, .int v2)] → W p l e rm_X5_insert s m args below meth c H locs 0 0 (MQ below (mQi D ids A r hF z) args s 0 0 A) (F0 m 19 ls []) := by
  intro n
  induction n with
  | zero => intro h v0 v1 v2 H locs ls hrun; exact absurd hrun (by intro h9; cases h9)
  | succ n ih =>
    intro h v0 v1 v2 H locs ls hrun hR hz hS hl
    rw [s_X5_insert_L19] at hrun
    refine lv_iload_n hx hb dX5_insert_19 rfl (lv_at hl 2 rfl) ?_
    refine lv_if_le (tgt := 61) hx hb dX5_insert_20 (by decide) (fun hc => ?_) (fun hc => ?_)
    · have hrun := mt_t hrun hc
      exact k_X5_insert_b61 hx hb hr hml hown hts hlocks hin hE hA _ _ _ _ _ _ _ hrun hR hz hS (lv_sub hl [0, 1, 2] rfl)
    · have hrun := mt_f hrun hc
      refine lv_aload_n hx hb dX5_insert_23 rfl (lv_at hl 0 rfl) ?_
      refine lv_iload_n hx hb dX5_insert_24 rfl (lv_at hl 2 rfl) ?_
      refine lv_iconst (v := 1) hx hb dX5_insert_25 (by decide) ?_
      refine lv_isub hx hb dX5_insert_26 ?_
      obtain ⟨_, ho9, hrun⟩ := m_bind hrun
      obtain ⟨fs9, ho9⟩ := m_is_spec ho9
      obtain ⟨x27, hc9, hrun⟩ := m_bind hrun
      refine mr_calli (mr_runV (As := [.int (v2 - 1)]) (rest := []) hx hb hml hown hts (c_X5_tapAt l D ids st z hc9) yk_X5_tapAt ys_X5_tapAt wm_1_194 ⟨(Nat.le_of_ble_eq_true rfl), (Nat.le_of_ble_eq_true rfl)⟩ (mr_recv (ci := 3) hR hE hz hS hA rfl ho9) hl.1 rfl (Nat.le_of_ble_eq_true rfl) dX5_insert_27 ⟨(Nat.le_of_ble_eq_true rfl), (Nat.le_of_ble_eq_true rfl)⟩) hR hz hS hA (fun H locs hR hz hS => ?_)
      obtain ⟨x30, hc9, hrun⟩ := m_bind hrun
      refine mr_calli (mr_runS (As := [.int x27]) (rest := []) hx hb hml hown hts (c_X4_timeOf l D ids st z hc9) yk_X4_timeOf ys_X4_timeOf wm_1_195 ⟨(Nat.le_of_ble_eq_true rfl), (Nat.le_of_ble_eq_true rfl)⟩ (mr_recvS hR hE hz hS hA) hl.1 rfl (Nat.le_of_ble_eq_true rfl) dX5_insert_30 ⟨(Nat.le_of_ble_eq_true rfl), (Nat.le_of_ble_eq_true rfl)⟩) hR hz hS hA (fun H locs hR hz hS => ?_)
      refine lv_iload_n hx hb dX5_insert_33 rfl (lv_at hl 1 rfl) ?_
      obtain ⟨x34, hc9, hrun⟩ := m_bind hrun
      refine mr_calli (mr_runS (As := [.int v1]) (rest := [.int x30]) hx hb hml hown hts (c_X4_timeOf l D ids st z hc9) yk_X4_timeOf ys_X4_timeOf wm_1_195 ⟨(Nat.le_of_ble_eq_true rfl), (Nat.le_of_ble_eq_true rfl)⟩ (mr_recvS hR hE hz hS hA) hl.1 rfl (Nat.le_of_ble_eq_true rfl) dX5_insert_34 ⟨(Nat.le_of_ble_eq_true rfl), (Nat.le_of_ble_eq_true rfl)⟩) hR hz hS hA (fun H locs hR hz hS => ?_)
      refine lv_icmp_le (tgt := 61) hx hb dX5_insert_37 (by decide) (fun hc => ?_) (fun hc => ?_)
      · have hrun := mt_t hrun hc
        exact k_X5_insert_b61 hx hb hr hml hown hts hlocks hin hE hA _ _ _ _ _ _ _ hrun hR hz hS (lv_sub hl [0, 1, 2] rfl)
      · have hrun := mt_f hrun hc
        refine lv_aload_n hx hb dX5_insert_40 rfl (lv_at hl 0 rfl) ?_
        obtain ⟨x41, hc9, hrun⟩ := m_bind hrun
        refine mr_get (C := RX5) (T := TX5) (N := 2) (ci := 3) hx hb hts (fun w q => m_ws_in (wi_X5 w q)) hown hR rfl 0 (by decide) (hts _ (m_ws_in wm_0_38)) (fun _ h9 => h9) (m_gr_spec hc9) dX5_insert_41 ?_
        refine lv_iload_n hx hb dX5_insert_44 rfl (lv_at hl 2 rfl) ?_
        refine lv_aload_n hx hb dX5_insert_45 rfl (lv_at hl 0 rfl) ?_
        refine lv_iload_n hx hb dX5_insert_46 rfl (lv_at hl 2 rfl) ?_
        refine lv_iconst (v := 1) hx hb dX5_insert_47 (by decide) ?_
        refine lv_isub hx hb dX5_insert_48 ?_
        obtain ⟨_, ho9, hrun⟩ := m_bind hrun
        obtain ⟨fs9, ho9⟩ := m_is_spec ho9
        obtain ⟨x49, hc9, hrun⟩ := m_bind hrun
        refine mr_calli (mr_runV (As := [.int (v2 - 1)]) (rest := [.int v2, .ref x41]) hx hb hml hown hts (c_X5_tapAt l D ids st z hc9) yk_X5_tapAt ys_X5_tapAt wm_1_194 ⟨(Nat.le_of_ble_eq_true rfl), (Nat.le_of_ble_eq_true rfl)⟩ (mr_recv (ci := 3) hR hE hz hS hA rfl ho9) hl.1 rfl (Nat.le_of_ble_eq_true rfl) dX5_insert_49 ⟨(Nat.le_of_ble_eq_true rfl), (Nat.le_of_ble_eq_true rfl)⟩) hR hz hS hA (fun H locs hR hz hS => ?_)
        obtain ⟨h52, hc9, hrun⟩ := m_bind hrun
        refine mr_callv (mr_runS (As := [.ref x41, .int v2, .int x49]) (rest := []) hx hb hml hown hts (c_X1_put l D ids st z hc9) yk_X1_put ys_X1_put wm_1_198 ⟨(Nat.le_of_ble_eq_true rfl), (Nat.le_of_ble_eq_true rfl)⟩ (mr_recvS hR hE hz hS hA) hl.1 rfl (Nat.le_of_ble_eq_true rfl) dX5_insert_52 ⟨(Nat.le_of_ble_eq_true rfl), (Nat.le_of_ble_eq_true rfl)⟩) hR hz hS hA (fun H locs hR hz hS => ?_)
        refine lv_iinc (v := v2 + (-1)) (lv' := [(2, .int (v2 + (-1))), (0, .ref v0), (1, .int v1)]) hx hb dX5_insert_55 hl (k := 2) rfl rfl (by decide) rfl (fun ls hl => ?_)
        refine lv_goto (tgt := 19) hx hb dX5_insert_58 (by decide) ?_
        exact ih _ _ _ _ _ _ _ hrun hR hz hS (lv_sub hl [1, 2, 0] rfl)
set_option maxRecDepth 100000 in
set_option maxHeartbeats 4000000 in
theorem c_X5_insert (l : Launch) (D : va_G) (ids : m_I3) (st : m_T) (z : Nat) {h : mH} {v0 : Nat} {v1 : Int32} {r : Int32} {hF : mH} (hrun : s_X5_insert h v0 v1 = some (r, hF)) : Met l yX5_insert (m_ws yX5_insert cX5_insert 3 (some .int)) rm_X5_insert (mPc D ids st [.ref v0, .int v1] h z) (mQi D ids (m_A h z) r hF z) rm_X5_insert.cells rm_X5_insert.slots (m_A h z) := by
  refine mr_of (cc := cX5_insert) (maxL := 3) (ret := some .int) (by decide) rfl (Nat.le_of_ble_eq_true rfl) ?_
  intro p e s m below meth c ls hx hb hr hml hown hts hlocks hin hR hE hz hl
  have hA : ∀ q, s.heap.size ≤ q → m_A h z q := fun q hq => Or.inr (by rw [← hz]; exact hq)
  have hS : va_S (m_A h z) s.heap s.heap [] := va_S.rf
  have hl : lv_has ls 3 [(0, .ref v0), (1, .int v1)] := hl
  unfold s_X5_insert at hrun
  refine lv_aload_n hx hb dX5_insert_0 rfl (lv_at hl 0 rfl) ?_
  obtain ⟨x1, hc9, hrun⟩ := m_bind hrun
  refine mr_get (C := RX5) (T := TX5) (N := 2) (ci := 3) hx hb hts (fun w q => m_ws_in (wi_X5 w q)) hown hR rfl 1 (by decide) (hts _ (m_ws_in wm_0_39)) (fun _ h9 => h9) (m_gi_spec hc9) dX5_insert_1 ?_
  refine lv_aload_n hx hb dX5_insert_4 rfl (lv_at hl 0 rfl) ?_
  obtain ⟨x5, hc9, hrun⟩ := m_bind hrun
  refine mr_get (C := RX5) (T := TX5) (N := 2) (ci := 3) hx hb hts (fun w q => m_ws_in (wi_X5 w q)) hown hR rfl 0 (by decide) (hts _ (m_ws_in wm_0_38)) (fun _ h9 => h9) (m_gr_spec hc9) dX5_insert_5 ?_
  obtain ⟨x8, hc9, hrun⟩ := m_bind hrun
  refine mr_ilen hx hb hR hc9 dX5_insert_8 ?_
  refine lv_icmp_lt (tgt := 14) hx hb dX5_insert_9 (by decide) (fun hc => ?_) (fun hc => ?_)
  · have hrun := mt_t hrun hc
    refine lv_aload_n hx hb dX5_insert_14 rfl (lv_at hl 0 rfl) ?_
    obtain ⟨x15, hc9, hrun⟩ := m_bind hrun
    refine mr_get (C := RX5) (T := TX5) (N := 2) (ci := 3) hx hb hts (fun w q => m_ws_in (wi_X5 w q)) hown hR rfl 1 (by decide) (hts _ (m_ws_in wm_0_39)) (fun _ h9 => h9) (m_gi_spec hc9) dX5_insert_15 ?_
    refine lv_istore_n (lv' := [(2, .int x15), (0, .ref v0), (1, .int v1)]) hx hb dX5_insert_18 rfl hl (by decide) rfl (fun ls hl => ?_)
    exact k_X5_insert_L19 hx hb hr hml hown hts hlocks hin hE hA _ _ _ _ _ _ _ _ hrun hR hz hS (lv_sub hl [1, 2, 0] rfl)
  · have hrun := mt_f hrun hc
    refine lv_iconst (v := (-1)) hx hb dX5_insert_12 (by decide) ?_
    cases hrun
    exact mr_iret hx hb hr hlocks hR hz hS dX5_insert_13
end
section
theorem zz_end : True := trivial
end
