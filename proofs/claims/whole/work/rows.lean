section
-- ===== PART A: goes FIRST, ahead of the names: the tables' words, and 'selects' of the private methods out of them =====
/-- a private method of a class that the tables say can be made, by its rows of tables_1 -/
def lw_okq (q : MethodName × Nat) : Prop := (q.1.cls ≠ "java/lang/invoke/MethodHandle" ∧ q.1.cls ≠ "java/lang/invoke/VarHandle") ∧ Cond.instantiable q.1.cls q.2 ∈ tables_1 ∧ Cond.privateMethod q.1 ∈ tables_1 ∧ Cond.instanceMethod q.1 ∈ tables_1
theorem lw_p0 : lw_okq (⟨"java/lang/Throwable", "fillInStackTrace", "(I)Ljava/lang/Throwable;"⟩, 6) := ⟨⟨by decide +kernel, by decide +kernel⟩, List.mem_of_getElem? (i := 315) (by decide +kernel), List.mem_of_getElem? (i := 313) (by decide +kernel), List.mem_of_getElem? (i := 314) (by decide +kernel)⟩
theorem lw_p1 : lw_okq (⟨"LeaseBook", "hashOfLooks", "(JI)J"⟩, 4) := ⟨⟨by decide +kernel, by decide +kernel⟩, List.mem_of_getElem? (i := 18) (by decide +kernel), List.mem_of_getElem? (i := 369) (by decide +kernel), List.mem_of_getElem? (i := 370) (by decide +kernel)⟩
theorem lw_p2 : lw_okq (⟨"LeaseBook", "demandLease", "(I)LLeaseBook$Lease;"⟩, 4) := ⟨⟨by decide +kernel, by decide +kernel⟩, List.mem_of_getElem? (i := 18) (by decide +kernel), List.mem_of_getElem? (i := 377) (by decide +kernel), List.mem_of_getElem? (i := 378) (by decide +kernel)⟩
theorem lw_p3 : lw_okq (⟨"LeaseBook", "hashOfForecasts", "(JI)J"⟩, 4) := ⟨⟨by decide +kernel, by decide +kernel⟩, List.mem_of_getElem? (i := 18) (by decide +kernel), List.mem_of_getElem? (i := 414) (by decide +kernel), List.mem_of_getElem? (i := 415) (by decide +kernel)⟩
theorem lw_p4 : lw_okq (⟨"LeaseBook", "openTexts", "()V"⟩, 4) := ⟨⟨by decide +kernel, by decide +kernel⟩, List.mem_of_getElem? (i := 18) (by decide +kernel), List.mem_of_getElem? (i := 707) (by decide +kernel), List.mem_of_getElem? (i := 708) (by decide +kernel)⟩
theorem lw_p5 : lw_okq (⟨"LeaseBook", "openRead", "()V"⟩, 4) := ⟨⟨by decide +kernel, by decide +kernel⟩, List.mem_of_getElem? (i := 18) (by decide +kernel), List.mem_of_getElem? (i := 712) (by decide +kernel), List.mem_of_getElem? (i := 713) (by decide +kernel)⟩
theorem lw_p6 : lw_okq (⟨"LeaseBookModel", "fails", "(I)I"⟩, 11) := ⟨⟨by decide +kernel, by decide +kernel⟩, List.mem_of_getElem? (i := 786) (by decide +kernel), List.mem_of_getElem? (i := 847) (by decide +kernel), List.mem_of_getElem? (i := 848) (by decide +kernel)⟩
theorem lw_p7 : lw_okq (⟨"LeaseBookModel", "save", "()V"⟩, 11) := ⟨⟨by decide +kernel, by decide +kernel⟩, List.mem_of_getElem? (i := 786) (by decide +kernel), List.mem_of_getElem? (i := 851) (by decide +kernel), List.mem_of_getElem? (i := 852) (by decide +kernel)⟩
theorem lw_p8 : lw_okq (⟨"LeaseBookModel", "openNow", "(IIII)V"⟩, 11) := ⟨⟨by decide +kernel, by decide +kernel⟩, List.mem_of_getElem? (i := 786) (by decide +kernel), List.mem_of_getElem? (i := 855) (by decide +kernel), List.mem_of_getElem? (i := 856) (by decide +kernel)⟩
theorem lw_p9 : lw_okq (⟨"LeaseBookModel", "move", "(III)V"⟩, 11) := ⟨⟨by decide +kernel, by decide +kernel⟩, List.mem_of_getElem? (i := 786) (by decide +kernel), List.mem_of_getElem? (i := 868) (by decide +kernel), List.mem_of_getElem? (i := 869) (by decide +kernel)⟩
theorem lw_p10 : lw_okq (⟨"LeaseBookModel", "isLease", "(I)Z"⟩, 11) := ⟨⟨by decide +kernel, by decide +kernel⟩, List.mem_of_getElem? (i := 786) (by decide +kernel), List.mem_of_getElem? (i := 876) (by decide +kernel), List.mem_of_getElem? (i := 877) (by decide +kernel)⟩
theorem lw_p11 : lw_okq (⟨"LeaseBookModel", "runs", "(I)Z"⟩, 11) := ⟨⟨by decide +kernel, by decide +kernel⟩, List.mem_of_getElem? (i := 786) (by decide +kernel), List.mem_of_getElem? (i := 880) (by decide +kernel), List.mem_of_getElem? (i := 881) (by decide +kernel)⟩
theorem lw_p12 : lw_okq (⟨"LeaseBookModel", "measure", "(IIII)V"⟩, 11) := ⟨⟨by decide +kernel, by decide +kernel⟩, List.mem_of_getElem? (i := 786) (by decide +kernel), List.mem_of_getElem? (i := 884) (by decide +kernel), List.mem_of_getElem? (i := 885) (by decide +kernel)⟩
theorem lw_p13 : lw_okq (⟨"LeaseBookModel", "cutOff", "(II)V"⟩, 11) := ⟨⟨by decide +kernel, by decide +kernel⟩, List.mem_of_getElem? (i := 786) (by decide +kernel), List.mem_of_getElem? (i := 888) (by decide +kernel), List.mem_of_getElem? (i := 889) (by decide +kernel)⟩
theorem lw_p14 : lw_okq (⟨"LeaseBookModel", "ofSubs", "(II)I"⟩, 11) := ⟨⟨by decide +kernel, by decide +kernel⟩, List.mem_of_getElem? (i := 786) (by decide +kernel), List.mem_of_getElem? (i := 906) (by decide +kernel), List.mem_of_getElem? (i := 907) (by decide +kernel)⟩
theorem lw_p15 : lw_okq (⟨"LeaseBookModel", "maySublet", "(III)Z"⟩, 11) := ⟨⟨by decide +kernel, by decide +kernel⟩, List.mem_of_getElem? (i := 786) (by decide +kernel), List.mem_of_getElem? (i := 923) (by decide +kernel), List.mem_of_getElem? (i := 924) (by decide +kernel)⟩
def lw_privs_1 : List (MethodName × Nat) := [(⟨"java/lang/Throwable", "fillInStackTrace", "(I)Ljava/lang/Throwable;"⟩, 6), (⟨"LeaseBook", "hashOfLooks", "(JI)J"⟩, 4), (⟨"LeaseBook", "demandLease", "(I)LLeaseBook$Lease;"⟩, 4), (⟨"LeaseBook", "hashOfForecasts", "(JI)J"⟩, 4), (⟨"LeaseBook", "openTexts", "()V"⟩, 4), (⟨"LeaseBook", "openRead", "()V"⟩, 4), (⟨"LeaseBookModel", "fails", "(I)I"⟩, 11), (⟨"LeaseBookModel", "save", "()V"⟩, 11), (⟨"LeaseBookModel", "openNow", "(IIII)V"⟩, 11), (⟨"LeaseBookModel", "move", "(III)V"⟩, 11), (⟨"LeaseBookModel", "isLease", "(I)Z"⟩, 11), (⟨"LeaseBookModel", "runs", "(I)Z"⟩, 11), (⟨"LeaseBookModel", "measure", "(IIII)V"⟩, 11), (⟨"LeaseBookModel", "cutOff", "(II)V"⟩, 11), (⟨"LeaseBookModel", "ofSubs", "(II)I"⟩, 11), (⟨"LeaseBookModel", "maySublet", "(III)Z"⟩, 11)]
theorem lw_r1 : ∀ q ∈ lw_privs_1, lw_okq q := List.forall_mem_cons.mpr ⟨lw_p0, List.forall_mem_cons.mpr ⟨lw_p1, List.forall_mem_cons.mpr ⟨lw_p2, List.forall_mem_cons.mpr ⟨lw_p3, List.forall_mem_cons.mpr ⟨lw_p4, List.forall_mem_cons.mpr ⟨lw_p5, List.forall_mem_cons.mpr ⟨lw_p6, List.forall_mem_cons.mpr ⟨lw_p7, List.forall_mem_cons.mpr ⟨lw_p8, List.forall_mem_cons.mpr ⟨lw_p9, List.forall_mem_cons.mpr ⟨lw_p10, List.forall_mem_cons.mpr ⟨lw_p11, List.forall_mem_cons.mpr ⟨lw_p12, List.forall_mem_cons.mpr ⟨lw_p13, List.forall_mem_cons.mpr ⟨lw_p14, List.forall_mem_cons.mpr ⟨lw_p15, fun _ h => absurd h List.not_mem_nil⟩⟩⟩⟩⟩⟩⟩⟩⟩⟩⟩⟩⟩⟩⟩⟩
theorem lw_p16 : lw_okq (⟨"LeaseBookModel", "passLease", "(I)V"⟩, 11) := ⟨⟨by decide +kernel, by decide +kernel⟩, List.mem_of_getElem? (i := 786) (by decide +kernel), List.mem_of_getElem? (i := 931) (by decide +kernel), List.mem_of_getElem? (i := 932) (by decide +kernel)⟩
theorem lw_p17 : lw_okq (⟨"LeaseBookModel", "passSubs", "(I)V"⟩, 11) := ⟨⟨by decide +kernel, by decide +kernel⟩, List.mem_of_getElem? (i := 786) (by decide +kernel), List.mem_of_getElem? (i := 935) (by decide +kernel), List.mem_of_getElem? (i := 936) (by decide +kernel)⟩
theorem lw_p18 : lw_okq (⟨"LeaseBookModel", "areLeases", "()Z"⟩, 11) := ⟨⟨by decide +kernel, by decide +kernel⟩, List.mem_of_getElem? (i := 786) (by decide +kernel), List.mem_of_getElem? (i := 951) (by decide +kernel), List.mem_of_getElem? (i := 952) (by decide +kernel)⟩
theorem lw_p19 : lw_okq (⟨"LeaseBookModel", "part", "()Z"⟩, 11) := ⟨⟨by decide +kernel, by decide +kernel⟩, List.mem_of_getElem? (i := 786) (by decide +kernel), List.mem_of_getElem? (i := 955) (by decide +kernel), List.mem_of_getElem? (i := 956) (by decide +kernel)⟩
theorem lw_p20 : lw_okq (⟨"LeaseBookModel", "number", "(II)I"⟩, 11) := ⟨⟨by decide +kernel, by decide +kernel⟩, List.mem_of_getElem? (i := 786) (by decide +kernel), List.mem_of_getElem? (i := 959) (by decide +kernel), List.mem_of_getElem? (i := 960) (by decide +kernel)⟩
theorem lw_p21 : lw_okq (⟨"LeaseBookModel", "next", "()I"⟩, 11) := ⟨⟨by decide +kernel, by decide +kernel⟩, List.mem_of_getElem? (i := 786) (by decide +kernel), List.mem_of_getElem? (i := 963) (by decide +kernel), List.mem_of_getElem? (i := 964) (by decide +kernel)⟩
theorem lw_p22 : lw_okq (⟨"LeaseBookModel", "takes", "(I)Z"⟩, 11) := ⟨⟨by decide +kernel, by decide +kernel⟩, List.mem_of_getElem? (i := 786) (by decide +kernel), List.mem_of_getElem? (i := 967) (by decide +kernel), List.mem_of_getElem? (i := 968) (by decide +kernel)⟩
theorem lw_p23 : lw_okq (⟨"LeaseBookModel", "leaseOf", "(II)I"⟩, 11) := ⟨⟨by decide +kernel, by decide +kernel⟩, List.mem_of_getElem? (i := 786) (by decide +kernel), List.mem_of_getElem? (i := 983) (by decide +kernel), List.mem_of_getElem? (i := 984) (by decide +kernel)⟩
theorem lw_p24 : lw_okq (⟨"LeaseBookModel", "moved", "(II)I"⟩, 11) := ⟨⟨by decide +kernel, by decide +kernel⟩, List.mem_of_getElem? (i := 786) (by decide +kernel), List.mem_of_getElem? (i := 995) (by decide +kernel), List.mem_of_getElem? (i := 996) (by decide +kernel)⟩
theorem lw_p25 : lw_okq (⟨"LeaseBookModel", "profitOf", "(II)I"⟩, 11) := ⟨⟨by decide +kernel, by decide +kernel⟩, List.mem_of_getElem? (i := 786) (by decide +kernel), List.mem_of_getElem? (i := 1003) (by decide +kernel), List.mem_of_getElem? (i := 1004) (by decide +kernel)⟩
theorem lw_p26 : lw_okq (⟨"LeaseBookModel", "counted", "(I)I"⟩, 11) := ⟨⟨by decide +kernel, by decide +kernel⟩, List.mem_of_getElem? (i := 786) (by decide +kernel), List.mem_of_getElem? (i := 1011) (by decide +kernel), List.mem_of_getElem? (i := 1012) (by decide +kernel)⟩
theorem lw_p27 : lw_okq (⟨"LeaseBookModel", "running", "()I"⟩, 11) := ⟨⟨by decide +kernel, by decide +kernel⟩, List.mem_of_getElem? (i := 786) (by decide +kernel), List.mem_of_getElem? (i := 1015) (by decide +kernel), List.mem_of_getElem? (i := 1016) (by decide +kernel)⟩
theorem lw_p28 : lw_okq (⟨"LeaseBookModel", "ofLeases", "(I)I"⟩, 11) := ⟨⟨by decide +kernel, by decide +kernel⟩, List.mem_of_getElem? (i := 786) (by decide +kernel), List.mem_of_getElem? (i := 1019) (by decide +kernel), List.mem_of_getElem? (i := 1020) (by decide +kernel)⟩
theorem lw_p29 : lw_okq (⟨"LeaseBookModel", "profits", "()I"⟩, 11) := ⟨⟨by decide +kernel, by decide +kernel⟩, List.mem_of_getElem? (i := 786) (by decide +kernel), List.mem_of_getElem? (i := 1023) (by decide +kernel), List.mem_of_getElem? (i := 1024) (by decide +kernel)⟩
theorem lw_p30 : lw_okq (⟨"LeaseBookModel", "shortest", "()I"⟩, 11) := ⟨⟨by decide +kernel, by decide +kernel⟩, List.mem_of_getElem? (i := 786) (by decide +kernel), List.mem_of_getElem? (i := 1027) (by decide +kernel), List.mem_of_getElem? (i := 1028) (by decide +kernel)⟩
theorem lw_p31 : lw_okq (⟨"LeaseBookModel", "planOf", "(III)I"⟩, 11) := ⟨⟨by decide +kernel, by decide +kernel⟩, List.mem_of_getElem? (i := 786) (by decide +kernel), List.mem_of_getElem? (i := 1039) (by decide +kernel), List.mem_of_getElem? (i := 1040) (by decide +kernel)⟩
def lw_privs_2 : List (MethodName × Nat) := [(⟨"LeaseBookModel", "passLease", "(I)V"⟩, 11), (⟨"LeaseBookModel", "passSubs", "(I)V"⟩, 11), (⟨"LeaseBookModel", "areLeases", "()Z"⟩, 11), (⟨"LeaseBookModel", "part", "()Z"⟩, 11), (⟨"LeaseBookModel", "number", "(II)I"⟩, 11), (⟨"LeaseBookModel", "next", "()I"⟩, 11), (⟨"LeaseBookModel", "takes", "(I)Z"⟩, 11), (⟨"LeaseBookModel", "leaseOf", "(II)I"⟩, 11), (⟨"LeaseBookModel", "moved", "(II)I"⟩, 11), (⟨"LeaseBookModel", "profitOf", "(II)I"⟩, 11), (⟨"LeaseBookModel", "counted", "(I)I"⟩, 11), (⟨"LeaseBookModel", "running", "()I"⟩, 11), (⟨"LeaseBookModel", "ofLeases", "(I)I"⟩, 11), (⟨"LeaseBookModel", "profits", "()I"⟩, 11), (⟨"LeaseBookModel", "shortest", "()I"⟩, 11), (⟨"LeaseBookModel", "planOf", "(III)I"⟩, 11)]
theorem lw_r2 : ∀ q ∈ lw_privs_2, lw_okq q := List.forall_mem_cons.mpr ⟨lw_p16, List.forall_mem_cons.mpr ⟨lw_p17, List.forall_mem_cons.mpr ⟨lw_p18, List.forall_mem_cons.mpr ⟨lw_p19, List.forall_mem_cons.mpr ⟨lw_p20, List.forall_mem_cons.mpr ⟨lw_p21, List.forall_mem_cons.mpr ⟨lw_p22, List.forall_mem_cons.mpr ⟨lw_p23, List.forall_mem_cons.mpr ⟨lw_p24, List.forall_mem_cons.mpr ⟨lw_p25, List.forall_mem_cons.mpr ⟨lw_p26, List.forall_mem_cons.mpr ⟨lw_p27, List.forall_mem_cons.mpr ⟨lw_p28, List.forall_mem_cons.mpr ⟨lw_p29, List.forall_mem_cons.mpr ⟨lw_p30, List.forall_mem_cons.mpr ⟨lw_p31, fun _ h => absurd h List.not_mem_nil⟩⟩⟩⟩⟩⟩⟩⟩⟩⟩⟩⟩⟩⟩⟩⟩
theorem lw_p32 : lw_okq (⟨"LeaseBookModel", "putAside", "()V"⟩, 11) := ⟨⟨by decide +kernel, by decide +kernel⟩, List.mem_of_getElem? (i := 786) (by decide +kernel), List.mem_of_getElem? (i := 1043) (by decide +kernel), List.mem_of_getElem? (i := 1044) (by decide +kernel)⟩
theorem lw_p33 : lw_okq (⟨"LeaseBookModel", "putBack", "()V"⟩, 11) := ⟨⟨by decide +kernel, by decide +kernel⟩, List.mem_of_getElem? (i := 786) (by decide +kernel), List.mem_of_getElem? (i := 1047) (by decide +kernel), List.mem_of_getElem? (i := 1048) (by decide +kernel)⟩
theorem lw_p34 : lw_okq (⟨"LeaseBookModel", "measuredOf", "(IIIII)I"⟩, 11) := ⟨⟨by decide +kernel, by decide +kernel⟩, List.mem_of_getElem? (i := 786) (by decide +kernel), List.mem_of_getElem? (i := 1055) (by decide +kernel), List.mem_of_getElem? (i := 1056) (by decide +kernel)⟩
theorem lw_p35 : lw_okq (⟨"LeaseBookModel", "paymentOf", "(II)I"⟩, 11) := ⟨⟨by decide +kernel, by decide +kernel⟩, List.mem_of_getElem? (i := 786) (by decide +kernel), List.mem_of_getElem? (i := 1064) (by decide +kernel), List.mem_of_getElem? (i := 1065) (by decide +kernel)⟩
theorem lw_p36 : lw_okq (⟨"LeaseBookModel", "rateOf", "(I)I"⟩, 11) := ⟨⟨by decide +kernel, by decide +kernel⟩, List.mem_of_getElem? (i := 786) (by decide +kernel), List.mem_of_getElem? (i := 1072) (by decide +kernel), List.mem_of_getElem? (i := 1073) (by decide +kernel)⟩
theorem lw_p37 : lw_okq (⟨"LeaseBookModel", "receiptOf", "(III)I"⟩, 11) := ⟨⟨by decide +kernel, by decide +kernel⟩, List.mem_of_getElem? (i := 786) (by decide +kernel), List.mem_of_getElem? (i := 1080) (by decide +kernel), List.mem_of_getElem? (i := 1081) (by decide +kernel)⟩
theorem lw_p38 : lw_okq (⟨"LeaseBookModel", "offOf", "()D"⟩, 11) := ⟨⟨by decide +kernel, by decide +kernel⟩, List.mem_of_getElem? (i := 786) (by decide +kernel), List.mem_of_getElem? (i := 1088) (by decide +kernel), List.mem_of_getElem? (i := 1089) (by decide +kernel)⟩
theorem lw_p39 : lw_okq (⟨"LeaseBookModel", "mix", "(J)V"⟩, 11) := ⟨⟨by decide +kernel, by decide +kernel⟩, List.mem_of_getElem? (i := 786) (by decide +kernel), List.mem_of_getElem? (i := 1097) (by decide +kernel), List.mem_of_getElem? (i := 1098) (by decide +kernel)⟩
theorem lw_p40 : lw_okq (⟨"LeaseBookModel", "mixLease", "(I)V"⟩, 11) := ⟨⟨by decide +kernel, by decide +kernel⟩, List.mem_of_getElem? (i := 786) (by decide +kernel), List.mem_of_getElem? (i := 1102) (by decide +kernel), List.mem_of_getElem? (i := 1103) (by decide +kernel)⟩
def lw_privs_3 : List (MethodName × Nat) := [(⟨"LeaseBookModel", "putAside", "()V"⟩, 11), (⟨"LeaseBookModel", "putBack", "()V"⟩, 11), (⟨"LeaseBookModel", "measuredOf", "(IIIII)I"⟩, 11), (⟨"LeaseBookModel", "paymentOf", "(II)I"⟩, 11), (⟨"LeaseBookModel", "rateOf", "(I)I"⟩, 11), (⟨"LeaseBookModel", "receiptOf", "(III)I"⟩, 11), (⟨"LeaseBookModel", "offOf", "()D"⟩, 11), (⟨"LeaseBookModel", "mix", "(J)V"⟩, 11), (⟨"LeaseBookModel", "mixLease", "(I)V"⟩, 11)]
theorem lw_r3 : ∀ q ∈ lw_privs_3, lw_okq q := List.forall_mem_cons.mpr ⟨lw_p32, List.forall_mem_cons.mpr ⟨lw_p33, List.forall_mem_cons.mpr ⟨lw_p34, List.forall_mem_cons.mpr ⟨lw_p35, List.forall_mem_cons.mpr ⟨lw_p36, List.forall_mem_cons.mpr ⟨lw_p37, List.forall_mem_cons.mpr ⟨lw_p38, List.forall_mem_cons.mpr ⟨lw_p39, List.forall_mem_cons.mpr ⟨lw_p40, fun _ h => absurd h List.not_mem_nil⟩⟩⟩⟩⟩⟩⟩⟩⟩
def lw_privs : List (MethodName × Nat) := lw_privs_1 ++ (lw_privs_2 ++ (lw_privs_3))
def lw_tbl : List Cond := k2_sels lw_privs ++ tables_1
theorem lw_privs_ok : ∀ q ∈ lw_privs, lw_okq q := by
  show ∀ q ∈ lw_privs_1 ++ (lw_privs_2 ++ (lw_privs_3)), lw_okq q
  exact List.forall_mem_append.mpr ⟨lw_r1, List.forall_mem_append.mpr ⟨lw_r2, lw_r3⟩⟩
/-- the streams that the claim lets the run draw from -/
abbrev lw_cs : List Choice := [Jvm.Choice.named "NaN.bits"]
theorem lw_bits : nanBits ∈ lw_cs := by first | decide | exact List.mem_cons_self | simp [lw_cs, nanBits]
-- ===== end of PART A; then your names; then what follows =====
end
section
/-! ===== BEGIN words of one list among another's, by their places ===== -/
theorem goodIn_r {big : List Cond} (ws : List Cond) (ps : List Nat) (hp : ws = ps.filterMap (fun i => big[i]?)) (h : ws.all goodWord = true) : GoodIn big ws := by
  intro w hw
  have h1 := List.all_eq_true.mp h w hw
  rw [hp] at hw
  obtain ⟨i, -, hi⟩ := List.mem_filterMap.mp hw
  have hm : w ∈ big := by first | exact List.mem_of_getElem? hi | exact List.getElem?_mem hi
  exact ⟨hm, good_of_word h1⟩
theorem goodIn_app {big a b : List Cond} (ha : GoodIn big a) (hb : GoodIn big b) : GoodIn big (a ++ b) := fun w h => (List.mem_append.mp h).elim (ha w) (hb w)
theorem goodIn_ca {big a b : List Cond} {c : Cond} (ha : GoodIn big (c :: a)) (hb : GoodIn big b) : GoodIn big (c :: (a ++ b)) := fun w h => (List.mem_cons.mp h).elim (fun e => ha w (List.mem_cons.mpr (Or.inl e))) (fun h => (List.mem_append.mp h).elim (fun h => ha w (List.mem_cons.mpr (Or.inr h))) (hb w))
theorem goodIn_sub {big ws : List Cond} (hm : ∀ w ∈ ws, w ∈ big) (h : ws.all goodWord = true) : GoodIn big ws := fun w hw => ⟨hm w hw, good_of_word (List.all_eq_true.mp h w hw)⟩
/-! ===== END ===== -/

/-! ===== BEGIN exceptions that leave a method, and their catching by the caller (launches without stack traces) ===== -/
section VXA
/-! The laws vx_back, vx_callV, vx_callS, vx_callSW, vx_throw0, vx_throwS follow proofs of the library, with one case more: JvmDerived/Free/Laws.lean (Back.of_free), Shelf42/LK1.lean (callV, callS), Shelf/KitTraced.lean (throwNew0V, throwNewS). -/
/-- where a method has thrown q: the class by its name, the cell, what was written, the world -/
def vx_T (XC : String → State → State → Prop) (st : State) (q : Addr) (t : State) (mc ms : Nat) (free : Addr → Prop) : Prop :=
  ∃ (E : String) (ce : Cell) (L : List Loc), XC E st t ∧ t.heap[q]? = some ce ∧ ce.vm = .none ∧ st.vm.findClass E = some ce.cls ∧ st.WarmedH t.vm ∧ st.sameButNew ({ t with vm := st.vm } : State) L mc ms ∧ ∀ z ∈ L, free z.base
def vx_Q (Qc : Array Value → State → Outcome → State → Prop) (XC : String → State → State → Prop) (mc ms : Nat) (free : Addr → Prop) : Array Value → State → Outcome → State → Prop := fun a st o t =>
  (Qc a st o t ∧ ∃ L, FrameEnd st o t L mc ms ∧ ∀ q ∈ L, free q.base) ∨ ∃ q, o = .threw q ∧ vx_T XC st q t mc ms free
/-- a callee that returns or throws -/
def vx_Met (l : Launch) (y : MethodName) (ws : List Cond) (rm : Room) (Pc : Array Value → State → Prop) (Qc : Array Value → State → Outcome → State → Prop) (XC : String → State → State → Prop) (mc ms : Nat) (free : Addr → Prop) : Prop :=
  MetFree l y (headSpec ws rm) Pc (fun _ _ _ _ _ => True) (vx_Q Qc XC mc ms free)
def vx_Post (XC : String → State → State → Prop) (mc ms : Nat) (free : Addr → Prop) : Pt → Array Value → Addr → Pt → Prop := fun A a q B =>
  ∃ (g : JFrame) (mk : MethodId) (t : State) (L : List Loc) (E : String) (ce : Cell), B.U.heap = t.heap ∧ B.U.vm = t.vm ∧ XC E (A.U.calling g mk a) t ∧ t.heap[q]? = some ce ∧ ce.vm = .none ∧ A.U.vm.findClass E = some ce.cls ∧ B.locs = A.locs ++ L ∧ (∀ z ∈ L, free z.base) ∧ B.cells = A.cells + mc ∧ B.slots = A.slots + ms
def vx_Back (l : Launch) (R : Room) (p : Program) (e : Env) (below : List Frame) (s : State) (sargs : Array Value) (y : MethodName) (len W9 : Nat)
    (Pre : Pt → Array Value → Prop) (Post : Pt → Array Value → Option Value → Pt → Prop) (PostX : Pt → Array Value → Addr → Pt → Prop) : Prop :=
  ∀ (m : MethodId) (meth : Method) (c : Code) (A : Pt) (g : JFrame) (ig : Instr) (mk : MethodId) (a : Array Value),
    Stand p l e R s m sargs below meth c A.U A.locs A.cells A.slots → g.method = m → g.locals.size = c.maxLocals → decode c.code g.pc = .ok (ig, len) →
    2 * g.monitorRoom + (g.stack.map fun v => v.category).sum ≤ W9 → A.U.methodNamed? y = some mk → Pre A a →
    (∃ (v : Option Value) (B : Pt), Stand p l e R s m sargs below meth c B.U B.locs B.cells B.slots ∧ Post A a v B ∧
      Steps p.tables e below (doInvoke e (A.U.setTop g) [] mk a).1 (B.U.setTop { g with pc := g.pc + len, stack := v.toList ++ g.stack })) ∨
    (∃ (q : Addr) (B : Pt), Stand p l e R s m sargs below meth c B.U B.locs B.cells B.slots ∧ PostX A a q B ∧
      Steps p.tables e below (doInvoke e (A.U.setTop g) [] mk a).1 ((B.U.setTop g).pushFrame (.throwing q)))
section Payer
variable {l : Launch} {R : Room} {p : Program} {e : Env} {below : List Frame} {s : State} {sargs : Array Value} {y : MethodName} {len W9 : Nat}
theorem vx_back {ws : List Cond} {rm : Room} {Pc : Array Value → State → Prop} {Qc : Array Value → State → Outcome → State → Prop} {XC : String → State → State → Prop} {mc ms : Nat} {free : Addr → Prop} {bytes : ByteArray} {maxL : Nat} {ret : Option FieldType}
    (hM : vx_Met l y ws rm Pc Qc XC mc ms free) (hblind : FrameBlind Pc) (hrc : rm.cells = mc) (hrs : rm.slots = ms)
    (hframes : rm.frames + 1 ≤ R.frames) (hlocals : W9 + (maxL + 11) + rm.locals ≤ R.locals)
    (hws : ∀ w ∈ ws, ∀ a' U, s.WarmedH U.vm → w.before a' U = true) (hcode : Cond.code y bytes maxL ret ∈ ws) (hinit : ∀ a' U, s.WarmedH U.vm → (Cond.initialized y.cls).before a' U = true) :
    vx_Back l R p e below s sargs y len W9 (PreOf R mc ms Pc) (PostOf Qc mc ms free) (vx_Post XC mc ms free) := by
  intro m meth c A g ig mk a X hg hsize hdg hW hn hp
  have h1 : (headSpec ws rm).pre.before a A.U = true := atoms_intro fun w hw => hws w hw _ _ X.warmed
  have h2 : (Cond.code y bytes maxL ret).before a A.U = true := hws _ hcode _ _ X.warmed
  have h3 : (Cond.initialized y.cls).before a A.U = true := hinit _ _ X.warmed
  have h4 : A.cells + (headSpec ws rm).room.cells ≤ R.cells := by rw [show (headSpec ws rm).room.cells = mc from hrc]; exact hp.1
  have h5 : A.slots + (headSpec ws rm).room.slots ≤ R.slots := by rw [show (headSpec ws rm).room.slots = ms from hrs]; exact hp.2.1
  have hPc : Pc a (A.U.calling g mk a) := hblind _ _ _ _ hp.2.2
  obtain ⟨U, Ls, c0, s0⟩ := A
  dsimp only [Pt.U, Pt.locs, Pt.cells, Pt.slots] at h1 h2 h3 h4 h5 X hn hPc ⊢
  obtain ⟨methY, cY, hmY, hcY, -, hlY, -, -, -, -⟩ := Cond.code_spec hn h2
  obtain ⟨kY, hkY, -⟩ := className_of_methodNamed hn
  have hinitY : kY.init = .initialized := Cond.initialized_spec (findClass_of_methodNamed hn) hkY h3
  have h : At U g.method c below := by rw [hg]; exact X.here
  have hlocals9 : W9 + (maxL + 11) + (headSpec ws rm).room.locals ≤ R.locals := hlocals
  have happ : (headSpec ws rm).appliesLoose y e.platform (U.calling g mk a) = true :=
    Spec.appliesLoose_calling (g := g) h hdg hn hkY hinitY
      (X.room_calling (g := g) (R' := (headSpec ws rm).room) hsize hmY hcY hframes (by rw [hlY]; omega) h4 h5) h1
  obtain ⟨mid, hmid⟩ := h.above
  have hfr : (U.setTop g).frames = (.java g :: mid) ++ below := by rw [State.frames_setTop' g h.top, hmid]; rfl
  obtain ⟨o, s₂, hsteps, -, hend, hq⟩ := Steps.callFree hM p X.admits X.cas X.clock (acts := []) hfr happ hPc trivial
  have hq' : vx_Q Qc XC mc ms free a (U.calling g mk a) o s₂ := hq
  rw [State.frames_setTop' g h.top] at hend
  obtain ⟨g₀, hg0⟩ := Option.isSome_iff_exists.mp h.top
  obtain ⟨r, hr⟩ := State.topJava?_eq_some.mp hg0
  have hr' : (({ U with heap := s₂.heap, slotsUsed := s₂.slotsUsed } : State).setVm s₂.vm).frames = .java g₀ :: r := hr
  rcases hq' with ⟨hqc, L, hfe, hL⟩ | ⟨q, rfl, E, ce, L, hx, hce, hcv, hcl, hW₂, hsm, hL⟩
  · obtain ⟨⟨v, rfl⟩, hW₂, e2, q2, q3, q4, q5, q6⟩ := id hfe
    have e3 : s₂ = ({ (U.calling g mk a).setFrames s₂.frames with heap := s₂.heap, slotsUsed := s₂.slotsUsed } : State).setVm s₂.vm := by
      have : s₂ = ({ s₂ with vm := (U.calling g mk a).vm } : State).setVm s₂.vm := rfl
      rw [e2] at this
      exact this
    obtain ⟨c₂, i₂, len₂, hc₂, hd₂, hf₂⟩ := hend
    have hW' : U.WarmedH s₂.vm := hW₂
    have hcc : c₂ = c := by
      have h1 : s₂.code? g.method = U.code? g.method := by
        rw [State.code?_eq, State.code?_eq, hW'.alike.method?]
      exact Option.some.inj (hc₂.symm.trans (h1.trans h.code))
    subst hcc
    have hlen : len₂ = len := by rw [hdg] at hd₂; cases hd₂; rfl
    subst hlen
    have hs₂ : s₂ = (({ U with heap := s₂.heap, slotsUsed := s₂.slotsUsed } : State).setVm s₂.vm).setTop { g with pc := g.pc + len₂, stack := v.toList ++ g.stack } := by
      refine e3.trans ?_
      rw [hf₂, State.calling_eq h.top, State.setFrames_setFrames, State.setTop_of_frames _ hr', hr]
      rfl
    have hsame : U.sameButNew ({ U with heap := s₂.heap, slotsUsed := s₂.slotsUsed } : State) L mc ms := by
      refine ⟨?_, q2, q3, q4, q5, q6⟩
      obtain ⟨t, ht, -⟩ := State.frames_cons hr
      show ({ U with heap := s₂.heap, slotsUsed := s₂.slotsUsed } : State) = { U.setFrames U.frames with heap := s₂.heap, slotsUsed := s₂.slotsUsed }
      rw [State.setFrames_self ht]
    subst hg
    refine Or.inl ⟨v, ⟨(({ U with heap := s₂.heap, slotsUsed := s₂.slotsUsed } : State).setVm s₂.vm), Ls ++ L, c0 + mc, s0 + ms⟩,
      ⟨X.admits, X.cas, X.clock, X.frames, X.room, X.hears, X.method, X.code, (X.here.setHeapUsed s₂.heap s₂.slotsUsed).setVm hW'.alike, X.tail, State.WarmedH.trans X.warmed hW', X.limits, X.bytes, X.same.trans (hsame.setVm s.vm)⟩,
      ⟨g, mk, s₂, L, rfl, rfl, hqc, rfl, hL, rfl, rfl⟩, ?_⟩
    show Steps p.tables e below _ ((({ U with heap := s₂.heap, slotsUsed := s₂.slotsUsed } : State).setVm s₂.vm).setTop { g with pc := g.pc + len₂, stack := v.toList ++ g.stack })
    rw [← hs₂]
    exact hsteps
  · obtain ⟨e2, q2, q3, q4, q5, q6⟩ := id hsm
    have e3 : s₂ = ({ (U.calling g mk a).setFrames s₂.frames with heap := s₂.heap, slotsUsed := s₂.slotsUsed } : State).setVm s₂.vm := by
      have : s₂ = ({ s₂ with vm := (U.calling g mk a).vm } : State).setVm s₂.vm := rfl
      rw [e2] at this
      exact this
    have hf₂ : s₂.frames = .throwing q :: .java g :: U.frames.tail := hend
    have hW' : U.WarmedH s₂.vm := hW₂
    have hs₂ : s₂ = ((({ U with heap := s₂.heap, slotsUsed := s₂.slotsUsed } : State).setVm s₂.vm).setTop g).pushFrame (.throwing q) := by
      refine e3.trans ?_
      rw [hf₂, State.calling_eq h.top, State.setFrames_setFrames, State.pushFrame, State.frames_setTop _ hr', State.setTop_of_frames _ hr', State.setFrames_setFrames, hr]
      rfl
    have hsame : U.sameButNew ({ U with heap := s₂.heap, slotsUsed := s₂.slotsUsed } : State) L mc ms := by
      refine ⟨?_, q2, q3, q4, q5, q6⟩
      obtain ⟨t, ht, -⟩ := State.frames_cons hr
      show ({ U with heap := s₂.heap, slotsUsed := s₂.slotsUsed } : State) = { U.setFrames U.frames with heap := s₂.heap, slotsUsed := s₂.slotsUsed }
      rw [State.setFrames_self ht]
    subst hg
    refine Or.inr ⟨q, ⟨(({ U with heap := s₂.heap, slotsUsed := s₂.slotsUsed } : State).setVm s₂.vm), Ls ++ L, c0 + mc, s0 + ms⟩,
      ⟨X.admits, X.cas, X.clock, X.frames, X.room, X.hears, X.method, X.code, (X.here.setHeapUsed s₂.heap s₂.slotsUsed).setVm hW'.alike, X.tail, State.WarmedH.trans X.warmed hW', X.limits, X.bytes, X.same.trans (hsame.setVm s.vm)⟩,
      ⟨g, mk, s₂, L, E, ce, rfl, rfl, hx, hce, hcv, hcl, rfl, hL, rfl, rfl⟩, ?_⟩
    show Steps p.tables e below _ (((({ U with heap := s₂.heap, slotsUsed := s₂.slotsUsed } : State).setVm s₂.vm).setTop g).pushFrame (.throwing q))
    rw [← hs₂]
    exact hsteps
end Payer
section Calls
variable {p : Program} {l : Launch} {e : Env} {R : Room} {s : State} {m : MethodId} {args : Array Value} {below : List Frame} {meth : Method} {c : Code} {T : State} {locs : List Loc} {cells slots : Nat}
theorem vx_callV (X : Stand p l e R s m args below meth c T locs cells slots) (hexec : p.tables.exec = Jvm.exec) {own C : String} {index : Nat} {y : MethodName} {bytes : ByteArray} {maxL : Nat} {ret : Option FieldType}
    (hown : s.vm.findClass own = some m.cls) (hlink : (Cond.methodLink own index y).before args s = true) (hinst : (Cond.instanceMethod y).before args s = true) (hsel : (Cond.selects C y y).before args s = true)
    (hcode : (Cond.code y bytes maxL ret).before args s = true) (hy : y.cls ≠ "java/lang/invoke/MethodHandle" ∧ y.cls ≠ "java/lang/invoke/VarHandle")
    {W9 : Nat} {Pre : Pt → Array Value → Prop} {Post : Pt → Array Value → Option Value → Pt → Prop} {PostX : Pt → Array Value → Addr → Pt → Prop} (hK : vx_Back l R p e below s args y 3 W9 Pre Post PostX)
    {b : Addr} {cellB : Cell} (hcell : T.heap[b]? = some cellB) (hobj : cellB.vm.isStatics = false) (hcls : s.vm.findClass C = some cellB.cls)
    {g : JFrame} (hg : g.method = m) (hsize : g.locals.size = c.maxLocals) {argsL rest : List Value} (hlen : ∀ sig, parseMethodDescriptor y.desc = some sig → argsL.length = sig.parameters.length)
    (hstack : g.stack = argsL.reverse ++ .ref b :: rest) (hW : 2 * g.monitorRoom + (rest.map fun v => v.category).sum ≤ W9) (hdg : decode c.code g.pc = .ok (.invokevirtual index, 3))
    (hpre : ∀ vm₁, s.WarmedH vm₁ → Pre ⟨T.setVm vm₁, locs, cells, slots⟩ (Value.ref b :: argsL).toArray) :
    (∃ (v : Option Value) (vm₁ : Vm) (B : Pt), s.WarmedH vm₁ ∧ Stand p l e R s m args below meth c B.U B.locs B.cells B.slots ∧ Post ⟨T.setVm vm₁, locs, cells, slots⟩ (Value.ref b :: argsL).toArray v B ∧
      ∀ target, Steps p.tables e below (B.U.setTop { g with pc := g.pc + 3, stack := v.toList ++ rest }) target → Steps p.tables e below (T.setTop g) target) ∨
    (∃ (q : Addr) (vm₁ : Vm) (B : Pt), s.WarmedH vm₁ ∧ Stand p l e R s m args below meth c B.U B.locs B.cells B.slots ∧ PostX ⟨T.setVm vm₁, locs, cells, slots⟩ (Value.ref b :: argsL).toArray q B ∧
      Steps p.tables e below (T.setTop g) ((B.U.setTop { g with stack := rest }).pushFrame (.throwing q))) := by
  obtain ⟨mk, methM, hnamed, hmethM, hstM, habM⟩ := Cond.instanceMethod_spec hinst
  obtain ⟨methM', cM, hmethM', -, -, -, -, -, -, hsigM⟩ := Cond.code_spec hnamed hcode
  cases hmethM.symm.trans hmethM'
  obtain ⟨c2, r2, m2, q1, q2, q3, q4, kP, hkP, hkPi⟩ := Cond.selects_spec hsel
  cases hcls.symm.trans q1
  cases (State.methodFound?_of_named hnamed hy).symm.trans q2
  cases hnamed.symm.trans q3
  have hselP : selectMethod e.platform s.vm cellB.cls mk = .method mk := by rw [Launch.admits_selectMethod X.admits]; exact q4
  obtain ⟨vm₁, X₁, hstep₁⟩ := X.invokevirtual hexec hown hlink hnamed hmethM hstM hkP hkPi hy (a := b) (cell := cellB) hcell
    (fun z h => by rw [h] at hobj; cases hobj) hselP hmethM habM hkP hkPi (g := g) hg (argsL := argsL) (rest := rest) (hlen _ hsigM) hstack hdg
  rcases hK m meth c ⟨T.setVm vm₁, locs, cells, slots⟩ { g with stack := rest } (.invokevirtual index) mk (Value.ref b :: argsL).toArray X₁ hg hsize hdg hW (X₁.named hnamed) (hpre vm₁ X₁.warmed) with ⟨v, B, X', hpost, hsteps⟩ | ⟨q, B, X', hpost, hsteps⟩
  · exact Or.inl ⟨v, vm₁, B, X₁.warmed, X', hpost, fun target h => hstep₁ _ fun acts => by rw [doInvoke_state]; exact hsteps.trans h⟩
  · exact Or.inr ⟨q, vm₁, B, X₁.warmed, X', hpost, hstep₁ _ fun acts => by rw [doInvoke_state]; exact hsteps⟩
theorem vx_callS (X : Stand p l e R s m args below meth c T locs cells slots) (hexec : p.tables.exec = Jvm.exec) {own : String} {index : Nat} {y : MethodName} {bytes : ByteArray} {maxL : Nat} {ret : Option FieldType}
    (hown : s.vm.findClass own = some m.cls) (hlink : (Cond.methodLink own index y).before args s = true) (hstat : (Cond.static y).before args s = true) (hinit : (Cond.initialized y.cls).before args s = true)
    (hcode : (Cond.code y bytes maxL ret).before args s = true) (hy : y.cls ≠ "java/lang/invoke/MethodHandle" ∧ y.cls ≠ "java/lang/invoke/VarHandle")
    {W9 : Nat} {Pre : Pt → Array Value → Prop} {Post : Pt → Array Value → Option Value → Pt → Prop} {PostX : Pt → Array Value → Addr → Pt → Prop} (hK : vx_Back l R p e below s args y 3 W9 Pre Post PostX)
    {g : JFrame} (hg : g.method = m) (hsize : g.locals.size = c.maxLocals) {argsL rest : List Value} (hlen : ∀ sig, parseMethodDescriptor y.desc = some sig → argsL.length = sig.parameters.length)
    (hstack : g.stack = argsL.reverse ++ rest) (hW : 2 * g.monitorRoom + (rest.map fun v => v.category).sum ≤ W9) (hdg : decode c.code g.pc = .ok (.invokestatic index, 3))
    (hpre : ∀ vm₁, s.WarmedH vm₁ → Pre ⟨T.setVm vm₁, locs, cells, slots⟩ argsL.toArray) :
    (∃ (v : Option Value) (vm₁ : Vm) (B : Pt), s.WarmedH vm₁ ∧ Stand p l e R s m args below meth c B.U B.locs B.cells B.slots ∧ Post ⟨T.setVm vm₁, locs, cells, slots⟩ argsL.toArray v B ∧
      ∀ target, Steps p.tables e below (B.U.setTop { g with pc := g.pc + 3, stack := v.toList ++ rest }) target → Steps p.tables e below (T.setTop g) target) ∨
    (∃ (q : Addr) (vm₁ : Vm) (B : Pt), s.WarmedH vm₁ ∧ Stand p l e R s m args below meth c B.U B.locs B.cells B.slots ∧ PostX ⟨T.setVm vm₁, locs, cells, slots⟩ argsL.toArray q B ∧
      Steps p.tables e below (T.setTop g) ((B.U.setTop { g with stack := rest }).pushFrame (.throwing q))) := by
  obtain ⟨mk, hnamed⟩ := Cond.code_named hcode
  obtain ⟨methM, cM, hmethM, -, -, -, -, -, -, hsigM⟩ := Cond.code_spec hnamed hcode
  have hstatic : methM.isStatic = true := Cond.static_spec hnamed hmethM hstat
  obtain ⟨kP, hkP, -⟩ := className_of_methodNamed hnamed
  have hinitP : kP.init = .initialized := Cond.initialized_spec (findClass_of_methodNamed hnamed) hkP hinit
  obtain ⟨vm₁, X₁, hstep₁⟩ := X.invokestatic hexec hown hlink hnamed hmethM hstatic hkP hinitP hy (g := g) hg (argsL := argsL) (rest := rest) (hlen _ hsigM) hstack hdg
  rcases hK m meth c ⟨T.setVm vm₁, locs, cells, slots⟩ { g with stack := rest } (.invokestatic index) mk argsL.toArray X₁ hg hsize hdg hW (X₁.named hnamed) (hpre vm₁ X₁.warmed) with ⟨v, B, X', hpost, hsteps⟩ | ⟨q, B, X', hpost, hsteps⟩
  · exact Or.inl ⟨v, vm₁, B, X₁.warmed, X', hpost, fun target h => hstep₁ _ fun acts => by rw [doInvoke_state]; exact hsteps.trans h⟩
  · exact Or.inr ⟨q, vm₁, B, X₁.warmed, X', hpost, hstep₁ _ fun acts => by rw [doInvoke_state]; exact hsteps⟩
end Calls
theorem vx_cls {s : State} {T : State} {vm₁ : Vm} {E : String} {k : ClassId} (hW : s.WarmedH vm₁) (h : (T.setVm vm₁).vm.findClass E = some k) : s.vm.findClass E = some k := by
  have h1 : vm₁.findClass E = some k := h
  rw [hW.alike.findClass] at h1
  exact h1
/-- the method's frame g, with q thrown over it -/
def vx_W (p : Program) (l : Launch) (e : Env) (R : Room) (s : State) (m : MethodId) (args : Array Value) (below : List Frame) (meth : Method) (c : Code) (H : Heap) (locs : List Loc) (cells slots : Nat) (Q : State → Prop) (g : JFrame) (q : Addr) : Prop :=
  ∀ T : State, T.heap = H → Stand p l e R s m args below meth c T locs cells slots → ∃ t, Steps p.tables e below ((T.setTop g).pushFrame (.throwing q)) t ∧ Q t
def vx_Run (p : Program) (l : Launch) (e : Env) (R : Room) (s : State) (m : MethodId) (args : Array Value) (below : List Frame) (meth : Method) (c : Code) (H : Heap) (locs : List Loc) (cells slots mc ms : Nat) (g : JFrame) (rest : List Value) (Qa : State → Outcome → State → Prop) (XC : String → State → State → Prop) (free : Addr → Prop) : Prop :=
  ∀ T : State, T.heap = H → Stand p l e R s m args below meth c T locs cells slots →
    (∃ (v : Option Value) (st₀ t T' : State) (L : List Loc), st₀.heap = H ∧ Stand p l e R s m args below meth c T' (locs ++ L) (cells + mc) (slots + ms) ∧ (∀ q ∈ L, free q.base) ∧ T'.heap = t.heap ∧ T'.vm = t.vm ∧ Qa st₀ (.returned v) t ∧
      Goes p e below T g T' { g with pc := g.pc + 3, stack := v.toList ++ rest }) ∨
    (∃ (q : Addr) (st₀ t T' : State) (L : List Loc) (E : String) (ce : Cell), st₀.heap = H ∧ Stand p l e R s m args below meth c T' (locs ++ L) (cells + mc) (slots + ms) ∧ (∀ z ∈ L, free z.base) ∧ T'.heap = t.heap ∧ T'.vm = t.vm ∧ XC E st₀ t ∧ t.heap[q]? = some ce ∧ ce.vm = .none ∧ s.vm.findClass E = some ce.cls ∧
      Steps p.tables e below (T.setTop g) ((T'.setTop { g with stack := rest }).pushFrame (.throwing q)))
def vx_X {S : Type} (px : S → Prop) (B : String → S → State → Prop) (A : Nat → Prop) : String → State → State → Prop := fun E st t => ∃ u : S, px u ∧ B E u t ∧ va_F A st t
section Runs
variable {p : Program} {l : Launch} {e : Env} {R : Room} {s : State} {m : MethodId} {args : Array Value} {below : List Frame} {meth : Method} {c : Code} {H : Heap} {locs : List Loc} {cells slots : Nat}
variable {y : MethodName} {bytes cc : ByteArray} {maxL nL mc ms n index : Nat} {ret : Option FieldType} {ws : List Cond} {rm : Room} {Pc : Array Value → State → Prop} {Qc : Array Value → State → Outcome → State → Prop} {XC : String → State → State → Prop} {free : Addr → Prop} {Ts : List Cond} {own C : String} {b : Addr} {As rest : List Value} {g : JFrame}
theorem vx_callBack (cb : CallB R s args own index y bytes maxL ret ws rm mc ms n) (hM : vx_Met l y ws rm Pc Qc XC mc ms free) (hbl : FrameBlind Pc) : vx_Back l R p e below s args y 3 8 (PreOf R mc ms Pc) (PostOf Qc mc ms free) (vx_Post XC mc ms free) := by
  obtain ⟨hrc, hrs, hfr, hlo, hws, hcw, -, hini, -⟩ := cb
  exact vx_back (bytes := bytes) (maxL := maxL) (ret := ret) hM hbl hrc hrs hfr hlo hws hcw (fun a' U hW => word_at hW (Or.inl (by first | rfl | simp [Cond.onTables, Cond.keeps, Cond.steady])) hini)
theorem vx_runV (S : CallFix p m c cc nL s args Ts own) (hM : vx_Met l y ws rm Pc Qc XC mc ms free) (cw : CallW R s args own C index y bytes maxL ret ws rm mc ms n) (hp : PreV s H C b Pc As)
    (hg : g.method = m) (hn : As.length = n) (hsize : g.locals.size = nL) (hstack : g.stack = As.reverse ++ .ref b :: rest) (hW : 2 * g.monitorRoom + (rest.map fun v => v.category).sum ≤ 8) (hdg : decode cc g.pc = .ok (.invokevirtual index, 3)) (hf : cells + mc ≤ R.cells ∧ slots + ms ≤ R.slots) :
    vx_Run p l e R s m args below meth c H locs cells slots mc ms g rest (Qc (Value.ref b :: As).toArray) XC free := by
  have hK : vx_Back l R p e below s args y 3 8 (PreOf R mc ms Pc) (PostOf Qc mc ms free) (vx_Post XC mc ms free) := vx_callBack cw.1 hM hp.1
  obtain ⟨⟨-, -, -, -, -, -, hcode, -, hy, hlen, hl⟩, hin, hse⟩ := cw
  obtain ⟨hx, hb, hml, ho, -⟩ := S
  obtain ⟨-, ⟨cellB, hcB, hoB, hclB⟩, hPc⟩ := hp
  intro T hT X
  rcases vx_callV X hx (C := C) (bytes := bytes) (maxL := maxL) (ret := ret) ho hl hin hse hcode hy hK (by rw [hT]; exact hcB) hoB hclB hg (hsize.trans hml.symm) (argsL := As) (rest := rest) (fun sig h => hn.trans (hlen sig h)) hstack hW (by rw [hb]; exact hdg)
    (fun vm₁ hW₁ => ⟨hf.1, hf.2, hPc (T.setVm vm₁) hT hW₁⟩) with ⟨v, vm₁, ⟨U', l2, c2, s2⟩, hW₁, X', ⟨g', mk, t, L, e1, e2, hq, h1, hL, h2, h3⟩, st⟩ | ⟨q, vm₁, ⟨U', l2, c2, s2⟩, hW₁, X', ⟨g', mk, t, L, E, ce, e1, e2, hq, hce, hcv, hcl, h1, hL, h2, h3⟩, st⟩
  · dsimp only [Pt.U, Pt.locs, Pt.cells, Pt.slots] at X' e1 e2 h1 h2 h3 st
    subst h1; subst h2; subst h3
    exact Or.inl ⟨v, (T.setVm vm₁).calling g' mk (Value.ref b :: As).toArray, t, U', L, hT, X', hL, e1, e2, hq, st⟩
  · dsimp only [Pt.U, Pt.locs, Pt.cells, Pt.slots] at X' e1 e2 h1 h2 h3 st hcl
    subst h1; subst h2; subst h3
    exact Or.inr ⟨q, (T.setVm vm₁).calling g' mk (Value.ref b :: As).toArray, t, U', L, E, ce, hT, X', hL, e1, e2, hq, hce, hcv, vx_cls hW₁ hcl, st⟩
theorem vx_runS (S : CallFix p m c cc nL s args Ts own) (hM : vx_Met l y ws rm Pc Qc XC mc ms free) (cw : CallB R s args own index y bytes maxL ret ws rm mc ms n ∧ (Cond.static y).before args s = true) (hp : PreS s H Pc As)
    (hg : g.method = m) (hn : As.length = n) (hsize : g.locals.size = nL) (hstack : g.stack = As.reverse ++ rest) (hW : 2 * g.monitorRoom + (rest.map fun v => v.category).sum ≤ 8) (hdg : decode cc g.pc = .ok (.invokestatic index, 3)) (hf : cells + mc ≤ R.cells ∧ slots + ms ≤ R.slots) :
    vx_Run p l e R s m args below meth c H locs cells slots mc ms g rest (Qc As.toArray) XC free := by
  have hK : vx_Back l R p e below s args y 3 8 (PreOf R mc ms Pc) (PostOf Qc mc ms free) (vx_Post XC mc ms free) := vx_callBack cw.1 hM hp.1
  obtain ⟨⟨-, -, -, -, -, -, hcode, hini, hy, hlen, hl⟩, hstt⟩ := cw
  obtain ⟨hx, hb, hml, ho, -⟩ := S
  intro T hT X
  rcases vx_callS X hx (bytes := bytes) (maxL := maxL) (ret := ret) ho hl hstt hini hcode hy hK hg (hsize.trans hml.symm) (argsL := As) (rest := rest) (fun sig h => hn.trans (hlen sig h)) hstack hW (by rw [hb]; exact hdg)
    (fun vm₁ hW₁ => ⟨hf.1, hf.2, hp.2 (T.setVm vm₁) hT hW₁⟩) with ⟨v, vm₁, ⟨U', l2, c2, s2⟩, hW₁, X', ⟨g', mk, t, L, e1, e2, hq, h1, hL, h2, h3⟩, st⟩ | ⟨q, vm₁, ⟨U', l2, c2, s2⟩, hW₁, X', ⟨g', mk, t, L, E, ce, e1, e2, hq, hce, hcv, hcl, h1, hL, h2, h3⟩, st⟩
  · dsimp only [Pt.U, Pt.locs, Pt.cells, Pt.slots] at X' e1 e2 h1 h2 h3 st
    subst h1; subst h2; subst h3
    exact Or.inl ⟨v, (T.setVm vm₁).calling g' mk As.toArray, t, U', L, hT, X', hL, e1, e2, hq, st⟩
  · dsimp only [Pt.U, Pt.locs, Pt.cells, Pt.slots] at X' e1 e2 h1 h2 h3 st hcl
    subst h1; subst h2; subst h3
    exact Or.inr ⟨q, (T.setVm vm₁).calling g' mk As.toArray, t, U', L, E, ce, hT, X', hL, e1, e2, hq, hce, hcv, vx_cls hW₁ hcl, st⟩
end Runs
section Rows
variable {p : Program} {l : Launch} {e : Env} {R : Room} {s : State} {m : MethodId} {args : Array Value} {below : List Frame} {meth : Method} {c : Code} {H : Heap} {locs : List Loc} {cells slots : Nat} {Q : State → Prop}
variable {mc ms : Nat} {free : Addr → Prop} {A0 A1 : Nat → Prop} {H0 : Heap} {a : Array Value} {pc : Nat} {ls : Array Slot} {st0 rest : List Value}
theorem vx_keep {st₀ t T' : State} {L : List Loc} (h0 : st₀.heap = H) (e1 : T'.heap = t.heap) (hS : va_S A0 H0 H locs) (hA : ∀ q, q < H.size → A1 q → A0 q) (hf : ∀ q, free q → A0 q) (hL : ∀ q ∈ L, free q.base) (hF : va_F A1 st₀ t) :
    H.size ≤ T'.heap.size ∧ (∀ q : Nat, q < H.size → ¬ A1 q → T'.heap[q]? = H[q]?) ∧ va_S A0 H0 T'.heap (locs ++ L) := by
  obtain ⟨hz, hk⟩ := hF
  rw [h0] at hz hk
  exact ⟨by rw [e1]; exact hz, fun q h1 h2 => by rw [e1]; exact hk q h1 h2,
    ⟨Nat.le_trans hS.1 (by rw [e1]; exact hz), fun q h1 h2 => by rw [e1, hk q (Nat.lt_of_lt_of_le h1 hS.1) (fun z => h2 (hA q (Nat.lt_of_lt_of_le h1 hS.1) z))]; exact hS.2.1 q h1 h2, fun q hq => by
      rcases List.mem_append.mp hq with h | h
      · exact hS.2.2 q h
      · exact hf _ (hL q h)⟩⟩
theorem vx_calli {S SX : Type} {post : Int32 → S → Prop} {px : SX → Prop} {B : S → State → Prop} {BX : String → SX → State → Prop} {AX : Nat → Prop} (hr : vx_Run p l e R s m args below meth c H locs cells slots mc ms (F0 m pc ls st0) rest (va_Qi post B A1 a) (vx_X px BX AX) free) (hS : va_S A0 H0 H locs) (hA : ∀ q, q < H.size → A1 q → A0 q) (hf : ∀ q, free q → A0 q) (hAX : ∀ q, q < H.size → AX q → A0 q)
    (kx : ∀ (E : String) (ce : Cell) (q9 : Addr) (u : SX) (t : State) (H1 : Heap) (locs1 : List Loc), t.heap = H1 → s.vm.Alike t.vm → px u → BX E u t → H.size ≤ H1.size → (∀ q : Nat, q < H.size → ¬ AX q → H1[q]? = H[q]?) → va_S A0 H0 H1 locs1 → H1[q9]? = some ce → ce.vm = .none → s.vm.findClass E = some ce.cls → vx_W p l e R s m args below meth c H1 locs1 (cells + mc) (slots + ms) Q (F0 m pc ls rest) q9)
    (kk : ∀ (r : Int32) (u : S) (t : State) (H1 : Heap) (locs1 : List Loc), t.heap = H1 → s.vm.Alike t.vm → post r u → B u t → H.size ≤ H1.size → (∀ q : Nat, q < H.size → ¬ A1 q → H1[q]? = H[q]?) → va_S A0 H0 H1 locs1 → W p l e R s m args below meth c H1 locs1 (cells + mc) (slots + ms) Q (F0 m (pc + 3) ls (.int r :: rest))) : W p l e R s m args below meth c H locs cells slots Q (F0 m pc ls st0) := by
  intro T hT X
  rcases hr T hT X with ⟨v, st₀, t, T', L, h0, X', hL, e1, e2, ⟨⟨r, u, hv, hp, hb⟩, hF⟩, st⟩ | ⟨q, st₀, t, T', L, E, ce, h0, X', hL, e1, e2, ⟨u, hp, hb, hF⟩, hce, hcv, hcl, st⟩
  · cases hv
    obtain ⟨k1, k2, k3⟩ := vx_keep h0 e1 hS hA hf hL hF
    obtain ⟨t2, a1, b1⟩ := kk r u t T'.heap (locs ++ L) e1.symm (by rw [← e2]; exact X'.warmed.alike) hp hb k1 k2 k3 T' rfl X'
    exact ⟨t2, st t2 a1, b1⟩
  · obtain ⟨k1, k2, k3⟩ := vx_keep h0 e1 hS hAX hf hL hF
    obtain ⟨t2, a1, b1⟩ := kx E ce q u t T'.heap (locs ++ L) e1.symm (by rw [← e2]; exact X'.warmed.alike) hp hb k1 k2 k3 (by rw [e1]; exact hce) hcv hcl T' rfl X'
    exact ⟨t2, st.trans a1, b1⟩
theorem vx_calll {S SX : Type} {post : Int64 → S → Prop} {px : SX → Prop} {B : S → State → Prop} {BX : String → SX → State → Prop} {AX : Nat → Prop} (hr : vx_Run p l e R s m args below meth c H locs cells slots mc ms (F0 m pc ls st0) rest (va_Ql post B A1 a) (vx_X px BX AX) free) (hS : va_S A0 H0 H locs) (hA : ∀ q, q < H.size → A1 q → A0 q) (hf : ∀ q, free q → A0 q) (hAX : ∀ q, q < H.size → AX q → A0 q)
    (kx : ∀ (E : String) (ce : Cell) (q9 : Addr) (u : SX) (t : State) (H1 : Heap) (locs1 : List Loc), t.heap = H1 → s.vm.Alike t.vm → px u → BX E u t → H.size ≤ H1.size → (∀ q : Nat, q < H.size → ¬ AX q → H1[q]? = H[q]?) → va_S A0 H0 H1 locs1 → H1[q9]? = some ce → ce.vm = .none → s.vm.findClass E = some ce.cls → vx_W p l e R s m args below meth c H1 locs1 (cells + mc) (slots + ms) Q (F0 m pc ls rest) q9)
    (kk : ∀ (r : Int64) (u : S) (t : State) (H1 : Heap) (locs1 : List Loc), t.heap = H1 → s.vm.Alike t.vm → post r u → B u t → H.size ≤ H1.size → (∀ q : Nat, q < H.size → ¬ A1 q → H1[q]? = H[q]?) → va_S A0 H0 H1 locs1 → W p l e R s m args below meth c H1 locs1 (cells + mc) (slots + ms) Q (F0 m (pc + 3) ls (.long r :: rest))) : W p l e R s m args below meth c H locs cells slots Q (F0 m pc ls st0) := by
  intro T hT X
  rcases hr T hT X with ⟨v, st₀, t, T', L, h0, X', hL, e1, e2, ⟨⟨r, u, hv, hp, hb⟩, hF⟩, st⟩ | ⟨q, st₀, t, T', L, E, ce, h0, X', hL, e1, e2, ⟨u, hp, hb, hF⟩, hce, hcv, hcl, st⟩
  · cases hv
    obtain ⟨k1, k2, k3⟩ := vx_keep h0 e1 hS hA hf hL hF
    obtain ⟨t2, a1, b1⟩ := kk r u t T'.heap (locs ++ L) e1.symm (by rw [← e2]; exact X'.warmed.alike) hp hb k1 k2 k3 T' rfl X'
    exact ⟨t2, st t2 a1, b1⟩
  · obtain ⟨k1, k2, k3⟩ := vx_keep h0 e1 hS hAX hf hL hF
    obtain ⟨t2, a1, b1⟩ := kx E ce q u t T'.heap (locs ++ L) e1.symm (by rw [← e2]; exact X'.warmed.alike) hp hb k1 k2 k3 (by rw [e1]; exact hce) hcv hcl T' rfl X'
    exact ⟨t2, st.trans a1, b1⟩
theorem vx_callf {S SX : Type} {post : UInt32 → S → Prop} {px : SX → Prop} {B : S → State → Prop} {BX : String → SX → State → Prop} {AX : Nat → Prop} (hr : vx_Run p l e R s m args below meth c H locs cells slots mc ms (F0 m pc ls st0) rest (va_Qf post B A1 a) (vx_X px BX AX) free) (hS : va_S A0 H0 H locs) (hA : ∀ q, q < H.size → A1 q → A0 q) (hf : ∀ q, free q → A0 q) (hAX : ∀ q, q < H.size → AX q → A0 q)
    (kx : ∀ (E : String) (ce : Cell) (q9 : Addr) (u : SX) (t : State) (H1 : Heap) (locs1 : List Loc), t.heap = H1 → s.vm.Alike t.vm → px u → BX E u t → H.size ≤ H1.size → (∀ q : Nat, q < H.size → ¬ AX q → H1[q]? = H[q]?) → va_S A0 H0 H1 locs1 → H1[q9]? = some ce → ce.vm = .none → s.vm.findClass E = some ce.cls → vx_W p l e R s m args below meth c H1 locs1 (cells + mc) (slots + ms) Q (F0 m pc ls rest) q9)
    (kk : ∀ (r : UInt32) (u : S) (t : State) (H1 : Heap) (locs1 : List Loc), t.heap = H1 → s.vm.Alike t.vm → post r u → B u t → H.size ≤ H1.size → (∀ q : Nat, q < H.size → ¬ A1 q → H1[q]? = H[q]?) → va_S A0 H0 H1 locs1 → W p l e R s m args below meth c H1 locs1 (cells + mc) (slots + ms) Q (F0 m (pc + 3) ls (.float r :: rest))) : W p l e R s m args below meth c H locs cells slots Q (F0 m pc ls st0) := by
  intro T hT X
  rcases hr T hT X with ⟨v, st₀, t, T', L, h0, X', hL, e1, e2, ⟨⟨r, u, hv, hp, hb⟩, hF⟩, st⟩ | ⟨q, st₀, t, T', L, E, ce, h0, X', hL, e1, e2, ⟨u, hp, hb, hF⟩, hce, hcv, hcl, st⟩
  · cases hv
    obtain ⟨k1, k2, k3⟩ := vx_keep h0 e1 hS hA hf hL hF
    obtain ⟨t2, a1, b1⟩ := kk r u t T'.heap (locs ++ L) e1.symm (by rw [← e2]; exact X'.warmed.alike) hp hb k1 k2 k3 T' rfl X'
    exact ⟨t2, st t2 a1, b1⟩
  · obtain ⟨k1, k2, k3⟩ := vx_keep h0 e1 hS hAX hf hL hF
    obtain ⟨t2, a1, b1⟩ := kx E ce q u t T'.heap (locs ++ L) e1.symm (by rw [← e2]; exact X'.warmed.alike) hp hb k1 k2 k3 (by rw [e1]; exact hce) hcv hcl T' rfl X'
    exact ⟨t2, st.trans a1, b1⟩
theorem vx_calld {S SX : Type} {post : UInt64 → S → Prop} {px : SX → Prop} {B : S → State → Prop} {BX : String → SX → State → Prop} {AX : Nat → Prop} (hr : vx_Run p l e R s m args below meth c H locs cells slots mc ms (F0 m pc ls st0) rest (va_Qd post B A1 a) (vx_X px BX AX) free) (hS : va_S A0 H0 H locs) (hA : ∀ q, q < H.size → A1 q → A0 q) (hf : ∀ q, free q → A0 q) (hAX : ∀ q, q < H.size → AX q → A0 q)
    (kx : ∀ (E : String) (ce : Cell) (q9 : Addr) (u : SX) (t : State) (H1 : Heap) (locs1 : List Loc), t.heap = H1 → s.vm.Alike t.vm → px u → BX E u t → H.size ≤ H1.size → (∀ q : Nat, q < H.size → ¬ AX q → H1[q]? = H[q]?) → va_S A0 H0 H1 locs1 → H1[q9]? = some ce → ce.vm = .none → s.vm.findClass E = some ce.cls → vx_W p l e R s m args below meth c H1 locs1 (cells + mc) (slots + ms) Q (F0 m pc ls rest) q9)
    (kk : ∀ (r : UInt64) (u : S) (t : State) (H1 : Heap) (locs1 : List Loc), t.heap = H1 → s.vm.Alike t.vm → post r u → B u t → H.size ≤ H1.size → (∀ q : Nat, q < H.size → ¬ A1 q → H1[q]? = H[q]?) → va_S A0 H0 H1 locs1 → W p l e R s m args below meth c H1 locs1 (cells + mc) (slots + ms) Q (F0 m (pc + 3) ls (.double r :: rest))) : W p l e R s m args below meth c H locs cells slots Q (F0 m pc ls st0) := by
  intro T hT X
  rcases hr T hT X with ⟨v, st₀, t, T', L, h0, X', hL, e1, e2, ⟨⟨r, u, hv, hp, hb⟩, hF⟩, st⟩ | ⟨q, st₀, t, T', L, E, ce, h0, X', hL, e1, e2, ⟨u, hp, hb, hF⟩, hce, hcv, hcl, st⟩
  · cases hv
    obtain ⟨k1, k2, k3⟩ := vx_keep h0 e1 hS hA hf hL hF
    obtain ⟨t2, a1, b1⟩ := kk r u t T'.heap (locs ++ L) e1.symm (by rw [← e2]; exact X'.warmed.alike) hp hb k1 k2 k3 T' rfl X'
    exact ⟨t2, st t2 a1, b1⟩
  · obtain ⟨k1, k2, k3⟩ := vx_keep h0 e1 hS hAX hf hL hF
    obtain ⟨t2, a1, b1⟩ := kx E ce q u t T'.heap (locs ++ L) e1.symm (by rw [← e2]; exact X'.warmed.alike) hp hb k1 k2 k3 (by rw [e1]; exact hce) hcv hcl T' rfl X'
    exact ⟨t2, st.trans a1, b1⟩
theorem vx_callv {S SX : Type} {post : S → Prop} {px : SX → Prop} {B : S → State → Prop} {BX : String → SX → State → Prop} {AX : Nat → Prop} (hr : vx_Run p l e R s m args below meth c H locs cells slots mc ms (F0 m pc ls st0) rest (va_Qv post B A1 a) (vx_X px BX AX) free) (hS : va_S A0 H0 H locs) (hA : ∀ q, q < H.size → A1 q → A0 q) (hf : ∀ q, free q → A0 q) (hAX : ∀ q, q < H.size → AX q → A0 q)
    (kx : ∀ (E : String) (ce : Cell) (q9 : Addr) (u : SX) (t : State) (H1 : Heap) (locs1 : List Loc), t.heap = H1 → s.vm.Alike t.vm → px u → BX E u t → H.size ≤ H1.size → (∀ q : Nat, q < H.size → ¬ AX q → H1[q]? = H[q]?) → va_S A0 H0 H1 locs1 → H1[q9]? = some ce → ce.vm = .none → s.vm.findClass E = some ce.cls → vx_W p l e R s m args below meth c H1 locs1 (cells + mc) (slots + ms) Q (F0 m pc ls rest) q9)
    (kk : ∀ (u : S) (t : State) (H1 : Heap) (locs1 : List Loc), t.heap = H1 → s.vm.Alike t.vm → post u → B u t → H.size ≤ H1.size → (∀ q : Nat, q < H.size → ¬ A1 q → H1[q]? = H[q]?) → va_S A0 H0 H1 locs1 → W p l e R s m args below meth c H1 locs1 (cells + mc) (slots + ms) Q (F0 m (pc + 3) ls (rest))) : W p l e R s m args below meth c H locs cells slots Q (F0 m pc ls st0) := by
  intro T hT X
  rcases hr T hT X with ⟨v, st₀, t, T', L, h0, X', hL, e1, e2, ⟨⟨u, hv, hp, hb⟩, hF⟩, st⟩ | ⟨q, st₀, t, T', L, E, ce, h0, X', hL, e1, e2, ⟨u, hp, hb, hF⟩, hce, hcv, hcl, st⟩
  · cases hv
    obtain ⟨k1, k2, k3⟩ := vx_keep h0 e1 hS hA hf hL hF
    obtain ⟨t2, a1, b1⟩ := kk u t T'.heap (locs ++ L) e1.symm (by rw [← e2]; exact X'.warmed.alike) hp hb k1 k2 k3 T' rfl X'
    exact ⟨t2, st t2 a1, b1⟩
  · obtain ⟨k1, k2, k3⟩ := vx_keep h0 e1 hS hAX hf hL hF
    obtain ⟨t2, a1, b1⟩ := kx E ce q u t T'.heap (locs ++ L) e1.symm (by rw [← e2]; exact X'.warmed.alike) hp hb k1 k2 k3 (by rw [e1]; exact hce) hcv hcl T' rfl X'
    exact ⟨t2, st.trans a1, b1⟩
/-- caught by the row x of this method's table; the rows ahead don't take it -/
theorem vx_catch {own name : String} {E : String} {ce : Cell} {q : Addr} (hown : s.vm.findClass own = some m.cls) (pre : List ExceptionTableEntry) (x : ExceptionTableEntry) (suf : List ExceptionTableEntry) (hsplit : c.exceptionTable.toList = pre ++ x :: suf)
    (hpass : ∀ z ∈ pre, covers z pc = false ∨ (z.catchType ≠ 0 ∧ ∃ nm : String, (Cond.classLink own z.catchType nm).before args s = true ∧ va_Nc E nm s)) (hx : covers x pc = true) (h0 : x.catchType ≠ 0)
    (hlink : (Cond.classLink own x.catchType name).before args s = true) (hcast : (Cond.castable E name).before args s = true) (hcell : H[q]? = some ce) (hv : ce.vm = .none) (hcl : s.vm.findClass E = some ce.cls)
    (kk : W p l e R s m args below meth c H locs cells slots Q (F0 m x.handlerPc ls [.ref q])) : vx_W p l e R s m args below meth c H locs cells slots Q (F0 m pc ls rest) q := by
  intro T hT X
  have hpl : e.platform.magicAccessors = ({} : Platform).magicAccessors := by rw [X.admits.platform]
  obtain ⟨c3, c4, hc3, hc4, hasg⟩ := Cond.castable_spec hcast
  cases Option.some.inj (hc3.symm.trans hcl)
  obtain ⟨c5, hc5, hcl5⟩ := Cond.classLink_spec hown hlink e.platform hpl
  cases Option.some.inj (hc4.symm.trans hc5)
  obtain ⟨vm', X', st⟩ := X.thenCaughtThrough q (g := F0 m pc ls rest) rfl (Steps.refl _) (by rw [hT]; exact hcell) (by rw [hv]; rfl) (by obtain ⟨k9, h9, -⟩ := Vm.findClass_spec hcl; exact ⟨k9, h9⟩) pre x suf hsplit
    (fun z hz => by
      rcases hpass z hz with h | ⟨hz0, nm, hl1, hn1⟩
      · exact Or.inl h
      · obtain ⟨c6, hc6, hcl6⟩ := Cond.classLink_spec hown hl1 e.platform hpl
        obtain ⟨a8, b8, h1, h2, h3⟩ := hn1
        cases Option.some.inj (h1.symm.trans hcl)
        cases Option.some.inj (h2.symm.trans hc6)
        exact Or.inr ⟨hz0, _, hcl6, h3⟩) hx (Or.inr ⟨h0, c4, hcl5, hasg⟩)
  obtain ⟨t, a1, b1⟩ := kk (T.setVm vm') hT X'
  exact ⟨t, st.trans a1, b1⟩
end Rows
section Ends
variable {p : Program} {l : Launch} {e : Env} {R : Room} {s : State} {m : MethodId} {args : Array Value} {below : List Frame} {meth : Method} {c : Code} {H : Heap} {locs : List Loc} {cells slots : Nat} {Q : State → Prop}
variable {mc ms : Nat} {free : Addr → Prop} {A0 A1 : Nat → Prop} {H0 : Heap} {a : Array Value} {ls : Array Slot} {st0 rest : List Value}
variable {Qc : Array Value → State → Outcome → State → Prop} {XC : String → State → State → Prop}
/-- what a body that may throw owes at its end -/
def vx_MQ (below : List Frame) (Qc : Array Value → State → Outcome → State → Prop) (XC : String → State → State → Prop) (a : Array Value) (s : State) (mc ms : Nat) (free : Addr → Prop) : State → Prop := fun t =>
  ∃ o, t.status = .running ∧ Ended t below o ∧ vx_Q Qc XC mc ms free a s o t
theorem vx_ret {g : JFrame} {mc ms : Nat} (k : W p l e R s m args below meth c H locs cells slots (MQ below Qc args s mc ms free) g) : W p l e R s m args below meth c H locs cells slots (vx_MQ below Qc XC args s mc ms free) g := by
  intro T hT X
  obtain ⟨t, a1, o, b1, b2, b3, b4⟩ := k T hT X
  exact ⟨t, a1, o, b1, b2, Or.inl ⟨b3, b4⟩⟩
/-- not caught here: it goes on to the caller -/
theorem vx_widen {g : JFrame} {q : Addr} {k n : Nat} (h1 : cells ≤ k) (h2 : slots ≤ n) (kk : vx_W p l e R s m args below meth c H locs k n Q g q) : vx_W p l e R s m args below meth c H locs cells slots Q g q := fun T hT X => kk T hT (stand_widen X h1 h2)
theorem vx_out {pc : Nat} {E : String} {ce : Cell} {q : Addr} {mc ms : Nat} (hout : ∀ x ∈ c.exceptionTable.toList, covers x pc = false) (hlocks : meth.locks = false) (hcell : H[q]? = some ce) (hv : ce.vm = .none) (hcl : s.vm.findClass E = some ce.cls)
    (hx : ∀ t : State, t.heap = H → s.vm.Alike t.vm → XC E s t) (hf : ∀ z ∈ locs, free z.base) (hc : cells ≤ mc) (hs : slots ≤ ms) :
    vx_W p l e R s m args below meth c H locs cells slots (vx_MQ below Qc XC args s mc ms free) (F0 m pc ls rest) q := by
  intro T hT X
  obtain ⟨st1, hrun, hend, hW, hsm⟩ := X.leaveThrown q (g := F0 m pc ls rest) rfl rfl rfl hout hlocks
  have hcell9 : (T.setFrames (.throwing q :: below)).heap[q]? = some ce := by
    show T.heap[q]? = some ce
    rw [hT]; exact hcell
  exact ⟨_, st1, .threw q, hrun, hend, Or.inr ⟨q, rfl, E, ce, locs, hx _ hT hW.alike, hcell9, hv, hcl, hW, hsm.mono hc hs, hf⟩⟩
theorem vx_frame {U : State} {k n : Nat} (h : s.sameButNew ({ U with vm := s.vm } : State) locs k n) : s.heap.size ≤ U.heap.size ∧ ∀ q : Nat, q < s.heap.size → (∀ z ∈ locs, z.base ≠ q) → U.heap[q]? = s.heap[q]? := by
  obtain ⟨-, h2, -, -, -, h6⟩ := h
  refine ⟨h2, fun q hq hz => ?_⟩
  obtain ⟨c9, e1, e2, e3, e4⟩ := h6 q _ (Array.getElem?_eq_getElem hq)
  have hs : c9.slots = (s.heap[q]).slots := Array.ext_getElem? fun i => e4 i fun hm => hz _ hm rfl
  have h9 : c9 = s.heap[q] := by
    rw [hs] at e2
    exact e2
  have e5 : U.heap[q]? = some c9 := e1
  rw [e5, h9, Array.getElem?_eq_getElem hq]
/-- the words of a throw but the four that speak of the heap -/
def vx_no (w : Cond) : Bool := decide (w ≠ .isRef (.static Bundle.tN "UNASSIGNED_STACK" Bundle.steD)) && decide (w ≠ .isRef (.static Bundle.tN "SUPPRESSED_SENTINEL" Bundle.listD)) && decide (w ≠ .laysStatic Bundle.tN "UNASSIGNED_STACK" Bundle.steD) && decide (w ≠ .laysStatic Bundle.tN "SUPPRESSED_SENTINEL" Bundle.listD)
def vx_at0 (own : String) (ic : Nat) (X : String) (names : List String) : List Cond := (Bundle.ownAtoms0 own ic X names).filter vx_no
def vx_atS (own : String) (ic : Nat) (X : String) (names : List String) : List Cond := (Bundle.ownAtoms own ic X names).filter vx_no
/-- a word that the tables alone decide, or a good one -/
def vx_ot (w : Cond) : Bool := w.onTables || goodWord w
theorem vx_ot_at {args a' : Array Value} {s U : State} {w : Cond} (hW : s.WarmedH U.vm) (hvm : s.vm = U.vm) (hg : vx_ot w = true) (h : w.before args s = true) : w.before a' U = true := by
  simp only [vx_ot, Bool.or_eq_true] at hg
  rcases hg with hg | hg
  · exact va_tabs hg hvm h
  · exact word_at hW (good_of_word hg) h
/-- a list's words: the good ones out of the method's own list, the others by premises of their own -/
theorem vx_hat {args : Array Value} {s : State} {L B : List Cond} (h1 : ∀ w ∈ L.filter goodWord, w.before args s = true) (h2 : ∀ w ∈ L.filter (fun w => !goodWord w), w ∈ B) (h3 : ∀ w ∈ B, w.before args s = true) : ∀ w ∈ L, w.before args s = true := by
  intro w hw
  by_cases g : goodWord w = true
  · exact h1 w (List.mem_filter.mpr ⟨hw, g⟩)
  · refine h3 w (h2 w (List.mem_filter.mpr ⟨hw, ?_⟩))
    show (!goodWord w) = true
    cases hgw : goodWord w
    · rfl
    · exact absurd hgw g
theorem vx_c {args : Array Value} {s : State} {w : Cond} {B : List Cond} (h : w.before args s = true) (t : ∀ w ∈ B, w.before args s = true) : ∀ w' ∈ w :: B, w'.before args s = true := fun w' h' => (List.mem_cons.mp h').elim (fun e => by rw [e]; exact h) (t w')
theorem vx_n {args : Array Value} {s : State} : ∀ w ∈ ([] : List Cond), w.before args s = true := fun _ h => nomatch h
theorem vx_own {args : Array Value} {s : State} {L : List Cond} (h1 : ∀ w ∈ L.filter vx_no, w.before args s = true)
    (hU : (Cond.isRef (.static Bundle.tN "UNASSIGNED_STACK" Bundle.steD)).before args s = true) (hN : (Cond.isRef (.static Bundle.tN "SUPPRESSED_SENTINEL" Bundle.listD)).before args s = true)
    (lU : (Cond.laysStatic Bundle.tN "UNASSIGNED_STACK" Bundle.steD).before args s = true) (lN : (Cond.laysStatic Bundle.tN "SUPPRESSED_SENTINEL" Bundle.listD).before args s = true) : ∀ w ∈ L, w.before args s = true := by
  intro w hw
  by_cases e1 : w = .isRef (.static Bundle.tN "UNASSIGNED_STACK" Bundle.steD)
  · rw [e1]; exact hU
  · by_cases e2 : w = .isRef (.static Bundle.tN "SUPPRESSED_SENTINEL" Bundle.listD)
    · rw [e2]; exact hN
    · by_cases e3 : w = .laysStatic Bundle.tN "UNASSIGNED_STACK" Bundle.steD
      · rw [e3]; exact lU
      · by_cases e4 : w = .laysStatic Bundle.tN "SUPPRESSED_SENTINEL" Bundle.listD
        · rw [e4]; exact lN
        · exact h1 w (List.mem_filter.mpr ⟨hw, by unfold vx_no; rw [decide_eq_true e1, decide_eq_true e2, decide_eq_true e3, decide_eq_true e4]; rfl⟩)
/-- where a static field lies, its class's statics cell in H -/
def vx_L (C n d : String) (A : Nat → Prop) (U : State) (H : Heap) : Prop := ∃ (c : ClassId) (k : Class) (i : Nat) (f : Field) (a : Nat) (cell : Cell), U.vm.findClass C = some c ∧ U.fieldFound? C n d = some (c, k, i, f) ∧ f.isStatic = true ∧ k.statics = some a ∧ H[a]? = some cell ∧ cell.vm.isStatics = true ∧ cell.cls = c ∧ f.slot < cell.slots.size ∧ k.staticTypes[f.slot]? = some f.type ∧ ¬ A a
theorem vx_L.moved {C n d : String} {A : Nat → Prop} {u U : State} {H : Heap} (hvm : u.vm.Alike U.vm) (h : vx_L C n d A u H) : vx_L C n d A U H := by
  obtain ⟨c, k, i, f, a, cell, h1, h2, h3, h4, h5, h6, h7, h8, h9, h10⟩ := h
  obtain ⟨k', hi', he⟩ := State.fieldFound?_setVm hvm h2
  exact ⟨c, k', i, f, a, cell, by rw [hvm.findClass]; exact h1, hi', h3, by rw [he]; exact h4, h5, h6, h7, h8, by rw [he]; exact h9, h10⟩
theorem vx_L.kept {C n d : String} {A : Nat → Prop} {U : State} {H H1 : Heap} (h : vx_L C n d A U H) (hq : ∀ a : Nat, a < H.size → ¬ A a → H1[a]? = H[a]?) : vx_L C n d A U H1 := by
  obtain ⟨c, k, i, f, a, cell, h1, h2, h3, h4, h5, h6, h7, h8, h9, h10⟩ := h
  exact ⟨c, k, i, f, a, cell, h1, h2, h3, h4, by rw [hq a (Array.getElem?_eq_some_iff.mp h5).1 h10]; exact h5, h6, h7, h8, h9, h10⟩
theorem vx_L.narrow {C n d : String} {A B : Nat → Prop} {U : State} {H : Heap} (h : vx_L C n d A U H) (hAB : ∀ q, B q → A q) : vx_L C n d B U H := by
  obtain ⟨c, k, i, f, a, cell, h1, h2, h3, h4, h5, h6, h7, h8, h9, h10⟩ := h
  exact ⟨c, k, i, f, a, cell, h1, h2, h3, h4, h5, h6, h7, h8, h9, fun z => h10 (hAB _ z)⟩
theorem vx_L.word {C n d : String} {A : Nat → Prop} {s : State} {args : Array Value} (h : vx_L C n d A s s.heap) : (Cond.laysStatic C n d).before args s = true := by
  obtain ⟨c, k, i, f, a, cell, h1, h2, h3, h4, h5, h6, h7, h8, h9, -⟩ := h
  show (Cond.laysStatic C n d).holds args s none s [] = true
  exact Cond.laysStatic_of h1 h2 h3 h4 h5 h6 h7 h8 h9
/-- .. and what it holds: null or some reference -/
def vx_Zq (C n d : String) (A : Nat → Prop) (U : State) (H : Heap) : Prop := va_Zq C n d A U H ∧ vx_L C n d A U H
theorem vx_Zq.moved {C n d : String} {A : Nat → Prop} {u U : State} {H : Heap} (hvm : u.vm.Alike U.vm) (h : vx_Zq C n d A u H) : vx_Zq C n d A U H := ⟨va_Zq.moved hvm h.1, vx_L.moved hvm h.2⟩
theorem vx_Zq.kept {C n d : String} {A : Nat → Prop} {U : State} {H H1 : Heap} (h : vx_Zq C n d A U H) (hq : ∀ a : Nat, a < H.size → ¬ A a → H1[a]? = H[a]?) : vx_Zq C n d A U H1 := ⟨va_Zq.kept h.1 hq, vx_L.kept h.2 hq⟩
theorem vx_Zq.narrow {C n d : String} {A B : Nat → Prop} {U : State} {H : Heap} (h : vx_Zq C n d A U H) (hAB : ∀ q, B q → A q) : vx_Zq C n d B U H := ⟨va_Zq.narrow h.1 hAB, vx_L.narrow h.2 hAB⟩
theorem vx_Zqof {args : Array Value} {s : State} {C n d : String} {A : Nat → Prop} (hl : (Cond.laysStatic C n d).before args s = true) (hini : (Cond.initialized C).before args s = true) (h : (Cond.isRef (.static C n d)).before args s = true) (hA : ∀ a : Nat, a < s.heap.size → ¬ A a) : vx_Zq C n d A s s.heap := by
  refine ⟨va_Zqof hl hini h hA, ?_⟩
  obtain ⟨c, k, i, f, a, cell, h1, h2, h3, h4, h5, h6, h7, h8, h9⟩ := Cond.laysStatic_spec hl
  exact ⟨c, k, i, f, a, cell, h1, h2, h3, h4, h5, h6, h7, h8, h9, hA a (Array.getElem?_eq_some_iff.mp h5).1⟩
theorem vx_isRef {C n d : String} {v : Value} {A : Nat → Prop} {s : State} {args : Array Value} (h : va_Z C n d v A s s.heap) (hv : v.isRef = true) : (Cond.isRef (.static C n d)).before args s = true := by
  obtain ⟨cf, kf, fi, f, a, cell, h1, h2, h3, h4, h5, h6, h7, -⟩ := h
  have he : (Term.static C n d).eval args s none [] s = some v := by
    simp [Term.eval, State.fieldNamed?, h1, h2, h4, h5, h6, h7]
  simp only [Cond.before, Cond.holds, Cond.value, he]
  cases v <;> simp_all [Value.isRef]
theorem vx_isRefq {C n d : String} {A : Nat → Prop} {s : State} {args : Array Value} (h : va_Zq C n d A s s.heap) : (Cond.isRef (.static C n d)).before args s = true := by
  rcases h with h | ⟨t, h⟩
  · exact vx_isRef h rfl
  · exact vx_isRef h rfl
/-- the same frame, seen from here: as if the method were called anew in this heap -/
theorem vx_rebase {T : State} (X : Stand p l e R s m args below meth c T locs cells slots) {R' : Room} (hf : R'.frames ≤ R.frames) (hl : R'.locals ≤ R.locals) (hc : cells + R'.cells ≤ R.cells) (hs : slots + R'.slots ≤ R.slots) :
    Stand p l e R' ((T.setVm s.vm).setFrames (.invoking m args :: below)) m args below meth c T [] 0 0 := by
  have htop : (T.setVm s.vm).topJava?.isSome := X.here.top
  have hF : ((T.setVm s.vm).setFrames (.invoking m args :: below)).frames = .invoking m args :: below := State.frames_setFrames _ (State.cur_lt_of_top htop)
  obtain ⟨g₀, hg0⟩ := Option.isSome_iff_exists.mp htop
  obtain ⟨r, hr⟩ := State.topJava?_eq_some.mp hg0
  have hl9 : e.platform.stackLimits (T.setVm s.vm).me = e.platform.stackLimits s.me := X.limits
  have hb9 : (T.setVm s.vm).me.stackBytes = s.me.stackBytes := X.bytes
  refine ⟨X.admits, X.cas, X.clock, hF, ?_, X.hears, X.method, X.code, X.here, X.tail, X.warmed, ?_, ?_, ?_⟩
  · have h := X.room
    have hU : ((T.setVm s.vm).setFrames (.invoking m args :: below)).localsInUse = s.localsInUse := by
      rw [State.localsInUse_invoking hF (meth := meth) (c := c) X.method X.code, State.localsInUse_invoking X.frames X.method X.code]
    simp only [State.hasRoom, Bool.and_eq_true, decide_eq_true_eq] at h ⊢
    obtain ⟨⟨⟨⟨h1, h2, h3, h4, h5, h6⟩, h7⟩, h8⟩, h9⟩ := h
    rw [X.frames, List.length_cons] at h2 h3
    have q1 := X.heapSize
    have q2 := X.used
    simp only [hF, hU, List.length_cons, State.stackLimits_setFrames, State.stackBytes_setFrames, hl9, hb9]
    refine ⟨⟨⟨⟨by omega, by omega, by omega, by omega, by omega, h6⟩, ?_⟩, ?_⟩, X.book⟩
    · show T.heap.size + R'.cells ≤ e.platform.maxCells
      omega
    · show T.slotsUsed + R'.slots ≤ e.platform.maxSlots
      omega
  · rw [State.stackLimits_setFrames]; rfl
  · rw [State.stackBytes_setFrames]; rfl
  · refine ⟨?_, Nat.le_refl _, Nat.le_refl _, ?_, ?_, fun a c9 h9 => ⟨c9, h9, rfl, rfl, fun _ _ => rfl⟩⟩
    · obtain ⟨t, ht, -⟩ := State.frames_cons hr
      show T.setVm s.vm = { ((T.setVm s.vm).setFrames (.invoking m args :: below)).setFrames (T.setVm s.vm).frames with heap := T.heap, slotsUsed := T.slotsUsed }
      rw [State.setFrames_setFrames, State.setFrames_self ht]
      rfl
    · show T.slotsUsed = T.slotsUsed + ((T.heap.toList.drop T.heap.size).map (·.slots.size)).sum
      rw [List.drop_eq_nil_of_le (Nat.le_of_eq Array.length_toList)]
      rfl
    · show ((T.heap.toList.drop T.heap.size).map (·.slots.size)).sum ≤ 0
      rw [List.drop_eq_nil_of_le (Nat.le_of_eq Array.length_toList)]
      exact Nat.le_refl _
/-- 'throw new E()': new; dup; invokespecial; athrow -/
theorem vx_throw0 {cc : ByteArray} {pc : Nat} (hexec : p.tables.exec = Jvm.exec) (hb : c.code = cc) (hl : l.stackTraces = false) {own cls : String} {names : List String} {ik ic mc ms : Nat} {A : Nat → Prop}
    (hown : s.vm.findClass own = some m.cls) (hcls : Bundle.fit cls = true) (hnames : ∀ n ∈ names, Bundle.fit n = true)
    (hk : (Cond.classLink own ik cls).before args s = true) (hini : (Cond.initialized cls).before args s = true) (hat : ∀ w ∈ vx_at0 own ic cls names, w.before args s = true)
    (hgood : ∀ w ∈ Cond.classLink own ik cls :: Cond.initialized cls :: vx_at0 own ic cls names, vx_ot w = true)
    (hU : vx_Zq Bundle.tN "UNASSIGNED_STACK" Bundle.steD A s s.heap) (hN : vx_Zq Bundle.tN "SUPPRESSED_SENTINEL" Bundle.listD A s s.heap) (hS : va_S A s.heap H locs) (hsize : ls.size = c.maxLocals)
    (d0 : decode cc pc = .ok (.new ik, 3)) (d3 : decode cc (pc + 3) = .ok (.dup, 1)) (d4 : decode cc (pc + 4) = .ok (.invokespecial ic, 3)) (d7 : decode cc (pc + 7) = .ok (.athrow, 1))
    (hout : ∀ x ∈ c.exceptionTable.toList, covers x (pc + 7) = false)
    (hRframes : names.length + 3 < R.frames) (hRlocals : (rest.map fun v => v.category).sum + (13 * (names.length + 1) + 42) ≤ R.locals) (hRcells : cells + 1 ≤ R.cells) (hRslots : slots + 6 ≤ R.slots) (hlocks : meth.locks = false)
    (hx : ∀ t : State, s.vm.Alike t.vm → H.size ≤ t.heap.size → (∀ q : Nat, q < H.size → t.heap[q]? = H[q]?) → XC cls s t)
    (hf : ∀ z ∈ locs, free z.base) (hc : cells + 1 ≤ mc) (hs : slots + 6 ≤ ms) :
    W p l e R s m args below meth c H locs cells slots (vx_MQ below Qc XC args s mc ms free) (F0 m pc ls rest) := by
  intro T hT X
  have htr : e.platform.stackTraces = false := (show e.platform.stackTraces = l.stackTraces by rw [X.admits.platform]).trans hl
  have Y := vx_rebase X (R' := { frames := R.frames, locals := R.locals, cells := 1, slots := 6 }) (Nat.le_refl _) (Nat.le_refl _) hRcells hRslots
  obtain ⟨s', hA⟩ : ∃ z, z = (T.setVm s.vm).setFrames (.invoking m args :: below) := ⟨_, rfl⟩
  rw [← hA] at Y
  have hvm : s'.vm = s.vm := by rw [hA]; rfl
  have hhp : s'.heap = H := by rw [hA]; exact hT
  have hW0 : s.WarmedH s'.vm := by rw [hvm]; exact State.WarmedH.refl s
  have hat' : ∀ w ∈ vx_at0 own ic cls names, w.before args s' = true := fun w hw => vx_ot_at hW0 hvm.symm (hgood w (List.mem_cons_of_mem _ (List.mem_cons_of_mem _ hw))) (hat w hw)
  have hk' : (Cond.classLink own ik cls).before args s' = true := vx_ot_at hW0 hvm.symm (hgood _ List.mem_cons_self) hk
  have hini' : (Cond.initialized cls).before args s' = true := vx_ot_at hW0 hvm.symm (hgood _ (List.mem_cons_of_mem _ List.mem_cons_self)) hini
  have hU' : vx_Zq Bundle.tN "UNASSIGNED_STACK" Bundle.steD A s' s'.heap := by rw [hhp]; exact vx_Zq.moved hW0.alike (hU.kept hS.2.1)
  have hN' : vx_Zq Bundle.tN "SUPPRESSED_SENTINEL" Bundle.listD A s' s'.heap := by rw [hhp]; exact vx_Zq.moved hW0.alike (hN.kept hS.2.1)
  have h : ∀ w ∈ Bundle.ownAtoms0 own ic cls names, w.before args s' = true := vx_own hat' (vx_isRefq hU'.1) (vx_isRefq hN'.1) hU'.2.word hN'.2.word
  have hown' : s'.vm.findClass own = some m.cls := by rw [hvm]; exact hown
  have hins : (Cond.instantiable cls 6).before args s' = true := h _ (by simp [Bundle.ownAtoms0])
  obtain ⟨vm₁, cX, kX, hfX, hkX, -, -, X₁, st1⟩ := Y.newCold hexec (own := own) (C := cls) (index := ik) (n := 6) hown' hk' hins hini'
    (g := F0 m pc ls rest) rfl (by rw [hb]; exact d0) (Nat.le_refl _) (Nat.le_refl _)
  generalize hT1 : (T.setVm vm₁).pushCell { cls := cX, slots := kX.instanceTypes.map defaultValue, vm := .none } = T1 at X₁ st1
  have hcat : (Value.ref T.heap.size).category = 1 := rfl
  have hcellA : T1.heap[T.heap.size]? = some (freshCell cX kX) := by rw [← hT1]; exact State.heap_pushCell_size _ _
  have d3' : decode c.code (pc + 3) = .ok (.dup, 1) := by rw [hb]; exact d3
  obtain ⟨U, hsteps, hrun, hend, hW, hsame, ce, hce, hO⟩ := X₁.ctorThrow0 hexec htr (own := own) (cls := cls) (names := names) (ic := ic) hown' hcls hnames h (fun x hx => nomatch hx) hfX hkX hcellA (by rw [hhp, hT]; exact Nat.le_refl _)
    (g := { method := m, pc := pc + 4, locals := ls, stack := .ref T.heap.size :: .ref T.heap.size :: rest, locked := none }) rfl hsize rfl rfl (rest := rest) rfl
    (by rw [hb]; exact d4) (by rw [hb]; exact d7) hout hRframes (by simp only [List.map_cons, List.sum_cons, hcat]; omega) hlocks
  obtain ⟨f1, f2⟩ := vx_frame hsame
  rw [hhp] at f1 f2
  have hWs : s.WarmedH U.vm := State.WarmedH.trans hW0 hW
  have hcl : s.vm.findClass cls = some ce.cls := by
    have h9 := hO.cls
    rw [hvm] at h9
    exact h9
  have hall : s.sameButNew ({ U with vm := s.vm } : State) locs mc ms := by
    subst hA
    obtain ⟨e1, e2⟩ := hsame
    rw [State.setFrames_setFrames] at e1
    have h2 : (T.setVm s.vm).sameButNew ({ U with vm := s.vm } : State) [] (0 + 1) (0 + 6) := ⟨e1, e2⟩
    have h3 := X.same.trans h2
    rw [List.append_nil] at h3
    exact h3.mono hc hs
  refine ⟨U, ?_, .threw T.heap.size, hrun, hend, Or.inr ⟨T.heap.size, rfl, cls, ce, locs, hx U hWs.alike f1 (fun q hq => f2 q hq (fun z hz => nomatch hz)), hce, hO.vm, hcl, hWs, hall, hf⟩⟩
  refine st1 _ ?_
  show Steps p.tables e below (T1.setTop { method := m, pc := pc + 3, locals := ls, stack := .ref T.heap.size :: rest, locked := none }) _
  jvm_step X₁.here [X₁.here.top, hexec, d3', Value.category]
  exact hsteps
/-- 'throw new E("text")': new; dup; ldc; invokespecial; athrow -/
theorem vx_throwS {cc : ByteArray} {pc : Nat} (hexec : p.tables.exec = Jvm.exec) (hb : c.code = cc) (hl : l.stackTraces = false) {own cls text : String} {names : List String} {ik is ic mc ms sa : Nat} {A : Nat → Prop}
    (hown : s.vm.findClass own = some m.cls) (hcls : Bundle.fit cls = true) (hnames : ∀ n ∈ names, Bundle.fit n = true)
    (hk : (Cond.classLink own ik cls).before args s = true) (hini : (Cond.initialized cls).before args s = true) (hstr : vk_R own is text sa s) (hat : ∀ w ∈ vx_atS own ic cls names, w.before args s = true)
    (hgood : ∀ w ∈ Cond.classLink own ik cls :: Cond.initialized cls :: vx_atS own ic cls names, vx_ot w = true)
    (hU : vx_Zq Bundle.tN "UNASSIGNED_STACK" Bundle.steD A s s.heap) (hN : vx_Zq Bundle.tN "SUPPRESSED_SENTINEL" Bundle.listD A s s.heap) (hS : va_S A s.heap H locs) (hsize : ls.size = c.maxLocals)
    (d0 : decode cc pc = .ok (.new ik, 3)) (d3 : decode cc (pc + 3) = .ok (.dup, 1)) (d4 : decode cc (pc + 4) = .ok (.ldc is, 2)) (d6 : decode cc (pc + 6) = .ok (.invokespecial ic, 3)) (d9 : decode cc (pc + 9) = .ok (.athrow, 1))
    (hout : ∀ x ∈ c.exceptionTable.toList, covers x (pc + 9) = false)
    (hRframes : names.length + 3 < R.frames) (hRlocals : (rest.map fun v => v.category).sum + (13 * (names.length + 1) + 43) ≤ R.locals) (hRcells : cells + 1 ≤ R.cells) (hRslots : slots + 6 ≤ R.slots) (hlocks : meth.locks = false)
    (hx : ∀ t : State, s.vm.Alike t.vm → H.size ≤ t.heap.size → (∀ q : Nat, q < H.size → t.heap[q]? = H[q]?) → XC cls s t)
    (hf : ∀ z ∈ locs, free z.base) (hc : cells + 1 ≤ mc) (hs : slots + 6 ≤ ms) :
    W p l e R s m args below meth c H locs cells slots (vx_MQ below Qc XC args s mc ms free) (F0 m pc ls rest) := by
  intro T hT X
  have htr : e.platform.stackTraces = false := (show e.platform.stackTraces = l.stackTraces by rw [X.admits.platform]).trans hl
  have Y := vx_rebase X (R' := { frames := R.frames, locals := R.locals, cells := 1, slots := 6 }) (Nat.le_refl _) (Nat.le_refl _) hRcells hRslots
  obtain ⟨s', hA⟩ : ∃ z, z = (T.setVm s.vm).setFrames (.invoking m args :: below) := ⟨_, rfl⟩
  rw [← hA] at Y
  have hvm : s'.vm = s.vm := by rw [hA]; rfl
  have hhp : s'.heap = H := by rw [hA]; exact hT
  have hW0 : s.WarmedH s'.vm := by rw [hvm]; exact State.WarmedH.refl s
  have hat' : ∀ w ∈ vx_atS own ic cls names, w.before args s' = true := fun w hw => vx_ot_at hW0 hvm.symm (hgood w (List.mem_cons_of_mem _ (List.mem_cons_of_mem _ hw))) (hat w hw)
  have hk' : (Cond.classLink own ik cls).before args s' = true := vx_ot_at hW0 hvm.symm (hgood _ List.mem_cons_self) hk
  have hini' : (Cond.initialized cls).before args s' = true := vx_ot_at hW0 hvm.symm (hgood _ (List.mem_cons_of_mem _ List.mem_cons_self)) hini
  have hU' : vx_Zq Bundle.tN "UNASSIGNED_STACK" Bundle.steD A s' s'.heap := by rw [hhp]; exact vx_Zq.moved hW0.alike (hU.kept hS.2.1)
  have hN' : vx_Zq Bundle.tN "SUPPRESSED_SENTINEL" Bundle.listD A s' s'.heap := by rw [hhp]; exact vx_Zq.moved hW0.alike (hN.kept hS.2.1)
  have h : ∀ w ∈ Bundle.ownAtoms own ic cls names, w.before args s' = true := vx_own hat' (vx_isRefq hU'.1) (vx_isRefq hN'.1) hU'.2.word hN'.2.word
  have hown' : s'.vm.findClass own = some m.cls := by rw [hvm]; exact hown
  have hins : (Cond.instantiable cls 6).before args s' = true := h _ (by simp [Bundle.ownAtoms])
  obtain ⟨vm₁, cX, kX, hfX, hkX, -, -, X₁, st1⟩ := Y.newCold hexec (own := own) (C := cls) (index := ik) (n := 6) hown' hk' hins hini'
    (g := F0 m pc ls rest) rfl (by rw [hb]; exact d0) (Nat.le_refl _) (Nat.le_refl _)
  generalize hT1 : (T.setVm vm₁).pushCell { cls := cX, slots := kX.instanceTypes.map defaultValue, vm := .none } = T1 at X₁ st1
  have hcat : (Value.ref T.heap.size).category = 1 := rfl
  have hcellA : T1.heap[T.heap.size]? = some (freshCell cX kX) := by rw [← hT1]; exact State.heap_pushCell_size _ _
  have d3' : decode c.code (pc + 3) = .ok (.dup, 1) := by rw [hb]; exact d3
  have d4' : decode c.code (pc + 4) = .ok (.ldc is, 2) := by rw [hb]; exact d4
  have hstr' : vk_R own is text sa s' := vk_R.warm hW0 hstr
  obtain ⟨U, hsteps, hrun, hend, hW, hsame, ce, hce, hO⟩ := X₁.ctorThrowS hexec htr (own := own) (cls := cls) (names := names) (ic := ic) hown' hcls hnames h (fun x hx => nomatch hx) hfX hkX hcellA (by rw [hhp, hT]; exact Nat.le_refl _) (msg := .ref sa) rfl
    (g := { method := m, pc := pc + 6, locals := ls, stack := .ref sa :: .ref T.heap.size :: .ref T.heap.size :: rest, locked := none }) rfl hsize rfl rfl (rest := rest) rfl
    (by rw [hb]; exact d6) (by rw [hb]; exact d9) hout hRframes (by simp only [List.map_cons, List.sum_cons, hcat]; omega) hlocks
  obtain ⟨f1, f2⟩ := vx_frame hsame
  rw [hhp] at f1 f2
  have hWs : s.WarmedH U.vm := State.WarmedH.trans hW0 hW
  have hcl : s.vm.findClass cls = some ce.cls := by
    have h9 := hO.cls
    rw [hvm] at h9
    exact h9
  have hall : s.sameButNew ({ U with vm := s.vm } : State) locs mc ms := by
    subst hA
    obtain ⟨e1, e2⟩ := hsame
    rw [State.setFrames_setFrames] at e1
    have h2 : (T.setVm s.vm).sameButNew ({ U with vm := s.vm } : State) [] (0 + 1) (0 + 6) := ⟨e1, e2⟩
    have h3 := X.same.trans h2
    rw [List.append_nil] at h3
    exact h3.mono hc hs
  refine ⟨U, ?_, .threw T.heap.size, hrun, hend, Or.inr ⟨T.heap.size, rfl, cls, ce, locs, hx U hWs.alike f1 (fun q hq => f2 q hq (fun z hz => nomatch hz)), hce, hO.vm, hcl, hWs, hall, hf⟩⟩
  refine st1 _ ?_
  show Steps p.tables e below (T1.setTop { method := m, pc := pc + 3, locals := ls, stack := .ref T.heap.size :: rest, locked := none }) _
  jvm_step X₁.here [X₁.here.top, hexec, d3', Value.category]
  exact X₁.ldcString hexec (own := own) (text := text) (index := is) (a := sa) hown' hstr'.1 hstr'.2
    (g := { method := m, pc := pc + 4, locals := ls, stack := .ref T.heap.size :: .ref T.heap.size :: rest, locked := none }) rfl d4' _ hsteps
/-- 'throw new E("text")', the text by a wide index -/
theorem vx_throwSW {cc : ByteArray} {pc : Nat} (hexec : p.tables.exec = Jvm.exec) (hb : c.code = cc) (hl : l.stackTraces = false) {own cls text : String} {names : List String} {ik is ic mc ms sa : Nat} {A : Nat → Prop}
    (hown : s.vm.findClass own = some m.cls) (hcls : Bundle.fit cls = true) (hnames : ∀ n ∈ names, Bundle.fit n = true)
    (hk : (Cond.classLink own ik cls).before args s = true) (hini : (Cond.initialized cls).before args s = true) (hstr : vk_R own is text sa s) (hat : ∀ w ∈ vx_atS own ic cls names, w.before args s = true)
    (hgood : ∀ w ∈ Cond.classLink own ik cls :: Cond.initialized cls :: vx_atS own ic cls names, vx_ot w = true)
    (hU : vx_Zq Bundle.tN "UNASSIGNED_STACK" Bundle.steD A s s.heap) (hN : vx_Zq Bundle.tN "SUPPRESSED_SENTINEL" Bundle.listD A s s.heap) (hS : va_S A s.heap H locs) (hsize : ls.size = c.maxLocals)
    (d0 : decode cc pc = .ok (.new ik, 3)) (d3 : decode cc (pc + 3) = .ok (.dup, 1)) (d4 : decode cc (pc + 4) = .ok (.ldc_w is, 3)) (d7 : decode cc (pc + 7) = .ok (.invokespecial ic, 3)) (d10 : decode cc (pc + 10) = .ok (.athrow, 1))
    (hout : ∀ x ∈ c.exceptionTable.toList, covers x (pc + 10) = false)
    (hRframes : names.length + 3 < R.frames) (hRlocals : (rest.map fun v => v.category).sum + (13 * (names.length + 1) + 43) ≤ R.locals) (hRcells : cells + 1 ≤ R.cells) (hRslots : slots + 6 ≤ R.slots) (hlocks : meth.locks = false)
    (hx : ∀ t : State, s.vm.Alike t.vm → H.size ≤ t.heap.size → (∀ q : Nat, q < H.size → t.heap[q]? = H[q]?) → XC cls s t)
    (hf : ∀ z ∈ locs, free z.base) (hc : cells + 1 ≤ mc) (hs : slots + 6 ≤ ms) :
    W p l e R s m args below meth c H locs cells slots (vx_MQ below Qc XC args s mc ms free) (F0 m pc ls rest) := by
  intro T hT X
  have htr : e.platform.stackTraces = false := (show e.platform.stackTraces = l.stackTraces by rw [X.admits.platform]).trans hl
  have Y := vx_rebase X (R' := { frames := R.frames, locals := R.locals, cells := 1, slots := 6 }) (Nat.le_refl _) (Nat.le_refl _) hRcells hRslots
  obtain ⟨s', hA⟩ : ∃ z, z = (T.setVm s.vm).setFrames (.invoking m args :: below) := ⟨_, rfl⟩
  rw [← hA] at Y
  have hvm : s'.vm = s.vm := by rw [hA]; rfl
  have hhp : s'.heap = H := by rw [hA]; exact hT
  have hW0 : s.WarmedH s'.vm := by rw [hvm]; exact State.WarmedH.refl s
  have hat' : ∀ w ∈ vx_atS own ic cls names, w.before args s' = true := fun w hw => vx_ot_at hW0 hvm.symm (hgood w (List.mem_cons_of_mem _ (List.mem_cons_of_mem _ hw))) (hat w hw)
  have hk' : (Cond.classLink own ik cls).before args s' = true := vx_ot_at hW0 hvm.symm (hgood _ List.mem_cons_self) hk
  have hini' : (Cond.initialized cls).before args s' = true := vx_ot_at hW0 hvm.symm (hgood _ (List.mem_cons_of_mem _ List.mem_cons_self)) hini
  have hU' : vx_Zq Bundle.tN "UNASSIGNED_STACK" Bundle.steD A s' s'.heap := by rw [hhp]; exact vx_Zq.moved hW0.alike (hU.kept hS.2.1)
  have hN' : vx_Zq Bundle.tN "SUPPRESSED_SENTINEL" Bundle.listD A s' s'.heap := by rw [hhp]; exact vx_Zq.moved hW0.alike (hN.kept hS.2.1)
  have h : ∀ w ∈ Bundle.ownAtoms own ic cls names, w.before args s' = true := vx_own hat' (vx_isRefq hU'.1) (vx_isRefq hN'.1) hU'.2.word hN'.2.word
  have hown' : s'.vm.findClass own = some m.cls := by rw [hvm]; exact hown
  have hins : (Cond.instantiable cls 6).before args s' = true := h _ (by simp [Bundle.ownAtoms])
  obtain ⟨vm₁, cX, kX, hfX, hkX, -, -, X₁, st1⟩ := Y.newCold hexec (own := own) (C := cls) (index := ik) (n := 6) hown' hk' hins hini'
    (g := F0 m pc ls rest) rfl (by rw [hb]; exact d0) (Nat.le_refl _) (Nat.le_refl _)
  generalize hT1 : (T.setVm vm₁).pushCell { cls := cX, slots := kX.instanceTypes.map defaultValue, vm := .none } = T1 at X₁ st1
  have hcat : (Value.ref T.heap.size).category = 1 := rfl
  have hcellA : T1.heap[T.heap.size]? = some (freshCell cX kX) := by rw [← hT1]; exact State.heap_pushCell_size _ _
  have d3' : decode c.code (pc + 3) = .ok (.dup, 1) := by rw [hb]; exact d3
  have d4' : decode c.code (pc + 4) = .ok (.ldc_w is, 3) := by rw [hb]; exact d4
  have hstr' : vk_R own is text sa s' := vk_R.warm hW0 hstr
  obtain ⟨U, hsteps, hrun, hend, hW, hsame, ce, hce, hO⟩ := X₁.ctorThrowS hexec htr (own := own) (cls := cls) (names := names) (ic := ic) hown' hcls hnames h (fun x hx => nomatch hx) hfX hkX hcellA (by rw [hhp, hT]; exact Nat.le_refl _) (msg := .ref sa) rfl
    (g := { method := m, pc := pc + 7, locals := ls, stack := .ref sa :: .ref T.heap.size :: .ref T.heap.size :: rest, locked := none }) rfl hsize rfl rfl (rest := rest) rfl
    (by rw [hb]; exact d7) (by rw [hb]; exact d10) hout hRframes (by simp only [List.map_cons, List.sum_cons, hcat]; omega) hlocks
  obtain ⟨f1, f2⟩ := vx_frame hsame
  rw [hhp] at f1 f2
  have hWs : s.WarmedH U.vm := State.WarmedH.trans hW0 hW
  have hcl : s.vm.findClass cls = some ce.cls := by
    have h9 := hO.cls
    rw [hvm] at h9
    exact h9
  have hall : s.sameButNew ({ U with vm := s.vm } : State) locs mc ms := by
    subst hA
    obtain ⟨e1, e2⟩ := hsame
    rw [State.setFrames_setFrames] at e1
    have h2 : (T.setVm s.vm).sameButNew ({ U with vm := s.vm } : State) [] (0 + 1) (0 + 6) := ⟨e1, e2⟩
    have h3 := X.same.trans h2
    rw [List.append_nil] at h3
    exact h3.mono hc hs
  refine ⟨U, ?_, .threw T.heap.size, hrun, hend, Or.inr ⟨T.heap.size, rfl, cls, ce, locs, hx U hWs.alike f1 (fun q hq => f2 q hq (fun z hz => nomatch hz)), hce, hO.vm, hcl, hWs, hall, hf⟩⟩
  refine st1 _ ?_
  show Steps p.tables e below (T1.setTop { method := m, pc := pc + 3, locals := ls, stack := .ref T.heap.size :: rest, locked := none }) _
  jvm_step X₁.here [X₁.here.top, hexec, d3', Value.category]
  exact X₁.ldcStringW hexec (own := own) (text := text) (index := is) (a := sa) hown' hstr'.1 hstr'.2
    (g := { method := m, pc := pc + 4, locals := ls, stack := .ref T.heap.size :: .ref T.heap.size :: rest, locked := none }) rfl d4' _ hsteps
end Ends
section Bodies
variable {l : Launch}
theorem vx_ofW {y : MethodName} {ws ws' : List Cond} {rm : Room} {Pc : Array Value → State → Prop} {Qc : Array Value → State → Outcome → State → Prop} {XC : String → State → State → Prop} {mc ms : Nat} {free : Addr → Prop} {cc : ByteArray} {maxL : Nat} {ret : Option FieldType}
    (hy : plainName y.cls = true) (hw : ws = Cond.code y cc maxL ret :: ws')
    (body : ∀ p e s m args below meth c s₁, BodyLoose p l y (headSpec ws rm) cc maxL ret e s m args below meth c s₁ → c.maxLocals = maxL → (∀ x ∈ c.exceptionTable.toList, False) → Pc args s →
      W p l e (headSpec ws rm).room s m args below meth c s.heap [] 0 0 (vx_MQ below Qc XC args s mc ms free) (entryFrame m args maxL)) : vx_Met l y ws rm Pc Qc XC mc ms free := by
  refine MetFree.of_bodyS (code := cc) (maxLocals := maxL) (ret := ret) hy ?_ ?_
  · intro args s m h hn
    obtain ⟨meth, c, h1, h2, h3, h4, h5, h6, -, -⟩ := Cond.code_spec hn (atoms_spec (ws := ws) h _ (by rw [hw]; exact List.mem_cons_self))
    exact ⟨meth, c, h1, h2, h3, h4, h5, h6⟩
  · intro p e s m args below meth c s₁ B hml hP _
    have hh0 : s₁.heap = s.heap := by rw [B.state]; rfl
    have ht : ∀ x ∈ c.exceptionTable.toList, False := by
      obtain ⟨meth9, c9, h1, h2, -, -, -, -, h7, -⟩ := Cond.code_spec B.named (atoms_spec (ws := ws) B.pre _ (by rw [hw]; exact List.mem_cons_self))
      cases Option.some.inj (h1.symm.trans B.method)
      cases Option.some.inj (h2.symm.trans (Stand.of_body B).code)
      intro x hx
      rw [Array.isEmpty_iff.mp h7] at hx
      cases hx
    obtain ⟨t, a1, o, b1, b2, b3⟩ := body p e s m args below meth c s₁ B hml ht hP s₁ hh0 (Stand.of_body B)
    exact ⟨t, o, a1, b1, b2, b3⟩
/-- the table of a body with handlers -/
theorem vx_table {p : Program} {x y : MethodName} {S : Spec} {cc bytes : ByteArray} {maxL maxL' : Nat} {ret ret' : Option FieldType} {e : Env} {s s₁ : State} {m : MethodId} {args : Array Value} {below : List Frame} {meth : Method} {c : Code} {hh : List (Nat × Nat × Nat × Nat)}
    (B : BodyLoose p l y S cc maxL ret e s m args below meth c s₁) (h : (Cond.codeWith y bytes maxL' ret' hh).before args s = true) : c.exceptionTable.toList = tableOf hh := by
  obtain ⟨m9, meth9, c9, hn9, h1, h2, -, -, h6, -⟩ := Cond.codeWith_spec h
  cases Option.some.inj (hn9.symm.trans B.named)
  cases Option.some.inj (h1.symm.trans B.method)
  cases Option.some.inj (h2.symm.trans (Stand.of_body B).code)
  rw [← h6, table_eq]
end Bodies
end VXA
/-! ===== END ===== -/
/-! ===== BEGIN a static call of a method with an exception table ===== -/
section VXS
variable {p : Program} {l : Launch} {e : Env} {R : Room} {s : State} {m : MethodId} {args : Array Value} {below : List Frame} {meth : Method} {c : Code} {T : State} {H : Heap} {locs : List Loc} {cells slots : Nat}
abbrev vx_CSW (R : Room) (s : State) (args : Array Value) (own : String) (index : Nat) (y : MethodName) (bytes : ByteArray) (maxL : Nat) (ret : Option FieldType) (hh : List (Nat × Nat × Nat × Nat)) (ws : List Cond) (rm : Room) (mc ms n : Nat) : Prop :=
  (rm.cells = mc ∧ rm.slots = ms ∧ rm.frames + 1 ≤ R.frames ∧ 8 + (maxL + 11) + rm.locals ≤ R.locals ∧ (∀ w ∈ ws, ∀ (a' : Array Value) (U : State), s.WarmedH U.vm → w.before a' U = true) ∧ Cond.codeWith y bytes maxL ret hh ∈ ws) ∧
  (Cond.codeWith y bytes maxL ret hh).before args s = true ∧ (Cond.initialized y.cls).before args s = true ∧ (y.cls ≠ "java/lang/invoke/MethodHandle" ∧ y.cls ≠ "java/lang/invoke/VarHandle") ∧
  (∀ sig, parseMethodDescriptor y.desc = some sig → n = sig.parameters.length) ∧ (Cond.methodLink own index y).before args s = true ∧ (Cond.static y).before args s = true
theorem vx_cwSW {own : String} {index maxL mc ms : Nat} {y : MethodName} {bytes : ByteArray} {ret : Option FieldType} {hh : List (Nat × Nat × Nat × Nat)} {Ts ws ws' : List Cond} {rm : Room} (n : Nat) (ht : ∀ w ∈ Ts, w.before args s = true) (hT : GoodIn Ts (va_wsS own index y ws)) (hw : ws = Cond.codeWith y bytes maxL ret hh :: ws') (hrc : rm.cells = mc) (hrs : rm.slots = ms)
    (hd : y.cls ≠ "java/lang/invoke/MethodHandle" ∧ y.cls ≠ "java/lang/invoke/VarHandle" ∧ (parseMethodDescriptor y.desc).map (fun d => d.parameters.length) = some n) (hR : rm.frames + 1 ≤ R.frames ∧ 8 + (maxL + 11) + rm.locals ≤ R.locals) :
    vx_CSW R s args own index y bytes maxL ret hh ws rm mc ms n := by
  have ok : ∀ w ∈ va_wsS own index y ws, w.before args s = true := fun w h => ht w (hT w h).1
  have hG : GoodIn Ts ws := fun w h => hT w (by unfold va_wsS; exact List.mem_append_right _ h)
  have hc : Cond.codeWith y bytes maxL ret hh ∈ ws := by rw [hw]; exact List.mem_cons_self
  refine ⟨⟨hrc, hrs, hR.1, hR.2, pay_in ht hG, hc⟩, ht _ (hG _ hc).1, ok _ (by simp [va_wsS]), ⟨hd.1, hd.2.1⟩, fun sig h => ?_, ok _ (by simp [va_wsS]), ok _ (by simp [va_wsS])⟩
  have h2 := hd.2.2
  rw [h] at h2
  exact (Option.some.inj h2).symm
theorem vx_callSW (X : Stand p l e R s m args below meth c T locs cells slots) (hexec : p.tables.exec = Jvm.exec) {own : String} {index : Nat} {y : MethodName} {bytes : ByteArray} {maxL : Nat} {ret : Option FieldType} {hh : List (Nat × Nat × Nat × Nat)}
    (hown : s.vm.findClass own = some m.cls) (hlink : (Cond.methodLink own index y).before args s = true) (hstat : (Cond.static y).before args s = true) (hinit : (Cond.initialized y.cls).before args s = true)
    (hcode : (Cond.codeWith y bytes maxL ret hh).before args s = true) (hy : y.cls ≠ "java/lang/invoke/MethodHandle" ∧ y.cls ≠ "java/lang/invoke/VarHandle")
    {W9 : Nat} {Pre : Pt → Array Value → Prop} {Post : Pt → Array Value → Option Value → Pt → Prop} (hK : Back l R p e below s args y 3 W9 Pre Post)
    {g : JFrame} (hg : g.method = m) (hsize : g.locals.size = c.maxLocals) {argsL rest : List Value} (hlen : ∀ sig, parseMethodDescriptor y.desc = some sig → argsL.length = sig.parameters.length)
    (hstack : g.stack = argsL.reverse ++ rest) (hW : 2 * g.monitorRoom + (rest.map fun v => v.category).sum ≤ W9) (hdg : decode c.code g.pc = .ok (.invokestatic index, 3))
    (hpre : ∀ vm₁, s.WarmedH vm₁ → Pre ⟨T.setVm vm₁, locs, cells, slots⟩ argsL.toArray) :
    ∃ (v : Option Value) (vm₁ : Vm) (B : Pt), s.WarmedH vm₁ ∧ Stand p l e R s m args below meth c B.U B.locs B.cells B.slots ∧ Post ⟨T.setVm vm₁, locs, cells, slots⟩ argsL.toArray v B ∧
      ∀ target, Steps p.tables e below (B.U.setTop { g with pc := g.pc + 3, stack := v.toList ++ rest }) target → Steps p.tables e below (T.setTop g) target := by
  obtain ⟨mk, methM, cM, hnamed, hmethM, -, -, -, -, -, -, hsigM⟩ := Cond.codeWith_spec hcode
  have hstatic : methM.isStatic = true := Cond.static_spec hnamed hmethM hstat
  obtain ⟨kP, hkP, -⟩ := className_of_methodNamed hnamed
  have hinitP : kP.init = .initialized := Cond.initialized_spec (findClass_of_methodNamed hnamed) hkP hinit
  obtain ⟨vm₁, X₁, hstep₁⟩ := X.invokestatic hexec hown hlink hnamed hmethM hstatic hkP hinitP hy (g := g) hg (argsL := argsL) (rest := rest) (hlen _ hsigM) hstack hdg
  obtain ⟨v, B, X', hpost, hsteps⟩ := hK m meth c ⟨T.setVm vm₁, locs, cells, slots⟩ { g with stack := rest } (.invokestatic index) mk argsL.toArray X₁ hg hsize hdg hW (X₁.named hnamed) (hpre vm₁ X₁.warmed)
  exact ⟨v, vm₁, B, X₁.warmed, X', hpost, fun target h => hstep₁ _ fun acts => by rw [doInvoke_state]; exact hsteps.trans h⟩
theorem vx_runSW {y : MethodName} {bytes cc : ByteArray} {maxL nL mc ms n index : Nat} {ret : Option FieldType} {hh : List (Nat × Nat × Nat × Nat)} {ws : List Cond} {rm : Room} {Pc : Array Value → State → Prop} {Qc : Array Value → State → Outcome → State → Prop} {free : Addr → Prop} {Ts : List Cond} {own : String} {As rest : List Value} {g : JFrame}
    (S : CallFix p m c cc nL s args Ts own) (hM : Met l y ws rm Pc Qc mc ms free) (cw : vx_CSW R s args own index y bytes maxL ret hh ws rm mc ms n) (hp : PreS s H Pc As)
    (hg : g.method = m) (hn : As.length = n) (hsize : g.locals.size = nL) (hstack : g.stack = As.reverse ++ rest) (hW : 2 * g.monitorRoom + (rest.map fun v => v.category).sum ≤ 8) (hdg : decode cc g.pc = .ok (.invokestatic index, 3)) (hf : cells + mc ≤ R.cells ∧ slots + ms ≤ R.slots) :
    va_Run p l e R s m args below meth c H locs cells slots mc ms g rest (Qc As.toArray) (free) := by
  obtain ⟨⟨hrc, hrs, hfr, hlo, hws, hcw⟩, hcode, hini, hy, hlen, hl, hstt⟩ := cw
  have hK : Back l R p e below s args y 3 8 (PreOf R mc ms Pc) (PostOf Qc mc ms free) := va_backW (hh := hh) (bytes := bytes) (maxL := maxL) (ret := ret) hM hp.1 hrc hrs hfr hlo hws hcw (fun a' U hW => word_at hW (Or.inl (by first | rfl | simp [Cond.onTables, Cond.keeps, Cond.steady])) hini)
  obtain ⟨hx, hb, hml, ho, -⟩ := S
  intro T hT X
  obtain ⟨v, vm₁, ⟨U', l2, c2, s2⟩, hW₁, X', ⟨g', mk, t, L, e1, e2, hq, h1, hL, h2, h3⟩, st⟩ := vx_callSW X hx (hh := hh) (bytes := bytes) (maxL := maxL) (ret := ret) ho hl hstt hini hcode hy hK hg (hsize.trans hml.symm) (argsL := As) (rest := rest) (fun sig h => hn.trans (hlen sig h)) hstack hW (by rw [hb]; exact hdg)
    (fun vm₁ hW₁ => ⟨hf.1, hf.2, hp.2 (T.setVm vm₁) hT hW₁⟩)
  dsimp only [Pt.U, Pt.locs, Pt.cells, Pt.slots] at X' e1 e2 h1 h2 h3 st
  subst h1; subst h2; subst h3
  exact ⟨v, (T.setVm vm₁).calling g' mk As.toArray, t, U', L, hT, X', hL, e1, e2, hq, st⟩
/-- not caught here, past rows that name other classes: it goes on to the caller -/
theorem vx_outP {p : Program} {l : Launch} {e : Env} {R : Room} {s : State} {m : MethodId} {args : Array Value} {below : List Frame} {meth : Method} {c : Code} {H : Heap} {locs : List Loc} {cells slots : Nat} {free : Addr → Prop} {ls : Array Slot} {rest : List Value} {Qc : Array Value → State → Outcome → State → Prop} {XC : String → State → State → Prop}
    {pc : Nat} {own E : String} {ce : Cell} {q : Addr} {mc ms : Nat} (hown : s.vm.findClass own = some m.cls) (hlocks : meth.locks = false)
    (hpass : ∀ z ∈ c.exceptionTable.toList, covers z pc = false ∨ (z.catchType ≠ 0 ∧ ∃ nm : String, (Cond.classLink own z.catchType nm).before args s = true ∧ va_Nc E nm s)) (hcell : H[q]? = some ce) (hv : ce.vm = .none) (hcl : s.vm.findClass E = some ce.cls)
    (hx : ∀ t : State, t.heap = H → s.vm.Alike t.vm → XC E s t) (hf : ∀ z ∈ locs, free z.base) (hc : cells ≤ mc) (hs : slots ≤ ms) :
    vx_W p l e R s m args below meth c H locs cells slots (vx_MQ below Qc XC args s mc ms free) (F0 m pc ls rest) q := by
  intro T hT X
  have hpl : e.platform.magicAccessors = ({} : Platform).magicAccessors := by rw [X.admits.platform]
  obtain ⟨vm', hW', X', st⟩ := X.outThrough hlocks q (g := F0 m pc ls rest) rfl rfl rfl (cell := ce) (by rw [hT]; exact hcell) (by rw [hv]; rfl)
    (by obtain ⟨k9, h9, -⟩ := Vm.findClass_spec hcl; exact ⟨k9, h9⟩) (fun z hz => by
      rcases hpass z hz with h | ⟨hz0, nm, hl1, hn1⟩
      · exact Or.inl h
      · obtain ⟨c6, hc6, hcl6⟩ := Cond.classLink_spec hown hl1 e.platform hpl
        obtain ⟨a8, b8, h1, h2, h3⟩ := hn1
        cases Option.some.inj (h1.symm.trans hcl)
        cases Option.some.inj (h2.symm.trans hc6)
        exact Or.inr ⟨hz0, _, hcl6, h3⟩)
  obtain ⟨g₀, hfr⟩ := X'.frames_eq
  have hcell9 : ((T.setVm vm').setFrames (.throwing q :: below)).heap[q]? = some ce := by
    show T.heap[q]? = some ce
    rw [hT]; exact hcell
  have hend : Ended ((T.setVm vm').setFrames (.throwing q :: below)) below (.threw q) := State.frames_setFrames _ (State.cur_lt_of_frames hfr)
  refine ⟨(T.setVm vm').setFrames (.throwing q :: below), ?_, .threw q, X'.here.running, hend, Or.inr ⟨q, rfl, E, ce, locs, hx _ hT (X'.ends _).1.alike, hcell9, hv, hcl, (X'.ends _).1, (X'.ends _).2.mono hc hs, hf⟩⟩
  rw [X.pushThrowing_eq]
  exact st
/-- a thing of a world lies in the heap -/
theorem vx_lt {D : va_G} {cl : List vw_C} {ws : va_W} {H1 : Heap} (h : va_P D cl ws H1) {k : Nat} {q : Nat × va_E} (hk : ws[k]? = some q) : q.1 < H1.size := (h k q hk).lt
end VXS
/-! ===== END ===== -/
/-! ===== BEGIN methods with a table of their own: called by a name, returning or throwing ===== -/
section VXH
/-! vx_backW, vx_callVX, vx_callSX, vx_callVW, vx_runVW, vx_runVX, vx_runSX, vx_ofWH follow the same proofs as their sisters above (Free/Laws.lean, Shelf42/LK1.lean); vx_outP calls Shelf42/NT130.lean (outThrough). -/
section
variable {l : Launch} {R : Room} {p : Program} {e : Env} {below : List Frame} {s : State} {sargs : Array Value} {y : MethodName} {len W9 : Nat}
theorem vx_backW {ws : List Cond} {rm : Room} {Pc : Array Value → State → Prop} {Qc : Array Value → State → Outcome → State → Prop} {XC : String → State → State → Prop} {mc ms : Nat} {free : Addr → Prop} {bytes : ByteArray} {maxL : Nat} {ret : Option FieldType} {hh : List (Nat × Nat × Nat × Nat)}
    (hM : vx_Met l y ws rm Pc Qc XC mc ms free) (hblind : FrameBlind Pc) (hrc : rm.cells = mc) (hrs : rm.slots = ms)
    (hframes : rm.frames + 1 ≤ R.frames) (hlocals : W9 + (maxL + 11) + rm.locals ≤ R.locals)
    (hws : ∀ w ∈ ws, ∀ a' U, s.WarmedH U.vm → w.before a' U = true) (hcode : Cond.codeWith y bytes maxL ret hh ∈ ws) (hinit : ∀ a' U, s.WarmedH U.vm → (Cond.initialized y.cls).before a' U = true) :
    vx_Back l R p e below s sargs y len W9 (PreOf R mc ms Pc) (PostOf Qc mc ms free) (vx_Post XC mc ms free) := by
  intro m meth c A g ig mk a X hg hsize hdg hW hn hp
  have h1 : (headSpec ws rm).pre.before a A.U = true := atoms_intro fun w hw => hws w hw _ _ X.warmed
  have h2 : (Cond.codeWith y bytes maxL ret hh).before a A.U = true := hws _ hcode _ _ X.warmed
  have h3 : (Cond.initialized y.cls).before a A.U = true := hinit _ _ X.warmed
  have h4 : A.cells + (headSpec ws rm).room.cells ≤ R.cells := by rw [show (headSpec ws rm).room.cells = mc from hrc]; exact hp.1
  have h5 : A.slots + (headSpec ws rm).room.slots ≤ R.slots := by rw [show (headSpec ws rm).room.slots = ms from hrs]; exact hp.2.1
  have hPc : Pc a (A.U.calling g mk a) := hblind _ _ _ _ hp.2.2
  obtain ⟨U, Ls, c0, s0⟩ := A
  dsimp only [Pt.U, Pt.locs, Pt.cells, Pt.slots] at h1 h2 h3 h4 h5 X hn hPc ⊢
  obtain ⟨m9, methY, cY, hn9, hmY, hcY, -, hlY, -⟩ := Cond.codeWith_spec h2
  cases Option.some.inj (hn9.symm.trans hn)
  obtain ⟨kY, hkY, -⟩ := className_of_methodNamed hn
  have hinitY : kY.init = .initialized := Cond.initialized_spec (findClass_of_methodNamed hn) hkY h3
  have h : At U g.method c below := by rw [hg]; exact X.here
  have hlocals9 : W9 + (maxL + 11) + (headSpec ws rm).room.locals ≤ R.locals := hlocals
  have happ : (headSpec ws rm).appliesLoose y e.platform (U.calling g mk a) = true :=
    Spec.appliesLoose_calling (g := g) h hdg hn hkY hinitY
      (X.room_calling (g := g) (R' := (headSpec ws rm).room) hsize hmY hcY hframes (by rw [hlY]; omega) h4 h5) h1
  obtain ⟨mid, hmid⟩ := h.above
  have hfr : (U.setTop g).frames = (.java g :: mid) ++ below := by rw [State.frames_setTop' g h.top, hmid]; rfl
  obtain ⟨o, s₂, hsteps, -, hend, hq⟩ := Steps.callFree hM p X.admits X.cas X.clock (acts := []) hfr happ hPc trivial
  have hq' : vx_Q Qc XC mc ms free a (U.calling g mk a) o s₂ := hq
  rw [State.frames_setTop' g h.top] at hend
  obtain ⟨g₀, hg0⟩ := Option.isSome_iff_exists.mp h.top
  obtain ⟨r, hr⟩ := State.topJava?_eq_some.mp hg0
  have hr' : (({ U with heap := s₂.heap, slotsUsed := s₂.slotsUsed } : State).setVm s₂.vm).frames = .java g₀ :: r := hr
  rcases hq' with ⟨hqc, L, hfe, hL⟩ | ⟨q, rfl, E, ce, L, hx, hce, hcv, hcl, hW₂, hsm, hL⟩
  · obtain ⟨⟨v, rfl⟩, hW₂, e2, q2, q3, q4, q5, q6⟩ := id hfe
    have e3 : s₂ = ({ (U.calling g mk a).setFrames s₂.frames with heap := s₂.heap, slotsUsed := s₂.slotsUsed } : State).setVm s₂.vm := by
      have : s₂ = ({ s₂ with vm := (U.calling g mk a).vm } : State).setVm s₂.vm := rfl
      rw [e2] at this
      exact this
    obtain ⟨c₂, i₂, len₂, hc₂, hd₂, hf₂⟩ := hend
    have hW' : U.WarmedH s₂.vm := hW₂
    have hcc : c₂ = c := by
      have h1 : s₂.code? g.method = U.code? g.method := by
        rw [State.code?_eq, State.code?_eq, hW'.alike.method?]
      exact Option.some.inj (hc₂.symm.trans (h1.trans h.code))
    subst hcc
    have hlen : len₂ = len := by rw [hdg] at hd₂; cases hd₂; rfl
    subst hlen
    have hs₂ : s₂ = (({ U with heap := s₂.heap, slotsUsed := s₂.slotsUsed } : State).setVm s₂.vm).setTop { g with pc := g.pc + len₂, stack := v.toList ++ g.stack } := by
      refine e3.trans ?_
      rw [hf₂, State.calling_eq h.top, State.setFrames_setFrames, State.setTop_of_frames _ hr', hr]
      rfl
    have hsame : U.sameButNew ({ U with heap := s₂.heap, slotsUsed := s₂.slotsUsed } : State) L mc ms := by
      refine ⟨?_, q2, q3, q4, q5, q6⟩
      obtain ⟨t, ht, -⟩ := State.frames_cons hr
      show ({ U with heap := s₂.heap, slotsUsed := s₂.slotsUsed } : State) = { U.setFrames U.frames with heap := s₂.heap, slotsUsed := s₂.slotsUsed }
      rw [State.setFrames_self ht]
    subst hg
    refine Or.inl ⟨v, ⟨(({ U with heap := s₂.heap, slotsUsed := s₂.slotsUsed } : State).setVm s₂.vm), Ls ++ L, c0 + mc, s0 + ms⟩,
      ⟨X.admits, X.cas, X.clock, X.frames, X.room, X.hears, X.method, X.code, (X.here.setHeapUsed s₂.heap s₂.slotsUsed).setVm hW'.alike, X.tail, State.WarmedH.trans X.warmed hW', X.limits, X.bytes, X.same.trans (hsame.setVm s.vm)⟩,
      ⟨g, mk, s₂, L, rfl, rfl, hqc, rfl, hL, rfl, rfl⟩, ?_⟩
    show Steps p.tables e below _ ((({ U with heap := s₂.heap, slotsUsed := s₂.slotsUsed } : State).setVm s₂.vm).setTop { g with pc := g.pc + len₂, stack := v.toList ++ g.stack })
    rw [← hs₂]
    exact hsteps
  · obtain ⟨e2, q2, q3, q4, q5, q6⟩ := id hsm
    have e3 : s₂ = ({ (U.calling g mk a).setFrames s₂.frames with heap := s₂.heap, slotsUsed := s₂.slotsUsed } : State).setVm s₂.vm := by
      have : s₂ = ({ s₂ with vm := (U.calling g mk a).vm } : State).setVm s₂.vm := rfl
      rw [e2] at this
      exact this
    have hf₂ : s₂.frames = .throwing q :: .java g :: U.frames.tail := hend
    have hW' : U.WarmedH s₂.vm := hW₂
    have hs₂ : s₂ = ((({ U with heap := s₂.heap, slotsUsed := s₂.slotsUsed } : State).setVm s₂.vm).setTop g).pushFrame (.throwing q) := by
      refine e3.trans ?_
      rw [hf₂, State.calling_eq h.top, State.setFrames_setFrames, State.pushFrame, State.frames_setTop _ hr', State.setTop_of_frames _ hr', State.setFrames_setFrames, hr]
      rfl
    have hsame : U.sameButNew ({ U with heap := s₂.heap, slotsUsed := s₂.slotsUsed } : State) L mc ms := by
      refine ⟨?_, q2, q3, q4, q5, q6⟩
      obtain ⟨t, ht, -⟩ := State.frames_cons hr
      show ({ U with heap := s₂.heap, slotsUsed := s₂.slotsUsed } : State) = { U.setFrames U.frames with heap := s₂.heap, slotsUsed := s₂.slotsUsed }
      rw [State.setFrames_self ht]
    subst hg
    refine Or.inr ⟨q, ⟨(({ U with heap := s₂.heap, slotsUsed := s₂.slotsUsed } : State).setVm s₂.vm), Ls ++ L, c0 + mc, s0 + ms⟩,
      ⟨X.admits, X.cas, X.clock, X.frames, X.room, X.hears, X.method, X.code, (X.here.setHeapUsed s₂.heap s₂.slotsUsed).setVm hW'.alike, X.tail, State.WarmedH.trans X.warmed hW', X.limits, X.bytes, X.same.trans (hsame.setVm s.vm)⟩,
      ⟨g, mk, s₂, L, E, ce, rfl, rfl, hx, hce, hcv, hcl, rfl, hL, rfl, rfl⟩, ?_⟩
    show Steps p.tables e below _ (((({ U with heap := s₂.heap, slotsUsed := s₂.slotsUsed } : State).setVm s₂.vm).setTop g).pushFrame (.throwing q))
    rw [← hs₂]
    exact hsteps
end
variable {p : Program} {l : Launch} {e : Env} {R : Room} {s : State} {m : MethodId} {args : Array Value} {below : List Frame} {meth : Method} {c : Code} {T : State} {H : Heap} {locs : List Loc} {cells slots : Nat}
theorem vx_callVX (X : Stand p l e R s m args below meth c T locs cells slots) (hexec : p.tables.exec = Jvm.exec) {own C : String} {index : Nat} {y : MethodName} {bytes : ByteArray} {maxL : Nat} {ret : Option FieldType} {hh : List (Nat × Nat × Nat × Nat)}
    (hown : s.vm.findClass own = some m.cls) (hlink : (Cond.methodLink own index y).before args s = true) (hinst : (Cond.instanceMethod y).before args s = true) (hsel : (Cond.selects C y y).before args s = true)
    (hcode : (Cond.codeWith y bytes maxL ret hh).before args s = true) (hy : y.cls ≠ "java/lang/invoke/MethodHandle" ∧ y.cls ≠ "java/lang/invoke/VarHandle")
    {W9 : Nat} {Pre : Pt → Array Value → Prop} {Post : Pt → Array Value → Option Value → Pt → Prop} {PostX : Pt → Array Value → Addr → Pt → Prop} (hK : vx_Back l R p e below s args y 3 W9 Pre Post PostX)
    {b : Addr} {cellB : Cell} (hcell : T.heap[b]? = some cellB) (hobj : cellB.vm.isStatics = false) (hcls : s.vm.findClass C = some cellB.cls)
    {g : JFrame} (hg : g.method = m) (hsize : g.locals.size = c.maxLocals) {argsL rest : List Value} (hlen : ∀ sig, parseMethodDescriptor y.desc = some sig → argsL.length = sig.parameters.length)
    (hstack : g.stack = argsL.reverse ++ .ref b :: rest) (hW : 2 * g.monitorRoom + (rest.map fun v => v.category).sum ≤ W9) (hdg : decode c.code g.pc = .ok (.invokevirtual index, 3))
    (hpre : ∀ vm₁, s.WarmedH vm₁ → Pre ⟨T.setVm vm₁, locs, cells, slots⟩ (Value.ref b :: argsL).toArray) :
    (∃ (v : Option Value) (vm₁ : Vm) (B : Pt), s.WarmedH vm₁ ∧ Stand p l e R s m args below meth c B.U B.locs B.cells B.slots ∧ Post ⟨T.setVm vm₁, locs, cells, slots⟩ (Value.ref b :: argsL).toArray v B ∧
      ∀ target, Steps p.tables e below (B.U.setTop { g with pc := g.pc + 3, stack := v.toList ++ rest }) target → Steps p.tables e below (T.setTop g) target) ∨
    (∃ (q : Addr) (vm₁ : Vm) (B : Pt), s.WarmedH vm₁ ∧ Stand p l e R s m args below meth c B.U B.locs B.cells B.slots ∧ PostX ⟨T.setVm vm₁, locs, cells, slots⟩ (Value.ref b :: argsL).toArray q B ∧
      Steps p.tables e below (T.setTop g) ((B.U.setTop { g with stack := rest }).pushFrame (.throwing q))) := by
  obtain ⟨mk, methM, hnamed, hmethM, hstM, habM⟩ := Cond.instanceMethod_spec hinst
  obtain ⟨m8, methM', cM, hn8, hmethM', -, -, -, -, -, -, hsigM⟩ := Cond.codeWith_spec hcode
  cases Option.some.inj (hn8.symm.trans hnamed)
  cases hmethM.symm.trans hmethM'
  obtain ⟨c2, r2, m2, q1, q2, q3, q4, kP, hkP, hkPi⟩ := Cond.selects_spec hsel
  cases hcls.symm.trans q1
  cases (State.methodFound?_of_named hnamed hy).symm.trans q2
  cases hnamed.symm.trans q3
  have hselP : selectMethod e.platform s.vm cellB.cls mk = .method mk := by rw [Launch.admits_selectMethod X.admits]; exact q4
  obtain ⟨vm₁, X₁, hstep₁⟩ := X.invokevirtual hexec hown hlink hnamed hmethM hstM hkP hkPi hy (a := b) (cell := cellB) hcell
    (fun z h => by rw [h] at hobj; cases hobj) hselP hmethM habM hkP hkPi (g := g) hg (argsL := argsL) (rest := rest) (hlen _ hsigM) hstack hdg
  rcases hK m meth c ⟨T.setVm vm₁, locs, cells, slots⟩ { g with stack := rest } (.invokevirtual index) mk (Value.ref b :: argsL).toArray X₁ hg hsize hdg hW (X₁.named hnamed) (hpre vm₁ X₁.warmed) with ⟨v, B, X', hpost, hsteps⟩ | ⟨q, B, X', hpost, hsteps⟩
  · exact Or.inl ⟨v, vm₁, B, X₁.warmed, X', hpost, fun target h => hstep₁ _ fun acts => by rw [doInvoke_state]; exact hsteps.trans h⟩
  · exact Or.inr ⟨q, vm₁, B, X₁.warmed, X', hpost, hstep₁ _ fun acts => by rw [doInvoke_state]; exact hsteps⟩
theorem vx_callSX (X : Stand p l e R s m args below meth c T locs cells slots) (hexec : p.tables.exec = Jvm.exec) {own : String} {index : Nat} {y : MethodName} {bytes : ByteArray} {maxL : Nat} {ret : Option FieldType} {hh : List (Nat × Nat × Nat × Nat)}
    (hown : s.vm.findClass own = some m.cls) (hlink : (Cond.methodLink own index y).before args s = true) (hstat : (Cond.static y).before args s = true) (hinit : (Cond.initialized y.cls).before args s = true)
    (hcode : (Cond.codeWith y bytes maxL ret hh).before args s = true) (hy : y.cls ≠ "java/lang/invoke/MethodHandle" ∧ y.cls ≠ "java/lang/invoke/VarHandle")
    {W9 : Nat} {Pre : Pt → Array Value → Prop} {Post : Pt → Array Value → Option Value → Pt → Prop} {PostX : Pt → Array Value → Addr → Pt → Prop} (hK : vx_Back l R p e below s args y 3 W9 Pre Post PostX)
    {g : JFrame} (hg : g.method = m) (hsize : g.locals.size = c.maxLocals) {argsL rest : List Value} (hlen : ∀ sig, parseMethodDescriptor y.desc = some sig → argsL.length = sig.parameters.length)
    (hstack : g.stack = argsL.reverse ++ rest) (hW : 2 * g.monitorRoom + (rest.map fun v => v.category).sum ≤ W9) (hdg : decode c.code g.pc = .ok (.invokestatic index, 3))
    (hpre : ∀ vm₁, s.WarmedH vm₁ → Pre ⟨T.setVm vm₁, locs, cells, slots⟩ argsL.toArray) :
    (∃ (v : Option Value) (vm₁ : Vm) (B : Pt), s.WarmedH vm₁ ∧ Stand p l e R s m args below meth c B.U B.locs B.cells B.slots ∧ Post ⟨T.setVm vm₁, locs, cells, slots⟩ argsL.toArray v B ∧
      ∀ target, Steps p.tables e below (B.U.setTop { g with pc := g.pc + 3, stack := v.toList ++ rest }) target → Steps p.tables e below (T.setTop g) target) ∨
    (∃ (q : Addr) (vm₁ : Vm) (B : Pt), s.WarmedH vm₁ ∧ Stand p l e R s m args below meth c B.U B.locs B.cells B.slots ∧ PostX ⟨T.setVm vm₁, locs, cells, slots⟩ argsL.toArray q B ∧
      Steps p.tables e below (T.setTop g) ((B.U.setTop { g with stack := rest }).pushFrame (.throwing q))) := by
  obtain ⟨mk, methM, cM, hnamed, hmethM, -, -, -, -, -, -, hsigM⟩ := Cond.codeWith_spec hcode
  have hstatic : methM.isStatic = true := Cond.static_spec hnamed hmethM hstat
  obtain ⟨kP, hkP, -⟩ := className_of_methodNamed hnamed
  have hinitP : kP.init = .initialized := Cond.initialized_spec (findClass_of_methodNamed hnamed) hkP hinit
  obtain ⟨vm₁, X₁, hstep₁⟩ := X.invokestatic hexec hown hlink hnamed hmethM hstatic hkP hinitP hy (g := g) hg (argsL := argsL) (rest := rest) (hlen _ hsigM) hstack hdg
  rcases hK m meth c ⟨T.setVm vm₁, locs, cells, slots⟩ { g with stack := rest } (.invokestatic index) mk argsL.toArray X₁ hg hsize hdg hW (X₁.named hnamed) (hpre vm₁ X₁.warmed) with ⟨v, B, X', hpost, hsteps⟩ | ⟨q, B, X', hpost, hsteps⟩
  · exact Or.inl ⟨v, vm₁, B, X₁.warmed, X', hpost, fun target h => hstep₁ _ fun acts => by rw [doInvoke_state]; exact hsteps.trans h⟩
  · exact Or.inr ⟨q, vm₁, B, X₁.warmed, X', hpost, hstep₁ _ fun acts => by rw [doInvoke_state]; exact hsteps⟩
theorem vx_callVW (X : Stand p l e R s m args below meth c T locs cells slots) (hexec : p.tables.exec = Jvm.exec) {own C : String} {index : Nat} {y : MethodName} {bytes : ByteArray} {maxL : Nat} {ret : Option FieldType} {hh : List (Nat × Nat × Nat × Nat)}
    (hown : s.vm.findClass own = some m.cls) (hlink : (Cond.methodLink own index y).before args s = true) (hinst : (Cond.instanceMethod y).before args s = true) (hsel : (Cond.selects C y y).before args s = true)
    (hcode : (Cond.codeWith y bytes maxL ret hh).before args s = true) (hy : y.cls ≠ "java/lang/invoke/MethodHandle" ∧ y.cls ≠ "java/lang/invoke/VarHandle")
    {W9 : Nat} {Pre : Pt → Array Value → Prop} {Post : Pt → Array Value → Option Value → Pt → Prop} (hK : Back l R p e below s args y 3 W9 Pre Post)
    {b : Addr} {cellB : Cell} (hcell : T.heap[b]? = some cellB) (hobj : cellB.vm.isStatics = false) (hcls : s.vm.findClass C = some cellB.cls)
    {g : JFrame} (hg : g.method = m) (hsize : g.locals.size = c.maxLocals) {argsL rest : List Value} (hlen : ∀ sig, parseMethodDescriptor y.desc = some sig → argsL.length = sig.parameters.length)
    (hstack : g.stack = argsL.reverse ++ .ref b :: rest) (hW : 2 * g.monitorRoom + (rest.map fun v => v.category).sum ≤ W9) (hdg : decode c.code g.pc = .ok (.invokevirtual index, 3))
    (hpre : ∀ vm₁, s.WarmedH vm₁ → Pre ⟨T.setVm vm₁, locs, cells, slots⟩ (Value.ref b :: argsL).toArray) :
    ∃ (v : Option Value) (vm₁ : Vm) (B : Pt), s.WarmedH vm₁ ∧ Stand p l e R s m args below meth c B.U B.locs B.cells B.slots ∧ Post ⟨T.setVm vm₁, locs, cells, slots⟩ (Value.ref b :: argsL).toArray v B ∧
      ∀ target, Steps p.tables e below (B.U.setTop { g with pc := g.pc + 3, stack := v.toList ++ rest }) target → Steps p.tables e below (T.setTop g) target := by
  obtain ⟨mk, methM, hnamed, hmethM, hstM, habM⟩ := Cond.instanceMethod_spec hinst
  obtain ⟨m8, methM', cM, hn8, hmethM', -, -, -, -, -, -, hsigM⟩ := Cond.codeWith_spec hcode
  cases Option.some.inj (hn8.symm.trans hnamed)
  cases hmethM.symm.trans hmethM'
  obtain ⟨c2, r2, m2, q1, q2, q3, q4, kP, hkP, hkPi⟩ := Cond.selects_spec hsel
  cases hcls.symm.trans q1
  cases (State.methodFound?_of_named hnamed hy).symm.trans q2
  cases hnamed.symm.trans q3
  have hselP : selectMethod e.platform s.vm cellB.cls mk = .method mk := by rw [Launch.admits_selectMethod X.admits]; exact q4
  obtain ⟨vm₁, X₁, hstep₁⟩ := X.invokevirtual hexec hown hlink hnamed hmethM hstM hkP hkPi hy (a := b) (cell := cellB) hcell
    (fun z h => by rw [h] at hobj; cases hobj) hselP hmethM habM hkP hkPi (g := g) hg (argsL := argsL) (rest := rest) (hlen _ hsigM) hstack hdg
  obtain ⟨v, B, X', hpost, hsteps⟩ := hK m meth c ⟨T.setVm vm₁, locs, cells, slots⟩ { g with stack := rest } (.invokevirtual index) mk (Value.ref b :: argsL).toArray X₁ hg hsize hdg hW (X₁.named hnamed) (hpre vm₁ X₁.warmed)
  exact ⟨v, vm₁, B, X₁.warmed, X', hpost, fun target h => hstep₁ _ fun acts => by rw [doInvoke_state]; exact hsteps.trans h⟩
abbrev vx_CVW (R : Room) (s : State) (args : Array Value) (own C : String) (index : Nat) (y : MethodName) (bytes : ByteArray) (maxL : Nat) (ret : Option FieldType) (hh : List (Nat × Nat × Nat × Nat)) (ws : List Cond) (rm : Room) (mc ms n : Nat) : Prop :=
  (rm.cells = mc ∧ rm.slots = ms ∧ rm.frames + 1 ≤ R.frames ∧ 8 + (maxL + 11) + rm.locals ≤ R.locals ∧ (∀ w ∈ ws, ∀ (a' : Array Value) (U : State), s.WarmedH U.vm → w.before a' U = true) ∧ Cond.codeWith y bytes maxL ret hh ∈ ws) ∧
  (Cond.codeWith y bytes maxL ret hh).before args s = true ∧ (Cond.initialized y.cls).before args s = true ∧ (y.cls ≠ "java/lang/invoke/MethodHandle" ∧ y.cls ≠ "java/lang/invoke/VarHandle") ∧
  (∀ sig, parseMethodDescriptor y.desc = some sig → n = sig.parameters.length) ∧ (Cond.methodLink own index y).before args s = true ∧ (Cond.instanceMethod y).before args s = true ∧ (Cond.selects C y y).before args s = true
theorem vx_cwVW {own C : String} {index maxL mc ms : Nat} {y : MethodName} {bytes : ByteArray} {ret : Option FieldType} {hh : List (Nat × Nat × Nat × Nat)} {Ts ws ws' : List Cond} {rm : Room} (n : Nat) (ht : ∀ w ∈ Ts, w.before args s = true) (hT : GoodIn Ts (wsV own index C y ws)) (hw : ws = Cond.codeWith y bytes maxL ret hh :: ws') (hrc : rm.cells = mc) (hrs : rm.slots = ms)
    (hd : y.cls = C ∧ y.cls ≠ "java/lang/invoke/MethodHandle" ∧ y.cls ≠ "java/lang/invoke/VarHandle" ∧ (parseMethodDescriptor y.desc).map (fun d => d.parameters.length) = some n) (hR : rm.frames + 1 ≤ R.frames ∧ 8 + (maxL + 11) + rm.locals ≤ R.locals) :
    vx_CVW R s args own C index y bytes maxL ret hh ws rm mc ms n := by
  obtain ⟨hC, hd⟩ := hd
  subst hC
  have ok : ∀ w ∈ wsV own index y.cls y ws, w.before args s = true := fun w h => ht w (hT w h).1
  have hG : GoodIn Ts ws := fun w h => hT w (by unfold wsV; exact List.mem_append_right _ h)
  have hc : Cond.codeWith y bytes maxL ret hh ∈ ws := by rw [hw]; exact List.mem_cons_self
  refine ⟨⟨hrc, hrs, hR.1, hR.2, pay_in ht hG, hc⟩, ht _ (hG _ hc).1, ok _ (by simp [wsV]), ⟨hd.1, hd.2.1⟩, fun sig h => ?_, ok _ (by simp [wsV]), ok _ (by simp [wsV]), ok _ (by simp [wsV])⟩
  have h2 := hd.2.2
  rw [h] at h2
  exact (Option.some.inj h2).symm
theorem vx_runVW {y : MethodName} {bytes cc : ByteArray} {maxL nL mc ms n index : Nat} {ret : Option FieldType} {hh : List (Nat × Nat × Nat × Nat)} {ws : List Cond} {rm : Room} {Pc : Array Value → State → Prop} {Qc : Array Value → State → Outcome → State → Prop} {free : Addr → Prop} {Ts : List Cond} {own C : String} {b : Addr} {As rest : List Value} {g : JFrame}
    (S : CallFix p m c cc nL s args Ts own) (hM : Met l y ws rm Pc Qc mc ms free) (cw : vx_CVW R s args own C index y bytes maxL ret hh ws rm mc ms n) (hp : PreV s H C b Pc As)
    (hg : g.method = m) (hn : As.length = n) (hsize : g.locals.size = nL) (hstack : g.stack = As.reverse ++ .ref b :: rest) (hW : 2 * g.monitorRoom + (rest.map fun v => v.category).sum ≤ 8) (hdg : decode cc g.pc = .ok (.invokevirtual index, 3)) (hf : cells + mc ≤ R.cells ∧ slots + ms ≤ R.slots) :
    va_Run p l e R s m args below meth c H locs cells slots mc ms g rest (Qc (Value.ref b :: As).toArray) free := by
  obtain ⟨⟨hrc, hrs, hfr, hlo, hws, hcw⟩, hcode, hini, hy, hlen, hl, hin, hse⟩ := cw
  have hK : Back l R p e below s args y 3 8 (PreOf R mc ms Pc) (PostOf Qc mc ms free) := va_backW (hh := hh) (bytes := bytes) (maxL := maxL) (ret := ret) hM hp.1 hrc hrs hfr hlo hws hcw (fun a' U hW => word_at hW (Or.inl (by first | rfl | simp [Cond.onTables, Cond.keeps, Cond.steady])) hini)
  obtain ⟨hx, hb, hml, ho, -⟩ := S
  obtain ⟨-, ⟨cellB, hcB, hoB, hclB⟩, hPc⟩ := hp
  intro T hT X
  obtain ⟨v, vm₁, ⟨U', l2, c2, s2⟩, hW₁, X', ⟨g', mk, t, L, e1, e2, hq, h1, hL, h2, h3⟩, st⟩ := vx_callVW X hx (C := C) (hh := hh) (bytes := bytes) (maxL := maxL) (ret := ret) ho hl hin hse hcode hy hK (by rw [hT]; exact hcB) hoB hclB hg (hsize.trans hml.symm) (argsL := As) (rest := rest) (fun sig h => hn.trans (hlen sig h)) hstack hW (by rw [hb]; exact hdg)
    (fun vm₁ hW₁ => ⟨hf.1, hf.2, hPc (T.setVm vm₁) hT hW₁⟩)
  dsimp only [Pt.U, Pt.locs, Pt.cells, Pt.slots] at X' e1 e2 h1 h2 h3 st
  subst h1; subst h2; subst h3
  exact ⟨v, (T.setVm vm₁).calling g' mk (Value.ref b :: As).toArray, t, U', L, hT, X', hL, e1, e2, hq, st⟩
section
variable {y : MethodName} {bytes cc : ByteArray} {maxL nL mc ms n index : Nat} {ret : Option FieldType} {ws : List Cond} {rm : Room} {Pc : Array Value → State → Prop} {Qc : Array Value → State → Outcome → State → Prop} {XC : String → State → State → Prop} {free : Addr → Prop} {Ts : List Cond} {own C : String} {b : Addr} {As rest : List Value} {g : JFrame}
theorem vx_runVX {hh : List (Nat × Nat × Nat × Nat)} (S : CallFix p m c cc nL s args Ts own) (hM : vx_Met l y ws rm Pc Qc XC mc ms free) (cw : vx_CVW R s args own C index y bytes maxL ret hh ws rm mc ms n) (hp : PreV s H C b Pc As)
    (hg : g.method = m) (hn : As.length = n) (hsize : g.locals.size = nL) (hstack : g.stack = As.reverse ++ .ref b :: rest) (hW : 2 * g.monitorRoom + (rest.map fun v => v.category).sum ≤ 8) (hdg : decode cc g.pc = .ok (.invokevirtual index, 3)) (hf : cells + mc ≤ R.cells ∧ slots + ms ≤ R.slots) :
    vx_Run p l e R s m args below meth c H locs cells slots mc ms g rest (Qc (Value.ref b :: As).toArray) XC free := by
  obtain ⟨⟨hrc, hrs, hfr, hlo, hws, hcw⟩, hcode, hini, hy, hlen, hl, hin, hse⟩ := cw
  have hK : vx_Back l R p e below s args y 3 8 (PreOf R mc ms Pc) (PostOf Qc mc ms free) (vx_Post XC mc ms free) := vx_backW (hh := hh) (bytes := bytes) (maxL := maxL) (ret := ret) hM hp.1 hrc hrs hfr hlo hws hcw (fun a' U hW => word_at hW (Or.inl (by first | rfl | simp [Cond.onTables, Cond.keeps, Cond.steady])) hini)
  obtain ⟨hx, hb, hml, ho, -⟩ := S
  obtain ⟨-, ⟨cellB, hcB, hoB, hclB⟩, hPc⟩ := hp
  intro T hT X
  rcases vx_callVX X hx (C := C) (hh := hh) (bytes := bytes) (maxL := maxL) (ret := ret) ho hl hin hse hcode hy hK (by rw [hT]; exact hcB) hoB hclB hg (hsize.trans hml.symm) (argsL := As) (rest := rest) (fun sig h => hn.trans (hlen sig h)) hstack hW (by rw [hb]; exact hdg)
    (fun vm₁ hW₁ => ⟨hf.1, hf.2, hPc (T.setVm vm₁) hT hW₁⟩) with ⟨v, vm₁, ⟨U', l2, c2, s2⟩, hW₁, X', ⟨g', mk, t, L, e1, e2, hq, h1, hL, h2, h3⟩, st⟩ | ⟨q, vm₁, ⟨U', l2, c2, s2⟩, hW₁, X', ⟨g', mk, t, L, E, ce, e1, e2, hq, hce, hcv, hcl, h1, hL, h2, h3⟩, st⟩
  · dsimp only [Pt.U, Pt.locs, Pt.cells, Pt.slots] at X' e1 e2 h1 h2 h3 st
    subst h1; subst h2; subst h3
    exact Or.inl ⟨v, (T.setVm vm₁).calling g' mk (Value.ref b :: As).toArray, t, U', L, hT, X', hL, e1, e2, hq, st⟩
  · dsimp only [Pt.U, Pt.locs, Pt.cells, Pt.slots] at X' e1 e2 h1 h2 h3 st hcl
    subst h1; subst h2; subst h3
    exact Or.inr ⟨q, (T.setVm vm₁).calling g' mk (Value.ref b :: As).toArray, t, U', L, E, ce, hT, X', hL, e1, e2, hq, hce, hcv, vx_cls hW₁ hcl, st⟩
theorem vx_runSX {hh : List (Nat × Nat × Nat × Nat)} (S : CallFix p m c cc nL s args Ts own) (hM : vx_Met l y ws rm Pc Qc XC mc ms free) (cw : vx_CSW R s args own index y bytes maxL ret hh ws rm mc ms n) (hp : PreS s H Pc As)
    (hg : g.method = m) (hn : As.length = n) (hsize : g.locals.size = nL) (hstack : g.stack = As.reverse ++ rest) (hW : 2 * g.monitorRoom + (rest.map fun v => v.category).sum ≤ 8) (hdg : decode cc g.pc = .ok (.invokestatic index, 3)) (hf : cells + mc ≤ R.cells ∧ slots + ms ≤ R.slots) :
    vx_Run p l e R s m args below meth c H locs cells slots mc ms g rest (Qc As.toArray) XC free := by
  obtain ⟨⟨hrc, hrs, hfr, hlo, hws, hcw⟩, hcode, hini, hy, hlen, hl, hstt⟩ := cw
  have hK : vx_Back l R p e below s args y 3 8 (PreOf R mc ms Pc) (PostOf Qc mc ms free) (vx_Post XC mc ms free) := vx_backW (hh := hh) (bytes := bytes) (maxL := maxL) (ret := ret) hM hp.1 hrc hrs hfr hlo hws hcw (fun a' U hW => word_at hW (Or.inl (by first | rfl | simp [Cond.onTables, Cond.keeps, Cond.steady])) hini)
  obtain ⟨hx, hb, hml, ho, -⟩ := S
  intro T hT X
  rcases vx_callSX X hx (hh := hh) (bytes := bytes) (maxL := maxL) (ret := ret) ho hl hstt hini hcode hy hK hg (hsize.trans hml.symm) (argsL := As) (rest := rest) (fun sig h => hn.trans (hlen sig h)) hstack hW (by rw [hb]; exact hdg)
    (fun vm₁ hW₁ => ⟨hf.1, hf.2, hp.2 (T.setVm vm₁) hT hW₁⟩) with ⟨v, vm₁, ⟨U', l2, c2, s2⟩, hW₁, X', ⟨g', mk, t, L, e1, e2, hq, h1, hL, h2, h3⟩, st⟩ | ⟨q, vm₁, ⟨U', l2, c2, s2⟩, hW₁, X', ⟨g', mk, t, L, E, ce, e1, e2, hq, hce, hcv, hcl, h1, hL, h2, h3⟩, st⟩
  · dsimp only [Pt.U, Pt.locs, Pt.cells, Pt.slots] at X' e1 e2 h1 h2 h3 st
    subst h1; subst h2; subst h3
    exact Or.inl ⟨v, (T.setVm vm₁).calling g' mk As.toArray, t, U', L, hT, X', hL, e1, e2, hq, st⟩
  · dsimp only [Pt.U, Pt.locs, Pt.cells, Pt.slots] at X' e1 e2 h1 h2 h3 st hcl
    subst h1; subst h2; subst h3
    exact Or.inr ⟨q, (T.setVm vm₁).calling g' mk As.toArray, t, U', L, E, ce, hT, X', hL, e1, e2, hq, hce, hcv, vx_cls hW₁ hcl, st⟩
end
end VXH
theorem vx_ofWH {l : Launch} {y : MethodName} {ws ws' : List Cond} {rm : Room} {Pc : Array Value → State → Prop} {Qc : Array Value → State → Outcome → State → Prop} {XC : String → State → State → Prop} {mc ms : Nat} {free : Addr → Prop} {cc : ByteArray} {maxL : Nat} {ret : Option FieldType} {hh : List (Nat × Nat × Nat × Nat)}
    (hy : plainName y.cls = true) (hw : ws = Cond.codeWith y cc maxL ret hh :: ws')
    (body : ∀ p e s m args below meth c s₁, BodyLoose p l y (headSpec ws rm) cc maxL ret e s m args below meth c s₁ → c.maxLocals = maxL → Pc args s →
      W p l e (headSpec ws rm).room s m args below meth c s.heap [] 0 0 (vx_MQ below Qc XC args s mc ms free) (entryFrame m args maxL)) : vx_Met l y ws rm Pc Qc XC mc ms free := by
  refine MetFree.of_bodyS (code := cc) (maxLocals := maxL) (ret := ret) hy ?_ ?_
  · intro args s m h hn
    obtain ⟨m9, meth, c, hn9, h1, h2, h3, h4, -, h5, h6, -⟩ := Cond.codeWith_spec (atoms_spec (ws := ws) h _ (by rw [hw]; exact List.mem_cons_self))
    cases hn.symm.trans hn9
    exact ⟨meth, c, h1, h2, h3, h4, h5, h6⟩
  · intro p e s m args below meth c s₁ B hml hP _
    have hh0 : s₁.heap = s.heap := by rw [B.state]; rfl
    obtain ⟨t, a1, o, b1, b2, b3⟩ := body p e s m args below meth c s₁ B hml hP s₁ hh0 (Stand.of_body B)
    exact ⟨t, o, a1, b1, b2, b3⟩
/-! ===== END ===== -/
end
section
/-! ===== BEGIN printed: names, fields, word lists, decode rows ===== -/
def RX0 : String := "LeaseBook$History"
def TX0 : u_T := fun k => match k with
  | 0 => ("LeaseBook$History", "saved", "[LLeaseBook$State;", true)
  | 1 => ("LeaseBook$History", "oldest", "I", false)
  | _ => ("LeaseBook$History", "size", "I", false)
def tyX0 : Nat → FieldType := fun k => match k with
  | 0 => .array (.object "LeaseBook$State")
  | 1 => .int
  | _ => .int
abbrev wsX00 : List Cond := u_ws RX0 TX0 3
theorem nmX0 : ∀ a, a < 3 → ∀ b, b < 3 → a ≠ b → (TX0 a).2.1 ≠ (TX0 b).2.1 := by decide +kernel
theorem tyX0_ok : ∀ k, k < 3 → parseFieldDescriptor (TX0 k).2.2.1 = some (tyX0 k) := by decide +kernel
abbrev cX0_init : ByteArray := prog_2_method_1_code
def yX0_init : MethodName := ⟨RX0, "<init>", "()V"⟩
abbrev cX0_save : ByteArray := prog_2_method_2_code
def yX0_save : MethodName := ⟨RX0, "save", "(LLeaseBook$State;)V"⟩
abbrev cX0_restore : ByteArray := prog_2_method_3_code
def yX0_restore : MethodName := ⟨RX0, "restore", "(LLeaseBook$State;)V"⟩
abbrev cX0_slotAt : ByteArray := prog_2_method_4_code
def yX0_slotAt : MethodName := ⟨RX0, "slotAt", "(I)LLeaseBook$State;"⟩
def RX1 : String := "LeaseBook$InputText"
def TX1 : u_T := fun k => match k with
  | 0 => ("LeaseBook$InputText", "codes", "[C", true)
  | _ => ("LeaseBook$InputText", "length", "I", false)
def tyX1 : Nat → FieldType := fun k => match k with
  | 0 => .array .char
  | _ => .int
abbrev wsX10 : List Cond := u_ws RX1 TX1 2
theorem nmX1 : ∀ a, a < 2 → ∀ b, b < 2 → a ≠ b → (TX1 a).2.1 ≠ (TX1 b).2.1 := by decide +kernel
theorem tyX1_ok : ∀ k, k < 2 → parseFieldDescriptor (TX1 k).2.2.1 = some (tyX1 k) := by decide +kernel
abbrev cX1_init : ByteArray := prog_3_method_1_code
def yX1_init : MethodName := ⟨RX1, "<init>", "()V"⟩
abbrev cX1_add : ByteArray := prog_3_method_2_code
def yX1_add : MethodName := ⟨RX1, "add", "(I)V"⟩
abbrev cX1_codeAt : ByteArray := prog_3_method_3_code
def yX1_codeAt : MethodName := ⟨RX1, "codeAt", "(I)I"⟩
abbrev cX1_countOf : ByteArray := prog_3_method_4_code
def yX1_countOf : MethodName := ⟨RX1, "countOf", "(I)I"⟩
def RX2 : String := "LeaseBook$Lease"
def TX2 : u_T := fun k => match k with
  | 0 => ("LeaseBook$Lease", "payment", "I", false)
  | 1 => ("LeaseBook$Lease", "periods", "I", false)
  | 2 => ("LeaseBook$Lease", "rate", "I", false)
  | 3 => ("LeaseBook$Lease", "liability", "I", false)
  | 4 => ("LeaseBook$Lease", "asset", "I", false)
  | _ => ("LeaseBook$Lease", "sums", "[I", true)
def tyX2 : Nat → FieldType := fun k => match k with
  | 0 => .int
  | 1 => .int
  | 2 => .int
  | 3 => .int
  | 4 => .int
  | _ => .array .int
abbrev wsX20 : List Cond := u_ws RX2 TX2 6
theorem nmX2 : ∀ a, a < 6 → ∀ b, b < 6 → a ≠ b → (TX2 a).2.1 ≠ (TX2 b).2.1 := by decide +kernel
theorem tyX2_ok : ∀ k, k < 6 → parseFieldDescriptor (TX2 k).2.2.1 = some (tyX2 k) := by decide +kernel
abbrev cX2_init : ByteArray := prog_4_method_1_code
def yX2_init : MethodName := ⟨RX2, "<init>", "()V"⟩
abbrev cX2_begin : ByteArray := prog_4_method_2_code
def yX2_begin : MethodName := ⟨RX2, "begin", "(IIII)V"⟩
abbrev cX2_copyFrom : ByteArray := prog_4_method_3_code
def yX2_copyFrom : MethodName := ⟨RX2, "copyFrom", "(LLeaseBook$Lease;)V"⟩
abbrev cX2_runs : ByteArray := prog_4_method_4_code
def yX2_runs : MethodName := ⟨RX2, "runs", "()Z"⟩
abbrev cX2_move : ByteArray := prog_4_method_5_code
def yX2_move : MethodName := ⟨RX2, "move", "(II)V"⟩
abbrev cX2_moved : ByteArray := prog_4_method_6_code
def yX2_moved : MethodName := ⟨RX2, "moved", "(I)I"⟩
abbrev cX2_liabilityBehind : ByteArray := prog_4_method_7_code
def yX2_liabilityBehind : MethodName := ⟨RX2, "liabilityBehind", "(I)I"⟩
abbrev cX2_assetBehind : ByteArray := prog_4_method_8_code
def yX2_assetBehind : MethodName := ⟨RX2, "assetBehind", "(I)I"⟩
abbrev cX2_interestOfPeriod : ByteArray := prog_4_method_9_code
def yX2_interestOfPeriod : MethodName := ⟨RX2, "interestOfPeriod", "(I)I"⟩
abbrev cX2_passPeriods : ByteArray := prog_4_method_10_code
def yX2_passPeriods : MethodName := ⟨RX2, "passPeriods", "(I)V"⟩
abbrev cX2_assetWithLiability : ByteArray := prog_4_method_11_code
def yX2_assetWithLiability : MethodName := ⟨RX2, "assetWithLiability", "(I)I"⟩
abbrev cX2_measure : ByteArray := prog_4_method_12_code
def yX2_measure : MethodName := ⟨RX2, "measure", "(III)V"⟩
abbrev cX2_endThousandths : ByteArray := prog_4_method_13_code
def yX2_endThousandths : MethodName := ⟨RX2, "endThousandths", "(II)I"⟩
abbrev cX2_subletThousandths : ByteArray := prog_4_method_14_code
def yX2_subletThousandths : MethodName := ⟨RX2, "subletThousandths", "(II)V"⟩
abbrev cX2_impairBy : ByteArray := prog_4_method_15_code
def yX2_impairBy : MethodName := ⟨RX2, "impairBy", "(I)V"⟩
abbrev cX2_greatestRate : ByteArray := prog_4_method_16_code
def yX2_greatestRate : MethodName := ⟨RX2, "greatestRate", "()I"⟩
abbrev cX2_profitByMovements : ByteArray := prog_4_method_17_code
def yX2_profitByMovements : MethodName := ⟨RX2, "profitByMovements", "()I"⟩
abbrev cX2_profitByHoldings : ByteArray := prog_4_method_18_code
def yX2_profitByHoldings : MethodName := ⟨RX2, "profitByHoldings", "(I)I"⟩
def RX3 : String := "LeaseBook$LeaseReader"
def TX3 : u_T := fun k => match k with
  | 0 => ("LeaseBook$LeaseReader", "numbers", "[I", true)
  | 1 => ("LeaseBook$LeaseReader", "part", "I", false)
  | _ => ("LeaseBook$LeaseReader", "digits", "I", false)
def tyX3 : Nat → FieldType := fun k => match k with
  | 0 => .array .int
  | 1 => .int
  | _ => .int
abbrev wsX30 : List Cond := u_ws RX3 TX3 3
theorem nmX3 : ∀ a, a < 3 → ∀ b, b < 3 → a ≠ b → (TX3 a).2.1 ≠ (TX3 b).2.1 := by decide +kernel
theorem tyX3_ok : ∀ k, k < 3 → parseFieldDescriptor (TX3 k).2.2.1 = some (tyX3 k) := by decide +kernel
abbrev cX3_init : ByteArray := prog_5_method_1_code
def yX3_init : MethodName := ⟨RX3, "<init>", "()V"⟩
abbrev cX3_restart : ByteArray := prog_5_method_2_code
def yX3_restart : MethodName := ⟨RX3, "restart", "()V"⟩
abbrev cX3_readAll : ByteArray := prog_5_method_3_code
def yX3_readAll : MethodName := ⟨RX3, "readAll", "(LLeaseBook$InputText;)I"⟩
abbrev cX3_take : ByteArray := prog_5_method_4_code
def yX3_take : MethodName := ⟨RX3, "take", "(I)Z"⟩
abbrev cX3_takeDigit : ByteArray := prog_5_method_5_code
def yX3_takeDigit : MethodName := ⟨RX3, "takeDigit", "(I)Z"⟩
abbrev cX3_takeSign : ByteArray := prog_5_method_6_code
def yX3_takeSign : MethodName := ⟨RX3, "takeSign", "(I)Z"⟩
abbrev cX3_partBehind : ByteArray := prog_5_method_7_code
def yX3_partBehind : MethodName := ⟨RX3, "partBehind", "(I)I"⟩
abbrev cX3_isComplete : ByteArray := prog_5_method_8_code
def yX3_isComplete : MethodName := ⟨RX3, "isComplete", "()Z"⟩
abbrev cX3_numberOf : ByteArray := prog_5_method_9_code
def yX3_numberOf : MethodName := ⟨RX3, "numberOf", "(I)I"⟩
def RX4 : String := "LeaseBook$State"
def TX4 : u_T := fun k => match k with
  | 0 => ("LeaseBook$State", "leases", "[LLeaseBook$Lease;", true)
  | 1 => ("LeaseBook$State", "subleases", "[LLeaseBook$Sublease;", true)
  | 2 => ("LeaseBook$State", "leaseCount", "I", false)
  | 3 => ("LeaseBook$State", "subleaseCount", "I", false)
  | _ => ("LeaseBook$State", "period", "I", false)
def tyX4 : Nat → FieldType := fun k => match k with
  | 0 => .array (.object "LeaseBook$Lease")
  | 1 => .array (.object "LeaseBook$Sublease")
  | 2 => .int
  | 3 => .int
  | _ => .int
abbrev wsX40 : List Cond := u_ws RX4 TX4 5
theorem nmX4 : ∀ a, a < 5 → ∀ b, b < 5 → a ≠ b → (TX4 a).2.1 ≠ (TX4 b).2.1 := by decide +kernel
theorem tyX4_ok : ∀ k, k < 5 → parseFieldDescriptor (TX4 k).2.2.1 = some (tyX4 k) := by decide +kernel
abbrev cX4_init : ByteArray := prog_6_method_1_code
def yX4_init : MethodName := ⟨RX4, "<init>", "()V"⟩
abbrev cX4_copyFrom : ByteArray := prog_6_method_2_code
def yX4_copyFrom : MethodName := ⟨RX4, "copyFrom", "(LLeaseBook$State;)V"⟩
abbrev cX4_leaseAt : ByteArray := prog_6_method_3_code
def yX4_leaseAt : MethodName := ⟨RX4, "leaseAt", "(I)LLeaseBook$Lease;"⟩
abbrev cX4_subleaseAt : ByteArray := prog_6_method_4_code
def yX4_subleaseAt : MethodName := ⟨RX4, "subleaseAt", "(I)LLeaseBook$Sublease;"⟩
abbrev cX4_addLease : ByteArray := prog_6_method_5_code
def yX4_addLease : MethodName := ⟨RX4, "addLease", "(IIII)I"⟩
abbrev cX4_addSublease : ByteArray := prog_6_method_6_code
def yX4_addSublease : MethodName := ⟨RX4, "addSublease", "(ILLeaseBook$Lease;III)I"⟩
abbrev cX4_leaseProperty : ByteArray := prog_6_method_7_code
def yX4_leaseProperty : MethodName := ⟨RX4, "leaseProperty", "(II)I"⟩
abbrev cX4_subleaseProperty : ByteArray := prog_6_method_8_code
def yX4_subleaseProperty : MethodName := ⟨RX4, "subleaseProperty", "(II)I"⟩
abbrev cX4_canSublet : ByteArray := prog_6_method_9_code
def yX4_canSublet : MethodName := ⟨RX4, "canSublet", "(III)Z"⟩
abbrev cX4_passPeriods : ByteArray := prog_6_method_10_code
def yX4_passPeriods : MethodName := ⟨RX4, "passPeriods", "(I)V"⟩
abbrev cX4_cutOff : ByteArray := prog_6_method_11_code
def yX4_cutOff : MethodName := ⟨RX4, "cutOff", "(ILLeaseBook$Lease;)V"⟩
abbrev cX4_lossByCutOff : ByteArray := prog_6_method_12_code
def yX4_lossByCutOff : MethodName := ⟨RX4, "lossByCutOff", "(II)I"⟩
abbrev cX4_receivablesBehind : ByteArray := prog_6_method_13_code
def yX4_receivablesBehind : MethodName := ⟨RX4, "receivablesBehind", "(II)I"⟩
abbrev cX4_sumOfSubleases : ByteArray := prog_6_method_14_code
def yX4_sumOfSubleases : MethodName := ⟨RX4, "sumOfSubleases", "(II)I"⟩
abbrev cX4_runningOf : ByteArray := prog_6_method_15_code
def yX4_runningOf : MethodName := ⟨RX4, "runningOf", "(I)I"⟩
abbrev cX4_runningLeases : ByteArray := prog_6_method_16_code
def yX4_runningLeases : MethodName := ⟨RX4, "runningLeases", "()I"⟩
abbrev cX4_sumOfLeases : ByteArray := prog_6_method_17_code
def yX4_sumOfLeases : MethodName := ⟨RX4, "sumOfLeases", "(I)I"⟩
abbrev cX4_allProfits : ByteArray := prog_6_method_18_code
def yX4_allProfits : MethodName := ⟨RX4, "allProfits", "()I"⟩
abbrev cX4_endingFirst : ByteArray := prog_6_method_19_code
def yX4_endingFirst : MethodName := ⟨RX4, "endingFirst", "()I"⟩
def RX5 : String := "LeaseBook$Sublease"
def TX5 : u_T := fun k => match k with
  | 0 => ("LeaseBook$Sublease", "head", "I", false)
  | 1 => ("LeaseBook$Sublease", "thousandths", "I", false)
  | 2 => ("LeaseBook$Sublease", "receipt", "I", false)
  | 3 => ("LeaseBook$Sublease", "periods", "I", false)
  | 4 => ("LeaseBook$Sublease", "rate", "I", false)
  | _ => ("LeaseBook$Sublease", "receivable", "I", false)
def tyX5 : Nat → FieldType := fun k => match k with
  | 0 => .int
  | 1 => .int
  | 2 => .int
  | 3 => .int
  | 4 => .int
  | _ => .int
abbrev wsX50 : List Cond := u_ws RX5 TX5 6
theorem nmX5 : ∀ a, a < 6 → ∀ b, b < 6 → a ≠ b → (TX5 a).2.1 ≠ (TX5 b).2.1 := by decide +kernel
theorem tyX5_ok : ∀ k, k < 6 → parseFieldDescriptor (TX5 k).2.2.1 = some (tyX5 k) := by decide +kernel
abbrev cX5_init : ByteArray := prog_7_method_1_code
def yX5_init : MethodName := ⟨RX5, "<init>", "()V"⟩
abbrev cX5_copyFrom : ByteArray := prog_7_method_2_code
def yX5_copyFrom : MethodName := ⟨RX5, "copyFrom", "(LLeaseBook$Sublease;)V"⟩
abbrev cX5_runsUnder : ByteArray := prog_7_method_3_code
def yX5_runsUnder : MethodName := ⟨RX5, "runsUnder", "(I)Z"⟩
abbrev cX5_receivableWith : ByteArray := prog_7_method_4_code
def yX5_receivableWith : MethodName := ⟨RX5, "receivableWith", "(I)I"⟩
abbrev cX5_passPeriods : ByteArray := prog_7_method_5_code
def yX5_passPeriods : MethodName := ⟨RX5, "passPeriods", "(ILLeaseBook$Lease;)V"⟩
abbrev cX5_lossByCutTo : ByteArray := prog_7_method_6_code
def yX5_lossByCutTo : MethodName := ⟨RX5, "lossByCutTo", "(I)I"⟩
abbrev cX5_valueOf : ByteArray := prog_7_method_7_code
def yX5_valueOf : MethodName := ⟨RX5, "valueOf", "(I)I"⟩
def RX6 : String := "LeaseBook"
def TX6 : u_T := fun k => match k with
  | 0 => ("LeaseBook", "now", "LLeaseBook$State;", true)
  | 1 => ("LeaseBook", "history", "LLeaseBook$History;", true)
  | 2 => ("LeaseBook", "text", "LLeaseBook$InputText;", true)
  | _ => ("LeaseBook", "reader", "LLeaseBook$LeaseReader;", true)
def tyX6 : Nat → FieldType := fun k => match k with
  | 0 => .object "LeaseBook$State"
  | 1 => .object "LeaseBook$History"
  | 2 => .object "LeaseBook$InputText"
  | _ => .object "LeaseBook$LeaseReader"
abbrev wsX60 : List Cond := u_ws RX6 TX6 4
theorem nmX6 : ∀ a, a < 4 → ∀ b, b < 4 → a ≠ b → (TX6 a).2.1 ≠ (TX6 b).2.1 := by decide +kernel
theorem tyX6_ok : ∀ k, k < 4 → parseFieldDescriptor (TX6 k).2.2.1 = some (tyX6 k) := by decide +kernel
abbrev cX6_init : ByteArray := prog_1_method_1_code
def yX6_init : MethodName := ⟨RX6, "<init>", "()V"⟩
abbrev cX6_open : ByteArray := prog_1_method_2_code
def yX6_open : MethodName := ⟨RX6, "open", "(IIII)I"⟩
abbrev cX6_term : ByteArray := prog_1_method_3_code
def yX6_term : MethodName := ⟨RX6, "term", "(III)I"⟩
abbrev cX6_rent : ByteArray := prog_1_method_4_code
def yX6_rent : MethodName := ⟨RX6, "rent", "(II)I"⟩
abbrev cX6_endPart : ByteArray := prog_1_method_5_code
def yX6_endPart : MethodName := ⟨RX6, "endPart", "(III)I"⟩
abbrev cX6_impair : ByteArray := prog_1_method_6_code
def yX6_impair : MethodName := ⟨RX6, "impair", "(II)I"⟩
abbrev cX6_sublet : ByteArray := prog_1_method_7_code
def yX6_sublet : MethodName := ⟨RX6, "sublet", "(IIII)I"⟩
abbrev cX6_pass : ByteArray := prog_1_method_8_code
def yX6_pass : MethodName := ⟨RX6, "pass", "(I)I"⟩
abbrev cX6_append : ByteArray := prog_1_method_9_code
def yX6_append : MethodName := ⟨RX6, "append", "(I)I"⟩
abbrev cX6_clearBuffer : ByteArray := prog_1_method_10_code
def yX6_clearBuffer : MethodName := ⟨RX6, "clearBuffer", "()I"⟩
abbrev cX6_firstError : ByteArray := prog_1_method_11_code
def yX6_firstError : MethodName := ⟨RX6, "firstError", "()I"⟩
abbrev cX6_openAll : ByteArray := prog_1_method_12_code
def yX6_openAll : MethodName := ⟨RX6, "openAll", "()I"⟩
abbrev cX6_undo : ByteArray := prog_1_method_13_code
def yX6_undo : MethodName := ⟨RX6, "undo", "()I"⟩
abbrev cX6_lease : ByteArray := prog_1_method_14_code
def yX6_lease : MethodName := ⟨RX6, "lease", "(II)I"⟩
abbrev cX6_sublease : ByteArray := prog_1_method_15_code
def yX6_sublease : MethodName := ⟨RX6, "sublease", "(II)I"⟩
abbrev cX6_movement : ByteArray := prog_1_method_16_code
def yX6_movement : MethodName := ⟨RX6, "movement", "(II)I"⟩
abbrev cX6_profit : ByteArray := prog_1_method_17_code
def yX6_profit : MethodName := ⟨RX6, "profit", "(II)I"⟩
abbrev cX6_count : ByteArray := prog_1_method_18_code
def yX6_count : MethodName := ⟨RX6, "count", "(I)I"⟩
abbrev cX6_worth : ByteArray := prog_1_method_19_code
def yX6_worth : MethodName := ⟨RX6, "worth", "(III)I"⟩
abbrev cX6_plan : ByteArray := prog_1_method_20_code
def yX6_plan : MethodName := ⟨RX6, "plan", "(III)I"⟩
abbrev cX6_ifMeasured : ByteArray := prog_1_method_21_code
def yX6_ifMeasured : MethodName := ⟨RX6, "ifMeasured", "(IIIII)I"⟩
abbrev cX6_paymentFor : ByteArray := prog_1_method_22_code
def yX6_paymentFor : MethodName := ⟨RX6, "paymentFor", "(II)I"⟩
abbrev cX6_rateWithin : ByteArray := prog_1_method_23_code
def yX6_rateWithin : MethodName := ⟨RX6, "rateWithin", "(I)I"⟩
abbrev cX6_fairReceipt : ByteArray := prog_1_method_24_code
def yX6_fairReceipt : MethodName := ⟨RX6, "fairReceipt", "(III)I"⟩
abbrev cX6_offShare : ByteArray := prog_1_method_25_code
def yX6_offShare : MethodName := ⟨RX6, "offShare", "()D"⟩
abbrev cX6_digest : ByteArray := prog_1_method_26_code
def yX6_digest : MethodName := ⟨RX6, "digest", "()J"⟩
abbrev cX6_hashOfLooks : ByteArray := prog_1_method_27_code
def yX6_hashOfLooks : MethodName := ⟨RX6, "hashOfLooks", "(JI)J"⟩
abbrev cX6_hashOfForecasts : ByteArray := prog_1_method_28_code
def yX6_hashOfForecasts : MethodName := ⟨RX6, "hashOfForecasts", "(JI)J"⟩
abbrev cX6_openTexts : ByteArray := prog_1_method_29_code
def yX6_openTexts : MethodName := ⟨RX6, "openTexts", "()V"⟩
abbrev cX6_openRead : ByteArray := prog_1_method_30_code
def yX6_openRead : MethodName := ⟨RX6, "openRead", "()V"⟩
abbrev cX6_demandLease : ByteArray := prog_1_method_31_code
def yX6_demandLease : MethodName := ⟨RX6, "demandLease", "(I)LLeaseBook$Lease;"⟩
abbrev cX6_demandIndex : ByteArray := prog_1_method_32_code
def yX6_demandIndex : MethodName := ⟨RX6, "demandIndex", "(Z)V"⟩
abbrev cX6_demandArguments : ByteArray := prog_1_method_33_code
def yX6_demandArguments : MethodName := ⟨RX6, "demandArguments", "(Z)V"⟩
abbrev cX6_demandState : ByteArray := prog_1_method_34_code
def yX6_demandState : MethodName := ⟨RX6, "demandState", "(Z)V"⟩
abbrev cX6_isWithin : ByteArray := prog_1_method_35_code
def yX6_isWithin : MethodName := ⟨RX6, "isWithin", "(III)Z"⟩
abbrev cX6_isMoney : ByteArray := prog_1_method_36_code
def yX6_isMoney : MethodName := ⟨RX6, "isMoney", "(I)Z"⟩
abbrev cX6_isPeriods : ByteArray := prog_1_method_37_code
def yX6_isPeriods : MethodName := ⟨RX6, "isPeriods", "(I)Z"⟩
abbrev cX6_isRate : ByteArray := prog_1_method_38_code
def yX6_isRate : MethodName := ⟨RX6, "isRate", "(I)Z"⟩
abbrev cX6_isThousandths : ByteArray := prog_1_method_39_code
def yX6_isThousandths : MethodName := ⟨RX6, "isThousandths", "(I)Z"⟩
abbrev cX6_presentWorth : ByteArray := prog_1_method_40_code
def yX6_presentWorth : MethodName := ⟨RX6, "presentWorth", "(III)I"⟩
abbrev cX6_thousandthsOf : ByteArray := prog_1_method_41_code
def yX6_thousandthsOf : MethodName := ⟨RX6, "thousandthsOf", "(II)I"⟩
abbrev cX6_greatestPayment : ByteArray := prog_1_method_42_code
def yX6_greatestPayment : MethodName := ⟨RX6, "greatestPayment", "(III)I"⟩
abbrev cX6_leastReceipt : ByteArray := prog_1_method_43_code
def yX6_leastReceipt : MethodName := ⟨RX6, "leastReceipt", "(III)I"⟩
abbrev cX6_bitsOf : ByteArray := prog_1_method_44_code
def yX6_bitsOf : MethodName := ⟨RX6, "bitsOf", "(D)J"⟩
def RX7 : String := "LeaseBookModel"
def TX7 : u_T := fun k => match k with
  | 0 => ("LeaseBookModel", "z", "[I", true)
  | 1 => ("LeaseBookModel", "rows", "[I", true)
  | 2 => ("LeaseBookModel", "aside", "[I", true)
  | 3 => ("LeaseBookModel", "savedMany", "I", false)
  | 4 => ("LeaseBookModel", "buffer", "[I", true)
  | 5 => ("LeaseBookModel", "bufferMany", "I", false)
  | 6 => ("LeaseBookModel", "thrown", "I", false)
  | 7 => ("LeaseBookModel", "place", "I", false)
  | 8 => ("LeaseBookModel", "many", "I", false)
  | 9 => ("LeaseBookModel", "told", "[I", true)
  | _ => ("LeaseBookModel", "h", "J", false)
def tyX7 : Nat → FieldType := fun k => match k with
  | 0 => .array .int
  | 1 => .array .int
  | 2 => .array .int
  | 3 => .int
  | 4 => .array .int
  | 5 => .int
  | 6 => .int
  | 7 => .int
  | 8 => .int
  | 9 => .array .int
  | _ => .long
abbrev wsX70 : List Cond := u_ws RX7 TX7 11
theorem nmX7 : ∀ a, a < 11 → ∀ b, b < 11 → a ≠ b → (TX7 a).2.1 ≠ (TX7 b).2.1 := by decide +kernel
theorem tyX7_ok : ∀ k, k < 11 → parseFieldDescriptor (TX7 k).2.2.1 = some (tyX7 k) := by decide +kernel
abbrev cX7_init : ByteArray := prog_9_method_1_code
def yX7_init : MethodName := ⟨RX7, "<init>", "()V"⟩
abbrev cX7_thrown : ByteArray := prog_9_method_2_code
def yX7_thrown : MethodName := ⟨RX7, "thrown", "()I"⟩
abbrev cX7_fails : ByteArray := prog_9_method_3_code
def yX7_fails : MethodName := ⟨RX7, "fails", "(I)I"⟩
abbrev cX7_in : ByteArray := prog_9_method_4_code
def yX7_in : MethodName := ⟨RX7, "in", "(III)Z"⟩
abbrev cX7_save : ByteArray := prog_9_method_5_code
def yX7_save : MethodName := ⟨RX7, "save", "()V"⟩
abbrev cX7_putAside : ByteArray := prog_9_method_6_code
def yX7_putAside : MethodName := ⟨RX7, "putAside", "()V"⟩
abbrev cX7_putBack : ByteArray := prog_9_method_7_code
def yX7_putBack : MethodName := ⟨RX7, "putBack", "()V"⟩
abbrev cX7_at : ByteArray := prog_9_method_8_code
def yX7_at : MethodName := ⟨RX7, "at", "(I)I"⟩
abbrev cX7_sub : ByteArray := prog_9_method_9_code
def yX7_sub : MethodName := ⟨RX7, "sub", "(I)I"⟩
abbrev cX7_move : ByteArray := prog_9_method_10_code
def yX7_move : MethodName := ⟨RX7, "move", "(III)V"⟩
abbrev cX7_worthOf : ByteArray := prog_9_method_11_code
def yX7_worthOf : MethodName := ⟨RX7, "worthOf", "(III)I"⟩
abbrev cX7_isLease : ByteArray := prog_9_method_12_code
def yX7_isLease : MethodName := ⟨RX7, "isLease", "(I)Z"⟩
abbrev cX7_runs : ByteArray := prog_9_method_13_code
def yX7_runs : MethodName := ⟨RX7, "runs", "(I)Z"⟩
abbrev cX7_isMoney : ByteArray := prog_9_method_14_code
def yX7_isMoney : MethodName := ⟨RX7, "isMoney", "(I)Z"⟩
abbrev cX7_isTerm : ByteArray := prog_9_method_15_code
def yX7_isTerm : MethodName := ⟨RX7, "isTerm", "(I)Z"⟩
abbrev cX7_isRate : ByteArray := prog_9_method_16_code
def yX7_isRate : MethodName := ⟨RX7, "isRate", "(I)Z"⟩
abbrev cX7_isPart : ByteArray := prog_9_method_17_code
def yX7_isPart : MethodName := ⟨RX7, "isPart", "(I)Z"⟩
abbrev cX7_partOf : ByteArray := prog_9_method_18_code
def yX7_partOf : MethodName := ⟨RX7, "partOf", "(II)I"⟩
abbrev cX7_openNow : ByteArray := prog_9_method_19_code
def yX7_openNow : MethodName := ⟨RX7, "openNow", "(IIII)V"⟩
abbrev cX7_open : ByteArray := prog_9_method_20_code
def yX7_open : MethodName := ⟨RX7, "open", "(IIII)I"⟩
abbrev cX7_cutOff : ByteArray := prog_9_method_21_code
def yX7_cutOff : MethodName := ⟨RX7, "cutOff", "(II)V"⟩
abbrev cX7_measure : ByteArray := prog_9_method_22_code
def yX7_measure : MethodName := ⟨RX7, "measure", "(IIII)V"⟩
abbrev cX7_term : ByteArray := prog_9_method_23_code
def yX7_term : MethodName := ⟨RX7, "term", "(III)I"⟩
abbrev cX7_rent : ByteArray := prog_9_method_24_code
def yX7_rent : MethodName := ⟨RX7, "rent", "(II)I"⟩
abbrev cX7_ofSubs : ByteArray := prog_9_method_25_code
def yX7_ofSubs : MethodName := ⟨RX7, "ofSubs", "(II)I"⟩
abbrev cX7_endPart : ByteArray := prog_9_method_26_code
def yX7_endPart : MethodName := ⟨RX7, "endPart", "(III)I"⟩
abbrev cX7_impair : ByteArray := prog_9_method_27_code
def yX7_impair : MethodName := ⟨RX7, "impair", "(II)I"⟩
abbrev cX7_maySublet : ByteArray := prog_9_method_28_code
def yX7_maySublet : MethodName := ⟨RX7, "maySublet", "(III)Z"⟩
abbrev cX7_sublet : ByteArray := prog_9_method_29_code
def yX7_sublet : MethodName := ⟨RX7, "sublet", "(IIII)I"⟩
abbrev cX7_passSubs : ByteArray := prog_9_method_30_code
def yX7_passSubs : MethodName := ⟨RX7, "passSubs", "(I)V"⟩
abbrev cX7_passLease : ByteArray := prog_9_method_31_code
def yX7_passLease : MethodName := ⟨RX7, "passLease", "(I)V"⟩
abbrev cX7_pass : ByteArray := prog_9_method_32_code
def yX7_pass : MethodName := ⟨RX7, "pass", "(I)I"⟩
abbrev cX7_append : ByteArray := prog_9_method_33_code
def yX7_append : MethodName := ⟨RX7, "append", "(I)I"⟩
abbrev cX7_clearBuffer : ByteArray := prog_9_method_34_code
def yX7_clearBuffer : MethodName := ⟨RX7, "clearBuffer", "()I"⟩
abbrev cX7_next : ByteArray := prog_9_method_35_code
def yX7_next : MethodName := ⟨RX7, "next", "()I"⟩
abbrev cX7_takes : ByteArray := prog_9_method_36_code
def yX7_takes : MethodName := ⟨RX7, "takes", "(I)Z"⟩
abbrev cX7_number : ByteArray := prog_9_method_37_code
def yX7_number : MethodName := ⟨RX7, "number", "(II)I"⟩
abbrev cX7_part : ByteArray := prog_9_method_38_code
def yX7_part : MethodName := ⟨RX7, "part", "()Z"⟩
abbrev cX7_areLeases : ByteArray := prog_9_method_39_code
def yX7_areLeases : MethodName := ⟨RX7, "areLeases", "()Z"⟩
abbrev cX7_firstError : ByteArray := prog_9_method_40_code
def yX7_firstError : MethodName := ⟨RX7, "firstError", "()I"⟩
abbrev cX7_openAll : ByteArray := prog_9_method_41_code
def yX7_openAll : MethodName := ⟨RX7, "openAll", "()I"⟩
abbrev cX7_undo : ByteArray := prog_9_method_42_code
def yX7_undo : MethodName := ⟨RX7, "undo", "()I"⟩
abbrev cX7_leaseOf : ByteArray := prog_9_method_43_code
def yX7_leaseOf : MethodName := ⟨RX7, "leaseOf", "(II)I"⟩
abbrev cX7_lease : ByteArray := prog_9_method_44_code
def yX7_lease : MethodName := ⟨RX7, "lease", "(II)I"⟩
abbrev cX7_sublease : ByteArray := prog_9_method_45_code
def yX7_sublease : MethodName := ⟨RX7, "sublease", "(II)I"⟩
abbrev cX7_moved : ByteArray := prog_9_method_46_code
def yX7_moved : MethodName := ⟨RX7, "moved", "(II)I"⟩
abbrev cX7_movement : ByteArray := prog_9_method_47_code
def yX7_movement : MethodName := ⟨RX7, "movement", "(II)I"⟩
abbrev cX7_profitOf : ByteArray := prog_9_method_48_code
def yX7_profitOf : MethodName := ⟨RX7, "profitOf", "(II)I"⟩
abbrev cX7_profit : ByteArray := prog_9_method_49_code
def yX7_profit : MethodName := ⟨RX7, "profit", "(II)I"⟩
abbrev cX7_running : ByteArray := prog_9_method_50_code
def yX7_running : MethodName := ⟨RX7, "running", "()I"⟩
abbrev cX7_ofLeases : ByteArray := prog_9_method_51_code
def yX7_ofLeases : MethodName := ⟨RX7, "ofLeases", "(I)I"⟩
abbrev cX7_profits : ByteArray := prog_9_method_52_code
def yX7_profits : MethodName := ⟨RX7, "profits", "()I"⟩
abbrev cX7_shortest : ByteArray := prog_9_method_53_code
def yX7_shortest : MethodName := ⟨RX7, "shortest", "()I"⟩
abbrev cX7_counted : ByteArray := prog_9_method_54_code
def yX7_counted : MethodName := ⟨RX7, "counted", "(I)I"⟩
abbrev cX7_count : ByteArray := prog_9_method_55_code
def yX7_count : MethodName := ⟨RX7, "count", "(I)I"⟩
abbrev cX7_worth : ByteArray := prog_9_method_56_code
def yX7_worth : MethodName := ⟨RX7, "worth", "(III)I"⟩
abbrev cX7_planOf : ByteArray := prog_9_method_57_code
def yX7_planOf : MethodName := ⟨RX7, "planOf", "(III)I"⟩
abbrev cX7_plan : ByteArray := prog_9_method_58_code
def yX7_plan : MethodName := ⟨RX7, "plan", "(III)I"⟩
abbrev cX7_measuredOf : ByteArray := prog_9_method_59_code
def yX7_measuredOf : MethodName := ⟨RX7, "measuredOf", "(IIIII)I"⟩
abbrev cX7_ifMeasured : ByteArray := prog_9_method_60_code
def yX7_ifMeasured : MethodName := ⟨RX7, "ifMeasured", "(IIIII)I"⟩
abbrev cX7_paymentOf : ByteArray := prog_9_method_61_code
def yX7_paymentOf : MethodName := ⟨RX7, "paymentOf", "(II)I"⟩
abbrev cX7_paymentFor : ByteArray := prog_9_method_62_code
def yX7_paymentFor : MethodName := ⟨RX7, "paymentFor", "(II)I"⟩
abbrev cX7_rateOf : ByteArray := prog_9_method_63_code
def yX7_rateOf : MethodName := ⟨RX7, "rateOf", "(I)I"⟩
abbrev cX7_rateWithin : ByteArray := prog_9_method_64_code
def yX7_rateWithin : MethodName := ⟨RX7, "rateWithin", "(I)I"⟩
abbrev cX7_receiptOf : ByteArray := prog_9_method_65_code
def yX7_receiptOf : MethodName := ⟨RX7, "receiptOf", "(III)I"⟩
abbrev cX7_fairReceipt : ByteArray := prog_9_method_66_code
def yX7_fairReceipt : MethodName := ⟨RX7, "fairReceipt", "(III)I"⟩
abbrev cX7_offOf : ByteArray := prog_9_method_67_code
def yX7_offOf : MethodName := ⟨RX7, "offOf", "()D"⟩
abbrev cX7_offShare : ByteArray := prog_9_method_68_code
def yX7_offShare : MethodName := ⟨RX7, "offShare", "()D"⟩
abbrev cX7_mix : ByteArray := prog_9_method_69_code
def yX7_mix : MethodName := ⟨RX7, "mix", "(J)V"⟩
abbrev cX7_mixLease : ByteArray := prog_9_method_70_code
def yX7_mixLease : MethodName := ⟨RX7, "mixLease", "(I)V"⟩
abbrev cX7_digest : ByteArray := prog_9_method_71_code
def yX7_digest : MethodName := ⟨RX7, "digest", "()J"⟩
def RJxe99ae : String := "java/lang/Double"
def TJxe99ae : u_T := fun k => match k with
  | _ => ("", "", "", false)
def tyJxe99ae : Nat → FieldType := fun k => match k with
  | _ => .int
abbrev wsJxe99ae0 : List Cond := u_ws RJxe99ae TJxe99ae 0
theorem nmJxe99ae : ∀ a, a < 0 → ∀ b, b < 0 → a ≠ b → (TJxe99ae a).2.1 ≠ (TJxe99ae b).2.1 := by decide +kernel
theorem tyJxe99ae_ok : ∀ k, k < 0 → parseFieldDescriptor (TJxe99ae k).2.2.1 = some (tyJxe99ae k) := by decide +kernel
abbrev cJxe99ae_isNaN_b9ae7 : ByteArray := prog_10_method_6_code
def yJxe99ae_isNaN_b9ae7 : MethodName := ⟨RJxe99ae, "isNaN", "(D)Z"⟩
abbrev cJxe99ae_doubleToLongBits_ccdee : ByteArray := prog_10_method_23_code
def yJxe99ae_doubleToLongBits_ccdee : MethodName := ⟨RJxe99ae, "doubleToLongBits", "(D)J"⟩
def RJ9 : String := "java/lang/Math"
def TJ9 : u_T := fun k => match k with
  | _ => ("", "", "", false)
def tyJ9 : Nat → FieldType := fun k => match k with
  | _ => .int
abbrev wsJ90 : List Cond := u_ws RJ9 TJ9 0
theorem nmJ9 : ∀ a, a < 0 → ∀ b, b < 0 → a ≠ b → (TJ9 a).2.1 ≠ (TJ9 b).2.1 := by decide +kernel
theorem tyJ9_ok : ∀ k, k < 0 → parseFieldDescriptor (TJ9 k).2.2.1 = some (tyJ9 k) := by decide +kernel
abbrev cJ9_max_7cf53 : ByteArray := prog_15_method_65_code
def yJ9_max_7cf53 : MethodName := ⟨RJ9, "max", "(II)I"⟩
abbrev cJ9_min_7cf53 : ByteArray := prog_15_method_69_code
def yJ9_min_7cf53 : MethodName := ⟨RJ9, "min", "(II)I"⟩
def RJ0 : String := "java/lang/String"
def TJ0 : u_T := fun k => match k with
  | _ => ("", "", "", false)
def tyJ0 : Nat → FieldType := fun k => match k with
  | _ => .int
abbrev wsJ00 : List Cond := u_ws RJ0 TJ0 0
theorem nmJ0 : ∀ a, a < 0 → ∀ b, b < 0 → a ≠ b → (TJ0 a).2.1 ≠ (TJ0 b).2.1 := by decide +kernel
theorem tyJ0_ok : ∀ k, k < 0 → parseFieldDescriptor (TJ0 k).2.2.1 = some (tyJ0 k) := by decide +kernel
def RL : String := "LeaseBookLaw"
abbrev cL_open : ByteArray := method_3_code
def yL_open : MethodName := ⟨RL, "open", "(LLeaseBook;IIII[J)I"⟩
abbrev cL_term : ByteArray := method_4_code
def yL_term : MethodName := ⟨RL, "term", "(LLeaseBook;III[J)I"⟩
abbrev cL_rent : ByteArray := method_5_code
def yL_rent : MethodName := ⟨RL, "rent", "(LLeaseBook;II[J)I"⟩
abbrev cL_endPart : ByteArray := method_6_code
def yL_endPart : MethodName := ⟨RL, "endPart", "(LLeaseBook;III[J)I"⟩
abbrev cL_impair : ByteArray := method_7_code
def yL_impair : MethodName := ⟨RL, "impair", "(LLeaseBook;II[J)I"⟩
abbrev cL_sublet : ByteArray := method_8_code
def yL_sublet : MethodName := ⟨RL, "sublet", "(LLeaseBook;IIII[J)I"⟩
abbrev cL_pass : ByteArray := method_9_code
def yL_pass : MethodName := ⟨RL, "pass", "(LLeaseBook;I[J)I"⟩
abbrev cL_append : ByteArray := method_10_code
def yL_append : MethodName := ⟨RL, "append", "(LLeaseBook;I[J)I"⟩
abbrev cL_openAll : ByteArray := method_11_code
def yL_openAll : MethodName := ⟨RL, "openAll", "(LLeaseBook;[J)I"⟩
abbrev cL_undo : ByteArray := method_12_code
def yL_undo : MethodName := ⟨RL, "undo", "(LLeaseBook;[J)I"⟩
abbrev cL_lease : ByteArray := method_13_code
def yL_lease : MethodName := ⟨RL, "lease", "(LLeaseBook;II[J)I"⟩
abbrev cL_sublease : ByteArray := method_14_code
def yL_sublease : MethodName := ⟨RL, "sublease", "(LLeaseBook;II[J)I"⟩
abbrev cL_movement : ByteArray := method_15_code
def yL_movement : MethodName := ⟨RL, "movement", "(LLeaseBook;II[J)I"⟩
abbrev cL_profit : ByteArray := method_16_code
def yL_profit : MethodName := ⟨RL, "profit", "(LLeaseBook;II[J)I"⟩
abbrev cL_count : ByteArray := method_17_code
def yL_count : MethodName := ⟨RL, "count", "(LLeaseBook;I[J)I"⟩
abbrev cL_worth : ByteArray := method_18_code
def yL_worth : MethodName := ⟨RL, "worth", "(LLeaseBook;III[J)I"⟩
abbrev cL_plan : ByteArray := method_19_code
def yL_plan : MethodName := ⟨RL, "plan", "(LLeaseBook;III[J)I"⟩
abbrev cL_ifMeasured : ByteArray := method_20_code
def yL_ifMeasured : MethodName := ⟨RL, "ifMeasured", "(LLeaseBook;IIIII[J)I"⟩
abbrev cL_paymentFor : ByteArray := method_21_code
def yL_paymentFor : MethodName := ⟨RL, "paymentFor", "(LLeaseBook;II[J)I"⟩
abbrev cL_rateWithin : ByteArray := method_22_code
def yL_rateWithin : MethodName := ⟨RL, "rateWithin", "(LLeaseBook;I[J)I"⟩
abbrev cL_fairReceipt : ByteArray := method_23_code
def yL_fairReceipt : MethodName := ⟨RL, "fairReceipt", "(LLeaseBook;III[J)I"⟩
abbrev cL_law : ByteArray := code
def yL_law : MethodName := ⟨RL, "law", "([I)Z"⟩
theorem dX0_init_0 : decode cX0_init 0 = .ok (.aload_n 0, 1) := by decide +kernel
theorem dX0_init_1 : decode cX0_init 1 = .ok (.invokespecial 3, 3) := by decide +kernel
theorem dX0_init_4 : decode cX0_init 4 = .ok (.aload_n 0, 1) := by decide +kernel
theorem dX0_init_5 : decode cX0_init 5 = .ok (.bipush 6, 2) := by decide +kernel
theorem dX0_init_7 : decode cX0_init 7 = .ok (.anewarray 9, 3) := by decide +kernel
theorem dX0_init_10 : decode cX0_init 10 = .ok (.putfield 11, 3) := by decide +kernel
theorem dX0_init_13 : decode cX0_init 13 = .ok (.iconst 0, 1) := by decide +kernel
theorem dX0_init_14 : decode cX0_init 14 = .ok (.istore_n 1, 1) := by decide +kernel
theorem dX0_init_15 : decode cX0_init 15 = .ok (.iload_n 1, 1) := by decide +kernel
theorem dX0_init_16 : decode cX0_init 16 = .ok (.aload_n 0, 1) := by decide +kernel
theorem dX0_init_17 : decode cX0_init 17 = .ok (.getfield 11, 3) := by decide +kernel
theorem dX0_init_20 : decode cX0_init 20 = .ok (.arraylength, 1) := by decide +kernel
theorem dX0_init_21 : decode cX0_init 21 = .ok (.if_icmp .ge 22, 3) := by decide +kernel
theorem dX0_init_24 : decode cX0_init 24 = .ok (.aload_n 0, 1) := by decide +kernel
theorem dX0_init_25 : decode cX0_init 25 = .ok (.getfield 11, 3) := by decide +kernel
theorem dX0_init_28 : decode cX0_init 28 = .ok (.iload_n 1, 1) := by decide +kernel
theorem dX0_init_29 : decode cX0_init 29 = .ok (.new 9, 3) := by decide +kernel
theorem dX0_init_32 : decode cX0_init 32 = .ok (.dup, 1) := by decide +kernel
theorem dX0_init_33 : decode cX0_init 33 = .ok (.invokespecial 17, 3) := by decide +kernel
theorem dX0_init_36 : decode cX0_init 36 = .ok (.aastore, 1) := by decide +kernel
theorem dX0_init_37 : decode cX0_init 37 = .ok (.iinc 1 1, 3) := by decide +kernel
theorem dX0_init_40 : decode cX0_init 40 = .ok (.goto (-25), 3) := by decide +kernel
theorem dX0_init_43 : decode cX0_init 43 = .ok (.return_, 1) := by decide +kernel
theorem dX0_save_0 : decode cX0_save 0 = .ok (.aload_n 0, 1) := by decide +kernel
theorem dX0_save_1 : decode cX0_save 1 = .ok (.getfield 18, 3) := by decide +kernel
theorem dX0_save_4 : decode cX0_save 4 = .ok (.bipush 6, 2) := by decide +kernel
theorem dX0_save_6 : decode cX0_save 6 = .ok (.if_icmp .lt 26, 3) := by decide +kernel
theorem dX0_save_9 : decode cX0_save 9 = .ok (.aload_n 0, 1) := by decide +kernel
theorem dX0_save_10 : decode cX0_save 10 = .ok (.aload_n 0, 1) := by decide +kernel
theorem dX0_save_11 : decode cX0_save 11 = .ok (.getfield 22, 3) := by decide +kernel
theorem dX0_save_14 : decode cX0_save 14 = .ok (.iconst 1, 1) := by decide +kernel
theorem dX0_save_15 : decode cX0_save 15 = .ok (.iadd, 1) := by decide +kernel
theorem dX0_save_16 : decode cX0_save 16 = .ok (.bipush 6, 2) := by decide +kernel
theorem dX0_save_18 : decode cX0_save 18 = .ok (.irem, 1) := by decide +kernel
theorem dX0_save_19 : decode cX0_save 19 = .ok (.putfield 22, 3) := by decide +kernel
theorem dX0_save_22 : decode cX0_save 22 = .ok (.aload_n 0, 1) := by decide +kernel
theorem dX0_save_23 : decode cX0_save 23 = .ok (.dup, 1) := by decide +kernel
theorem dX0_save_24 : decode cX0_save 24 = .ok (.getfield 18, 3) := by decide +kernel
theorem dX0_save_27 : decode cX0_save 27 = .ok (.iconst 1, 1) := by decide +kernel
theorem dX0_save_28 : decode cX0_save 28 = .ok (.isub, 1) := by decide +kernel
theorem dX0_save_29 : decode cX0_save 29 = .ok (.putfield 18, 3) := by decide +kernel
theorem dX0_save_32 : decode cX0_save 32 = .ok (.aload_n 0, 1) := by decide +kernel
theorem dX0_save_33 : decode cX0_save 33 = .ok (.aload_n 0, 1) := by decide +kernel
theorem dX0_save_34 : decode cX0_save 34 = .ok (.getfield 18, 3) := by decide +kernel
theorem dX0_save_37 : decode cX0_save 37 = .ok (.invokevirtual 25, 3) := by decide +kernel
theorem dX0_save_40 : decode cX0_save 40 = .ok (.astore_n 2, 1) := by decide +kernel
theorem dX0_save_41 : decode cX0_save 41 = .ok (.aload_n 2, 1) := by decide +kernel
theorem dX0_save_42 : decode cX0_save 42 = .ok (.ifnull 18, 3) := by decide +kernel
theorem dX0_save_45 : decode cX0_save 45 = .ok (.aload_n 2, 1) := by decide +kernel
theorem dX0_save_46 : decode cX0_save 46 = .ok (.aload_n 1, 1) := by decide +kernel
theorem dX0_save_47 : decode cX0_save 47 = .ok (.invokevirtual 29, 3) := by decide +kernel
theorem dX0_save_50 : decode cX0_save 50 = .ok (.aload_n 0, 1) := by decide +kernel
theorem dX0_save_51 : decode cX0_save 51 = .ok (.dup, 1) := by decide +kernel
theorem dX0_save_52 : decode cX0_save 52 = .ok (.getfield 18, 3) := by decide +kernel
theorem dX0_save_55 : decode cX0_save 55 = .ok (.iconst 1, 1) := by decide +kernel
theorem dX0_save_56 : decode cX0_save 56 = .ok (.iadd, 1) := by decide +kernel
theorem dX0_save_57 : decode cX0_save 57 = .ok (.putfield 18, 3) := by decide +kernel
theorem dX0_save_60 : decode cX0_save 60 = .ok (.return_, 1) := by decide +kernel
theorem dX0_restore_0 : decode cX0_restore 0 = .ok (.aload_n 0, 1) := by decide +kernel
theorem dX0_restore_1 : decode cX0_restore 1 = .ok (.aload_n 0, 1) := by decide +kernel
theorem dX0_restore_2 : decode cX0_restore 2 = .ok (.getfield 18, 3) := by decide +kernel
theorem dX0_restore_5 : decode cX0_restore 5 = .ok (.iconst 1, 1) := by decide +kernel
theorem dX0_restore_6 : decode cX0_restore 6 = .ok (.isub, 1) := by decide +kernel
theorem dX0_restore_7 : decode cX0_restore 7 = .ok (.invokevirtual 25, 3) := by decide +kernel
theorem dX0_restore_10 : decode cX0_restore 10 = .ok (.astore_n 2, 1) := by decide +kernel
theorem dX0_restore_11 : decode cX0_restore 11 = .ok (.aload_n 2, 1) := by decide +kernel
theorem dX0_restore_12 : decode cX0_restore 12 = .ok (.ifnull 18, 3) := by decide +kernel
theorem dX0_restore_15 : decode cX0_restore 15 = .ok (.aload_n 1, 1) := by decide +kernel
theorem dX0_restore_16 : decode cX0_restore 16 = .ok (.aload_n 2, 1) := by decide +kernel
theorem dX0_restore_17 : decode cX0_restore 17 = .ok (.invokevirtual 29, 3) := by decide +kernel
theorem dX0_restore_20 : decode cX0_restore 20 = .ok (.aload_n 0, 1) := by decide +kernel
theorem dX0_restore_21 : decode cX0_restore 21 = .ok (.dup, 1) := by decide +kernel
theorem dX0_restore_22 : decode cX0_restore 22 = .ok (.getfield 18, 3) := by decide +kernel
theorem dX0_restore_25 : decode cX0_restore 25 = .ok (.iconst 1, 1) := by decide +kernel
theorem dX0_restore_26 : decode cX0_restore 26 = .ok (.isub, 1) := by decide +kernel
theorem dX0_restore_27 : decode cX0_restore 27 = .ok (.putfield 18, 3) := by decide +kernel
theorem dX0_restore_30 : decode cX0_restore 30 = .ok (.return_, 1) := by decide +kernel
theorem dX0_slotAt_0 : decode cX0_slotAt 0 = .ok (.aload_n 0, 1) := by decide +kernel
theorem dX0_slotAt_1 : decode cX0_slotAt 1 = .ok (.getfield 22, 3) := by decide +kernel
theorem dX0_slotAt_4 : decode cX0_slotAt 4 = .ok (.iload_n 1, 1) := by decide +kernel
theorem dX0_slotAt_5 : decode cX0_slotAt 5 = .ok (.iadd, 1) := by decide +kernel
theorem dX0_slotAt_6 : decode cX0_slotAt 6 = .ok (.bipush 6, 2) := by decide +kernel
theorem dX0_slotAt_8 : decode cX0_slotAt 8 = .ok (.irem, 1) := by decide +kernel
theorem dX0_slotAt_9 : decode cX0_slotAt 9 = .ok (.istore_n 2, 1) := by decide +kernel
theorem dX0_slotAt_10 : decode cX0_slotAt 10 = .ok (.iload_n 1, 1) := by decide +kernel
theorem dX0_slotAt_11 : decode cX0_slotAt 11 = .ok (.ifCond .lt 25, 3) := by decide +kernel
theorem dX0_slotAt_14 : decode cX0_slotAt 14 = .ok (.iload_n 2, 1) := by decide +kernel
theorem dX0_slotAt_15 : decode cX0_slotAt 15 = .ok (.ifCond .lt 21, 3) := by decide +kernel
theorem dX0_slotAt_18 : decode cX0_slotAt 18 = .ok (.iload_n 2, 1) := by decide +kernel
theorem dX0_slotAt_19 : decode cX0_slotAt 19 = .ok (.aload_n 0, 1) := by decide +kernel
theorem dX0_slotAt_20 : decode cX0_slotAt 20 = .ok (.getfield 11, 3) := by decide +kernel
theorem dX0_slotAt_23 : decode cX0_slotAt 23 = .ok (.arraylength, 1) := by decide +kernel
theorem dX0_slotAt_24 : decode cX0_slotAt 24 = .ok (.if_icmp .ge 12, 3) := by decide +kernel
theorem dX0_slotAt_27 : decode cX0_slotAt 27 = .ok (.aload_n 0, 1) := by decide +kernel
theorem dX0_slotAt_28 : decode cX0_slotAt 28 = .ok (.getfield 11, 3) := by decide +kernel
theorem dX0_slotAt_31 : decode cX0_slotAt 31 = .ok (.iload_n 2, 1) := by decide +kernel
theorem dX0_slotAt_32 : decode cX0_slotAt 32 = .ok (.aaload, 1) := by decide +kernel
theorem dX0_slotAt_33 : decode cX0_slotAt 33 = .ok (.goto 4, 3) := by decide +kernel
theorem dX0_slotAt_36 : decode cX0_slotAt 36 = .ok (.aconst_null, 1) := by decide +kernel
theorem dX0_slotAt_37 : decode cX0_slotAt 37 = .ok (.areturn, 1) := by decide +kernel
theorem dX1_init_0 : decode cX1_init 0 = .ok (.aload_n 0, 1) := by decide +kernel
theorem dX1_init_1 : decode cX1_init 1 = .ok (.invokespecial 3, 3) := by decide +kernel
theorem dX1_init_4 : decode cX1_init 4 = .ok (.aload_n 0, 1) := by decide +kernel
theorem dX1_init_5 : decode cX1_init 5 = .ok (.bipush 60, 2) := by decide +kernel
theorem dX1_init_7 : decode cX1_init 7 = .ok (.newarray .char, 2) := by decide +kernel
theorem dX1_init_9 : decode cX1_init 9 = .ok (.putfield 9, 3) := by decide +kernel
theorem dX1_init_12 : decode cX1_init 12 = .ok (.return_, 1) := by decide +kernel
theorem dX1_add_0 : decode cX1_add 0 = .ok (.aload_n 0, 1) := by decide +kernel
theorem dX1_add_1 : decode cX1_add 1 = .ok (.getfield 15, 3) := by decide +kernel
theorem dX1_add_4 : decode cX1_add 4 = .ok (.ifCond .lt 36, 3) := by decide +kernel
theorem dX1_add_7 : decode cX1_add 7 = .ok (.aload_n 0, 1) := by decide +kernel
theorem dX1_add_8 : decode cX1_add 8 = .ok (.getfield 15, 3) := by decide +kernel
theorem dX1_add_11 : decode cX1_add 11 = .ok (.aload_n 0, 1) := by decide +kernel
theorem dX1_add_12 : decode cX1_add 12 = .ok (.getfield 9, 3) := by decide +kernel
theorem dX1_add_15 : decode cX1_add 15 = .ok (.arraylength, 1) := by decide +kernel
theorem dX1_add_16 : decode cX1_add 16 = .ok (.if_icmp .ge 24, 3) := by decide +kernel
theorem dX1_add_19 : decode cX1_add 19 = .ok (.aload_n 0, 1) := by decide +kernel
theorem dX1_add_20 : decode cX1_add 20 = .ok (.getfield 9, 3) := by decide +kernel
theorem dX1_add_23 : decode cX1_add 23 = .ok (.aload_n 0, 1) := by decide +kernel
theorem dX1_add_24 : decode cX1_add 24 = .ok (.getfield 15, 3) := by decide +kernel
theorem dX1_add_27 : decode cX1_add 27 = .ok (.iload_n 1, 1) := by decide +kernel
theorem dX1_add_28 : decode cX1_add 28 = .ok (.i2c, 1) := by decide +kernel
theorem dX1_add_29 : decode cX1_add 29 = .ok (.castore, 1) := by decide +kernel
theorem dX1_add_30 : decode cX1_add 30 = .ok (.aload_n 0, 1) := by decide +kernel
theorem dX1_add_31 : decode cX1_add 31 = .ok (.dup, 1) := by decide +kernel
theorem dX1_add_32 : decode cX1_add 32 = .ok (.getfield 15, 3) := by decide +kernel
theorem dX1_add_35 : decode cX1_add 35 = .ok (.iconst 1, 1) := by decide +kernel
theorem dX1_add_36 : decode cX1_add 36 = .ok (.iadd, 1) := by decide +kernel
theorem dX1_add_37 : decode cX1_add 37 = .ok (.putfield 15, 3) := by decide +kernel
theorem dX1_add_40 : decode cX1_add 40 = .ok (.return_, 1) := by decide +kernel
theorem dX1_codeAt_0 : decode cX1_codeAt 0 = .ok (.iload_n 1, 1) := by decide +kernel
theorem dX1_codeAt_1 : decode cX1_codeAt 1 = .ok (.ifCond .lt 29, 3) := by decide +kernel
theorem dX1_codeAt_4 : decode cX1_codeAt 4 = .ok (.iload_n 1, 1) := by decide +kernel
theorem dX1_codeAt_5 : decode cX1_codeAt 5 = .ok (.aload_n 0, 1) := by decide +kernel
theorem dX1_codeAt_6 : decode cX1_codeAt 6 = .ok (.getfield 15, 3) := by decide +kernel
theorem dX1_codeAt_9 : decode cX1_codeAt 9 = .ok (.if_icmp .ge 21, 3) := by decide +kernel
theorem dX1_codeAt_12 : decode cX1_codeAt 12 = .ok (.iload_n 1, 1) := by decide +kernel
theorem dX1_codeAt_13 : decode cX1_codeAt 13 = .ok (.aload_n 0, 1) := by decide +kernel
theorem dX1_codeAt_14 : decode cX1_codeAt 14 = .ok (.getfield 9, 3) := by decide +kernel
theorem dX1_codeAt_17 : decode cX1_codeAt 17 = .ok (.arraylength, 1) := by decide +kernel
theorem dX1_codeAt_18 : decode cX1_codeAt 18 = .ok (.if_icmp .ge 12, 3) := by decide +kernel
theorem dX1_codeAt_21 : decode cX1_codeAt 21 = .ok (.aload_n 0, 1) := by decide +kernel
theorem dX1_codeAt_22 : decode cX1_codeAt 22 = .ok (.getfield 9, 3) := by decide +kernel
theorem dX1_codeAt_25 : decode cX1_codeAt 25 = .ok (.iload_n 1, 1) := by decide +kernel
theorem dX1_codeAt_26 : decode cX1_codeAt 26 = .ok (.caload, 1) := by decide +kernel
theorem dX1_codeAt_27 : decode cX1_codeAt 27 = .ok (.goto 4, 3) := by decide +kernel
theorem dX1_codeAt_30 : decode cX1_codeAt 30 = .ok (.iconst 0, 1) := by decide +kernel
theorem dX1_codeAt_31 : decode cX1_codeAt 31 = .ok (.ireturn, 1) := by decide +kernel
theorem dX1_countOf_0 : decode cX1_countOf 0 = .ok (.iconst 0, 1) := by decide +kernel
theorem dX1_countOf_1 : decode cX1_countOf 1 = .ok (.istore_n 2, 1) := by decide +kernel
theorem dX1_countOf_2 : decode cX1_countOf 2 = .ok (.iconst 0, 1) := by decide +kernel
theorem dX1_countOf_3 : decode cX1_countOf 3 = .ok (.istore_n 3, 1) := by decide +kernel
theorem dX1_countOf_4 : decode cX1_countOf 4 = .ok (.iload_n 3, 1) := by decide +kernel
theorem dX1_countOf_5 : decode cX1_countOf 5 = .ok (.aload_n 0, 1) := by decide +kernel
theorem dX1_countOf_6 : decode cX1_countOf 6 = .ok (.getfield 15, 3) := by decide +kernel
theorem dX1_countOf_9 : decode cX1_countOf 9 = .ok (.if_icmp .ge 21, 3) := by decide +kernel
theorem dX1_countOf_12 : decode cX1_countOf 12 = .ok (.aload_n 0, 1) := by decide +kernel
theorem dX1_countOf_13 : decode cX1_countOf 13 = .ok (.iload_n 3, 1) := by decide +kernel
theorem dX1_countOf_14 : decode cX1_countOf 14 = .ok (.invokevirtual 19, 3) := by decide +kernel
theorem dX1_countOf_17 : decode cX1_countOf 17 = .ok (.iload_n 1, 1) := by decide +kernel
theorem dX1_countOf_18 : decode cX1_countOf 18 = .ok (.if_icmp .ne 6, 3) := by decide +kernel
theorem dX1_countOf_21 : decode cX1_countOf 21 = .ok (.iinc 2 1, 3) := by decide +kernel
theorem dX1_countOf_24 : decode cX1_countOf 24 = .ok (.iinc 3 1, 3) := by decide +kernel
theorem dX1_countOf_27 : decode cX1_countOf 27 = .ok (.goto (-23), 3) := by decide +kernel
theorem dX1_countOf_30 : decode cX1_countOf 30 = .ok (.iload_n 2, 1) := by decide +kernel
theorem dX1_countOf_31 : decode cX1_countOf 31 = .ok (.ireturn, 1) := by decide +kernel
theorem dX2_init_0 : decode cX2_init 0 = .ok (.aload_n 0, 1) := by decide +kernel
theorem dX2_init_1 : decode cX2_init 1 = .ok (.invokespecial 3, 3) := by decide +kernel
theorem dX2_init_4 : decode cX2_init 4 = .ok (.aload_n 0, 1) := by decide +kernel
theorem dX2_init_5 : decode cX2_init 5 = .ok (.bipush 17, 2) := by decide +kernel
theorem dX2_init_7 : decode cX2_init 7 = .ok (.newarray .int, 2) := by decide +kernel
theorem dX2_init_9 : decode cX2_init 9 = .ok (.putfield 9, 3) := by decide +kernel
theorem dX2_init_12 : decode cX2_init 12 = .ok (.return_, 1) := by decide +kernel
theorem dX2_begin_0 : decode cX2_begin 0 = .ok (.iconst 0, 1) := by decide +kernel
theorem dX2_begin_1 : decode cX2_begin 1 = .ok (.istore 5, 2) := by decide +kernel
theorem dX2_begin_3 : decode cX2_begin 3 = .ok (.iload 5, 2) := by decide +kernel
theorem dX2_begin_5 : decode cX2_begin 5 = .ok (.aload_n 0, 1) := by decide +kernel
theorem dX2_begin_6 : decode cX2_begin 6 = .ok (.getfield 9, 3) := by decide +kernel
theorem dX2_begin_9 : decode cX2_begin 9 = .ok (.arraylength, 1) := by decide +kernel
theorem dX2_begin_10 : decode cX2_begin 10 = .ok (.if_icmp .ge 17, 3) := by decide +kernel
theorem dX2_begin_13 : decode cX2_begin 13 = .ok (.aload_n 0, 1) := by decide +kernel
theorem dX2_begin_14 : decode cX2_begin 14 = .ok (.getfield 9, 3) := by decide +kernel
theorem dX2_begin_17 : decode cX2_begin 17 = .ok (.iload 5, 2) := by decide +kernel
theorem dX2_begin_19 : decode cX2_begin 19 = .ok (.iconst 0, 1) := by decide +kernel
theorem dX2_begin_20 : decode cX2_begin 20 = .ok (.iastore, 1) := by decide +kernel
theorem dX2_begin_21 : decode cX2_begin 21 = .ok (.iinc 5 1, 3) := by decide +kernel
theorem dX2_begin_24 : decode cX2_begin 24 = .ok (.goto (-21), 3) := by decide +kernel
theorem dX2_begin_27 : decode cX2_begin 27 = .ok (.aload_n 0, 1) := by decide +kernel
theorem dX2_begin_28 : decode cX2_begin 28 = .ok (.iload_n 1, 1) := by decide +kernel
theorem dX2_begin_29 : decode cX2_begin 29 = .ok (.putfield 15, 3) := by decide +kernel
theorem dX2_begin_32 : decode cX2_begin 32 = .ok (.aload_n 0, 1) := by decide +kernel
theorem dX2_begin_33 : decode cX2_begin 33 = .ok (.iload_n 2, 1) := by decide +kernel
theorem dX2_begin_34 : decode cX2_begin 34 = .ok (.putfield 19, 3) := by decide +kernel
theorem dX2_begin_37 : decode cX2_begin 37 = .ok (.aload_n 0, 1) := by decide +kernel
theorem dX2_begin_38 : decode cX2_begin 38 = .ok (.iload_n 3, 1) := by decide +kernel
theorem dX2_begin_39 : decode cX2_begin 39 = .ok (.putfield 22, 3) := by decide +kernel
theorem dX2_begin_42 : decode cX2_begin 42 = .ok (.aload_n 0, 1) := by decide +kernel
theorem dX2_begin_43 : decode cX2_begin 43 = .ok (.iload_n 1, 1) := by decide +kernel
theorem dX2_begin_44 : decode cX2_begin 44 = .ok (.iload_n 2, 1) := by decide +kernel
theorem dX2_begin_45 : decode cX2_begin 45 = .ok (.iload_n 3, 1) := by decide +kernel
theorem dX2_begin_46 : decode cX2_begin 46 = .ok (.invokestatic 25, 3) := by decide +kernel
theorem dX2_begin_49 : decode cX2_begin 49 = .ok (.putfield 29, 3) := by decide +kernel
theorem dX2_begin_52 : decode cX2_begin 52 = .ok (.aload_n 0, 1) := by decide +kernel
theorem dX2_begin_53 : decode cX2_begin 53 = .ok (.aload_n 0, 1) := by decide +kernel
theorem dX2_begin_54 : decode cX2_begin 54 = .ok (.getfield 29, 3) := by decide +kernel
theorem dX2_begin_57 : decode cX2_begin 57 = .ok (.iload 4, 2) := by decide +kernel
theorem dX2_begin_59 : decode cX2_begin 59 = .ok (.iadd, 1) := by decide +kernel
theorem dX2_begin_60 : decode cX2_begin 60 = .ok (.putfield 32, 3) := by decide +kernel
theorem dX2_begin_63 : decode cX2_begin 63 = .ok (.aload_n 0, 1) := by decide +kernel
theorem dX2_begin_64 : decode cX2_begin 64 = .ok (.iconst 0, 1) := by decide +kernel
theorem dX2_begin_65 : decode cX2_begin 65 = .ok (.aload_n 0, 1) := by decide +kernel
theorem dX2_begin_66 : decode cX2_begin 66 = .ok (.getfield 29, 3) := by decide +kernel
theorem dX2_begin_69 : decode cX2_begin 69 = .ok (.invokevirtual 35, 3) := by decide +kernel
theorem dX2_begin_72 : decode cX2_begin 72 = .ok (.aload_n 0, 1) := by decide +kernel
theorem dX2_begin_73 : decode cX2_begin 73 = .ok (.iconst 5, 1) := by decide +kernel
theorem dX2_begin_74 : decode cX2_begin 74 = .ok (.aload_n 0, 1) := by decide +kernel
theorem dX2_begin_75 : decode cX2_begin 75 = .ok (.getfield 32, 3) := by decide +kernel
theorem dX2_begin_78 : decode cX2_begin 78 = .ok (.invokevirtual 35, 3) := by decide +kernel
theorem dX2_begin_81 : decode cX2_begin 81 = .ok (.aload_n 0, 1) := by decide +kernel
theorem dX2_begin_82 : decode cX2_begin 82 = .ok (.bipush 15, 2) := by decide +kernel
theorem dX2_begin_84 : decode cX2_begin 84 = .ok (.iload 4, 2) := by decide +kernel
theorem dX2_begin_86 : decode cX2_begin 86 = .ok (.invokevirtual 35, 3) := by decide +kernel
theorem dX2_begin_89 : decode cX2_begin 89 = .ok (.return_, 1) := by decide +kernel
theorem dX2_copyFrom_0 : decode cX2_copyFrom 0 = .ok (.aload_n 0, 1) := by decide +kernel
theorem dX2_copyFrom_1 : decode cX2_copyFrom 1 = .ok (.aload_n 1, 1) := by decide +kernel
theorem dX2_copyFrom_2 : decode cX2_copyFrom 2 = .ok (.getfield 15, 3) := by decide +kernel
theorem dX2_copyFrom_5 : decode cX2_copyFrom 5 = .ok (.putfield 15, 3) := by decide +kernel
theorem dX2_copyFrom_8 : decode cX2_copyFrom 8 = .ok (.aload_n 0, 1) := by decide +kernel
theorem dX2_copyFrom_9 : decode cX2_copyFrom 9 = .ok (.aload_n 1, 1) := by decide +kernel
theorem dX2_copyFrom_10 : decode cX2_copyFrom 10 = .ok (.getfield 19, 3) := by decide +kernel
theorem dX2_copyFrom_13 : decode cX2_copyFrom 13 = .ok (.putfield 19, 3) := by decide +kernel
theorem dX2_copyFrom_16 : decode cX2_copyFrom 16 = .ok (.aload_n 0, 1) := by decide +kernel
theorem dX2_copyFrom_17 : decode cX2_copyFrom 17 = .ok (.aload_n 1, 1) := by decide +kernel
theorem dX2_copyFrom_18 : decode cX2_copyFrom 18 = .ok (.getfield 22, 3) := by decide +kernel
theorem dX2_copyFrom_21 : decode cX2_copyFrom 21 = .ok (.putfield 22, 3) := by decide +kernel
theorem dX2_copyFrom_24 : decode cX2_copyFrom 24 = .ok (.aload_n 0, 1) := by decide +kernel
theorem dX2_copyFrom_25 : decode cX2_copyFrom 25 = .ok (.aload_n 1, 1) := by decide +kernel
theorem dX2_copyFrom_26 : decode cX2_copyFrom 26 = .ok (.getfield 29, 3) := by decide +kernel
theorem dX2_copyFrom_29 : decode cX2_copyFrom 29 = .ok (.putfield 29, 3) := by decide +kernel
theorem dX2_copyFrom_32 : decode cX2_copyFrom 32 = .ok (.aload_n 0, 1) := by decide +kernel
theorem dX2_copyFrom_33 : decode cX2_copyFrom 33 = .ok (.aload_n 1, 1) := by decide +kernel
theorem dX2_copyFrom_34 : decode cX2_copyFrom 34 = .ok (.getfield 32, 3) := by decide +kernel
theorem dX2_copyFrom_37 : decode cX2_copyFrom 37 = .ok (.putfield 32, 3) := by decide +kernel
theorem dX2_copyFrom_40 : decode cX2_copyFrom 40 = .ok (.iconst 0, 1) := by decide +kernel
theorem dX2_copyFrom_41 : decode cX2_copyFrom 41 = .ok (.istore_n 2, 1) := by decide +kernel
theorem dX2_copyFrom_42 : decode cX2_copyFrom 42 = .ok (.iload_n 2, 1) := by decide +kernel
theorem dX2_copyFrom_43 : decode cX2_copyFrom 43 = .ok (.aload_n 0, 1) := by decide +kernel
theorem dX2_copyFrom_44 : decode cX2_copyFrom 44 = .ok (.getfield 9, 3) := by decide +kernel
theorem dX2_copyFrom_47 : decode cX2_copyFrom 47 = .ok (.arraylength, 1) := by decide +kernel
theorem dX2_copyFrom_48 : decode cX2_copyFrom 48 = .ok (.if_icmp .ge 30, 3) := by decide +kernel
theorem dX2_copyFrom_51 : decode cX2_copyFrom 51 = .ok (.iload_n 2, 1) := by decide +kernel
theorem dX2_copyFrom_52 : decode cX2_copyFrom 52 = .ok (.aload_n 1, 1) := by decide +kernel
theorem dX2_copyFrom_53 : decode cX2_copyFrom 53 = .ok (.getfield 9, 3) := by decide +kernel
theorem dX2_copyFrom_56 : decode cX2_copyFrom 56 = .ok (.arraylength, 1) := by decide +kernel
theorem dX2_copyFrom_57 : decode cX2_copyFrom 57 = .ok (.if_icmp .ge 21, 3) := by decide +kernel
theorem dX2_copyFrom_60 : decode cX2_copyFrom 60 = .ok (.aload_n 0, 1) := by decide +kernel
theorem dX2_copyFrom_61 : decode cX2_copyFrom 61 = .ok (.getfield 9, 3) := by decide +kernel
theorem dX2_copyFrom_64 : decode cX2_copyFrom 64 = .ok (.iload_n 2, 1) := by decide +kernel
theorem dX2_copyFrom_65 : decode cX2_copyFrom 65 = .ok (.aload_n 1, 1) := by decide +kernel
theorem dX2_copyFrom_66 : decode cX2_copyFrom 66 = .ok (.getfield 9, 3) := by decide +kernel
theorem dX2_copyFrom_69 : decode cX2_copyFrom 69 = .ok (.iload_n 2, 1) := by decide +kernel
theorem dX2_copyFrom_70 : decode cX2_copyFrom 70 = .ok (.iaload, 1) := by decide +kernel
theorem dX2_copyFrom_71 : decode cX2_copyFrom 71 = .ok (.iastore, 1) := by decide +kernel
theorem dX2_copyFrom_72 : decode cX2_copyFrom 72 = .ok (.iinc 2 1, 3) := by decide +kernel
theorem dX2_copyFrom_75 : decode cX2_copyFrom 75 = .ok (.goto (-33), 3) := by decide +kernel
theorem dX2_copyFrom_78 : decode cX2_copyFrom 78 = .ok (.return_, 1) := by decide +kernel
theorem dX2_runs_0 : decode cX2_runs 0 = .ok (.aload_n 0, 1) := by decide +kernel
theorem dX2_runs_1 : decode cX2_runs 1 = .ok (.getfield 19, 3) := by decide +kernel
theorem dX2_runs_4 : decode cX2_runs 4 = .ok (.ifCond .le 7, 3) := by decide +kernel
theorem dX2_runs_7 : decode cX2_runs 7 = .ok (.iconst 1, 1) := by decide +kernel
theorem dX2_runs_8 : decode cX2_runs 8 = .ok (.goto 4, 3) := by decide +kernel
theorem dX2_runs_11 : decode cX2_runs 11 = .ok (.iconst 0, 1) := by decide +kernel
theorem dX2_runs_12 : decode cX2_runs 12 = .ok (.ireturn, 1) := by decide +kernel
theorem dX2_move_0 : decode cX2_move 0 = .ok (.iload_n 1, 1) := by decide +kernel
theorem dX2_move_1 : decode cX2_move 1 = .ok (.ifCond .lt 22, 3) := by decide +kernel
theorem dX2_move_4 : decode cX2_move 4 = .ok (.iload_n 1, 1) := by decide +kernel
theorem dX2_move_5 : decode cX2_move 5 = .ok (.aload_n 0, 1) := by decide +kernel
theorem dX2_move_6 : decode cX2_move 6 = .ok (.getfield 9, 3) := by decide +kernel
theorem dX2_move_9 : decode cX2_move 9 = .ok (.arraylength, 1) := by decide +kernel
theorem dX2_move_10 : decode cX2_move 10 = .ok (.if_icmp .ge 13, 3) := by decide +kernel
theorem dX2_move_13 : decode cX2_move 13 = .ok (.aload_n 0, 1) := by decide +kernel
theorem dX2_move_14 : decode cX2_move 14 = .ok (.getfield 9, 3) := by decide +kernel
theorem dX2_move_17 : decode cX2_move 17 = .ok (.iload_n 1, 1) := by decide +kernel
theorem dX2_move_18 : decode cX2_move 18 = .ok (.dup2, 1) := by decide +kernel
theorem dX2_move_19 : decode cX2_move 19 = .ok (.iaload, 1) := by decide +kernel
theorem dX2_move_20 : decode cX2_move 20 = .ok (.iload_n 2, 1) := by decide +kernel
theorem dX2_move_21 : decode cX2_move 21 = .ok (.iadd, 1) := by decide +kernel
theorem dX2_move_22 : decode cX2_move 22 = .ok (.iastore, 1) := by decide +kernel
theorem dX2_move_23 : decode cX2_move 23 = .ok (.return_, 1) := by decide +kernel
theorem dX2_moved_0 : decode cX2_moved 0 = .ok (.iload_n 1, 1) := by decide +kernel
theorem dX2_moved_1 : decode cX2_moved 1 = .ok (.ifCond .lt 21, 3) := by decide +kernel
theorem dX2_moved_4 : decode cX2_moved 4 = .ok (.iload_n 1, 1) := by decide +kernel
theorem dX2_moved_5 : decode cX2_moved 5 = .ok (.aload_n 0, 1) := by decide +kernel
theorem dX2_moved_6 : decode cX2_moved 6 = .ok (.getfield 9, 3) := by decide +kernel
theorem dX2_moved_9 : decode cX2_moved 9 = .ok (.arraylength, 1) := by decide +kernel
theorem dX2_moved_10 : decode cX2_moved 10 = .ok (.if_icmp .ge 12, 3) := by decide +kernel
theorem dX2_moved_13 : decode cX2_moved 13 = .ok (.aload_n 0, 1) := by decide +kernel
theorem dX2_moved_14 : decode cX2_moved 14 = .ok (.getfield 9, 3) := by decide +kernel
theorem dX2_moved_17 : decode cX2_moved 17 = .ok (.iload_n 1, 1) := by decide +kernel
theorem dX2_moved_18 : decode cX2_moved 18 = .ok (.iaload, 1) := by decide +kernel
theorem dX2_moved_19 : decode cX2_moved 19 = .ok (.goto 4, 3) := by decide +kernel
theorem dX2_moved_22 : decode cX2_moved 22 = .ok (.iconst 0, 1) := by decide +kernel
theorem dX2_moved_23 : decode cX2_moved 23 = .ok (.ireturn, 1) := by decide +kernel
theorem dX2_liabilityBehind_0 : decode cX2_liabilityBehind 0 = .ok (.aload_n 0, 1) := by decide +kernel
theorem dX2_liabilityBehind_1 : decode cX2_liabilityBehind 1 = .ok (.getfield 15, 3) := by decide +kernel
theorem dX2_liabilityBehind_4 : decode cX2_liabilityBehind 4 = .ok (.aload_n 0, 1) := by decide +kernel
theorem dX2_liabilityBehind_5 : decode cX2_liabilityBehind 5 = .ok (.getfield 19, 3) := by decide +kernel
theorem dX2_liabilityBehind_8 : decode cX2_liabilityBehind 8 = .ok (.iload_n 1, 1) := by decide +kernel
theorem dX2_liabilityBehind_9 : decode cX2_liabilityBehind 9 = .ok (.isub, 1) := by decide +kernel
theorem dX2_liabilityBehind_10 : decode cX2_liabilityBehind 10 = .ok (.aload_n 0, 1) := by decide +kernel
theorem dX2_liabilityBehind_11 : decode cX2_liabilityBehind 11 = .ok (.getfield 22, 3) := by decide +kernel
theorem dX2_liabilityBehind_14 : decode cX2_liabilityBehind 14 = .ok (.invokestatic 25, 3) := by decide +kernel
theorem dX2_liabilityBehind_17 : decode cX2_liabilityBehind 17 = .ok (.ireturn, 1) := by decide +kernel
theorem dX2_assetBehind_0 : decode cX2_assetBehind 0 = .ok (.aload_n 0, 1) := by decide +kernel
theorem dX2_assetBehind_1 : decode cX2_assetBehind 1 = .ok (.getfield 32, 3) := by decide +kernel
theorem dX2_assetBehind_4 : decode cX2_assetBehind 4 = .ok (.istore_n 2, 1) := by decide +kernel
theorem dX2_assetBehind_5 : decode cX2_assetBehind 5 = .ok (.aload_n 0, 1) := by decide +kernel
theorem dX2_assetBehind_6 : decode cX2_assetBehind 6 = .ok (.getfield 19, 3) := by decide +kernel
theorem dX2_assetBehind_9 : decode cX2_assetBehind 9 = .ok (.istore_n 3, 1) := by decide +kernel
theorem dX2_assetBehind_10 : decode cX2_assetBehind 10 = .ok (.iload_n 3, 1) := by decide +kernel
theorem dX2_assetBehind_11 : decode cX2_assetBehind 11 = .ok (.ifCond .le 25, 3) := by decide +kernel
theorem dX2_assetBehind_14 : decode cX2_assetBehind 14 = .ok (.iload_n 3, 1) := by decide +kernel
theorem dX2_assetBehind_15 : decode cX2_assetBehind 15 = .ok (.aload_n 0, 1) := by decide +kernel
theorem dX2_assetBehind_16 : decode cX2_assetBehind 16 = .ok (.getfield 19, 3) := by decide +kernel
theorem dX2_assetBehind_19 : decode cX2_assetBehind 19 = .ok (.iload_n 1, 1) := by decide +kernel
theorem dX2_assetBehind_20 : decode cX2_assetBehind 20 = .ok (.isub, 1) := by decide +kernel
theorem dX2_assetBehind_21 : decode cX2_assetBehind 21 = .ok (.if_icmp .le 15, 3) := by decide +kernel
theorem dX2_assetBehind_24 : decode cX2_assetBehind 24 = .ok (.iload_n 2, 1) := by decide +kernel
theorem dX2_assetBehind_25 : decode cX2_assetBehind 25 = .ok (.iload_n 2, 1) := by decide +kernel
theorem dX2_assetBehind_26 : decode cX2_assetBehind 26 = .ok (.iload_n 3, 1) := by decide +kernel
theorem dX2_assetBehind_27 : decode cX2_assetBehind 27 = .ok (.idiv, 1) := by decide +kernel
theorem dX2_assetBehind_28 : decode cX2_assetBehind 28 = .ok (.isub, 1) := by decide +kernel
theorem dX2_assetBehind_29 : decode cX2_assetBehind 29 = .ok (.istore_n 2, 1) := by decide +kernel
theorem dX2_assetBehind_30 : decode cX2_assetBehind 30 = .ok (.iinc 3 (-1), 3) := by decide +kernel
theorem dX2_assetBehind_33 : decode cX2_assetBehind 33 = .ok (.goto (-23), 3) := by decide +kernel
theorem dX2_assetBehind_36 : decode cX2_assetBehind 36 = .ok (.iload_n 2, 1) := by decide +kernel
theorem dX2_assetBehind_37 : decode cX2_assetBehind 37 = .ok (.ireturn, 1) := by decide +kernel
theorem dX2_interestOfPeriod_0 : decode cX2_interestOfPeriod 0 = .ok (.iload_n 1, 1) := by decide +kernel
theorem dX2_interestOfPeriod_1 : decode cX2_interestOfPeriod 1 = .ok (.iconst 1, 1) := by decide +kernel
theorem dX2_interestOfPeriod_2 : decode cX2_interestOfPeriod 2 = .ok (.if_icmp .lt 11, 3) := by decide +kernel
theorem dX2_interestOfPeriod_5 : decode cX2_interestOfPeriod 5 = .ok (.iload_n 1, 1) := by decide +kernel
theorem dX2_interestOfPeriod_6 : decode cX2_interestOfPeriod 6 = .ok (.aload_n 0, 1) := by decide +kernel
theorem dX2_interestOfPeriod_7 : decode cX2_interestOfPeriod 7 = .ok (.getfield 19, 3) := by decide +kernel
theorem dX2_interestOfPeriod_10 : decode cX2_interestOfPeriod 10 = .ok (.if_icmp .le 5, 3) := by decide +kernel
theorem dX2_interestOfPeriod_13 : decode cX2_interestOfPeriod 13 = .ok (.iconst 0, 1) := by decide +kernel
theorem dX2_interestOfPeriod_14 : decode cX2_interestOfPeriod 14 = .ok (.ireturn, 1) := by decide +kernel
theorem dX2_interestOfPeriod_15 : decode cX2_interestOfPeriod 15 = .ok (.aload_n 0, 1) := by decide +kernel
theorem dX2_interestOfPeriod_16 : decode cX2_interestOfPeriod 16 = .ok (.iload_n 1, 1) := by decide +kernel
theorem dX2_interestOfPeriod_17 : decode cX2_interestOfPeriod 17 = .ok (.invokevirtual 39, 3) := by decide +kernel
theorem dX2_interestOfPeriod_20 : decode cX2_interestOfPeriod 20 = .ok (.aload_n 0, 1) := by decide +kernel
theorem dX2_interestOfPeriod_21 : decode cX2_interestOfPeriod 21 = .ok (.iload_n 1, 1) := by decide +kernel
theorem dX2_interestOfPeriod_22 : decode cX2_interestOfPeriod 22 = .ok (.iconst 1, 1) := by decide +kernel
theorem dX2_interestOfPeriod_23 : decode cX2_interestOfPeriod 23 = .ok (.isub, 1) := by decide +kernel
theorem dX2_interestOfPeriod_24 : decode cX2_interestOfPeriod 24 = .ok (.invokevirtual 39, 3) := by decide +kernel
theorem dX2_interestOfPeriod_27 : decode cX2_interestOfPeriod 27 = .ok (.isub, 1) := by decide +kernel
theorem dX2_interestOfPeriod_28 : decode cX2_interestOfPeriod 28 = .ok (.aload_n 0, 1) := by decide +kernel
theorem dX2_interestOfPeriod_29 : decode cX2_interestOfPeriod 29 = .ok (.getfield 15, 3) := by decide +kernel
theorem dX2_interestOfPeriod_32 : decode cX2_interestOfPeriod 32 = .ok (.iadd, 1) := by decide +kernel
theorem dX2_interestOfPeriod_33 : decode cX2_interestOfPeriod 33 = .ok (.ireturn, 1) := by decide +kernel
theorem dX2_passPeriods_0 : decode cX2_passPeriods 0 = .ok (.aload_n 0, 1) := by decide +kernel
theorem dX2_passPeriods_1 : decode cX2_passPeriods 1 = .ok (.getfield 15, 3) := by decide +kernel
theorem dX2_passPeriods_4 : decode cX2_passPeriods 4 = .ok (.iload_n 1, 1) := by decide +kernel
theorem dX2_passPeriods_5 : decode cX2_passPeriods 5 = .ok (.aload_n 0, 1) := by decide +kernel
theorem dX2_passPeriods_6 : decode cX2_passPeriods 6 = .ok (.getfield 19, 3) := by decide +kernel
theorem dX2_passPeriods_9 : decode cX2_passPeriods 9 = .ok (.invokestatic 43, 3) := by decide +kernel
theorem dX2_passPeriods_12 : decode cX2_passPeriods 12 = .ok (.imul, 1) := by decide +kernel
theorem dX2_passPeriods_13 : decode cX2_passPeriods 13 = .ok (.istore_n 2, 1) := by decide +kernel
theorem dX2_passPeriods_14 : decode cX2_passPeriods 14 = .ok (.aload_n 0, 1) := by decide +kernel
theorem dX2_passPeriods_15 : decode cX2_passPeriods 15 = .ok (.iload_n 1, 1) := by decide +kernel
theorem dX2_passPeriods_16 : decode cX2_passPeriods 16 = .ok (.invokevirtual 39, 3) := by decide +kernel
theorem dX2_passPeriods_19 : decode cX2_passPeriods 19 = .ok (.istore_n 3, 1) := by decide +kernel
theorem dX2_passPeriods_20 : decode cX2_passPeriods 20 = .ok (.aload_n 0, 1) := by decide +kernel
theorem dX2_passPeriods_21 : decode cX2_passPeriods 21 = .ok (.iload_n 1, 1) := by decide +kernel
theorem dX2_passPeriods_22 : decode cX2_passPeriods 22 = .ok (.invokevirtual 49, 3) := by decide +kernel
theorem dX2_passPeriods_25 : decode cX2_passPeriods 25 = .ok (.istore 4, 2) := by decide +kernel
theorem dX2_passPeriods_27 : decode cX2_passPeriods 27 = .ok (.aload_n 0, 1) := by decide +kernel
theorem dX2_passPeriods_28 : decode cX2_passPeriods 28 = .ok (.iconst 1, 1) := by decide +kernel
theorem dX2_passPeriods_29 : decode cX2_passPeriods 29 = .ok (.iload_n 3, 1) := by decide +kernel
theorem dX2_passPeriods_30 : decode cX2_passPeriods 30 = .ok (.aload_n 0, 1) := by decide +kernel
theorem dX2_passPeriods_31 : decode cX2_passPeriods 31 = .ok (.getfield 29, 3) := by decide +kernel
theorem dX2_passPeriods_34 : decode cX2_passPeriods 34 = .ok (.isub, 1) := by decide +kernel
theorem dX2_passPeriods_35 : decode cX2_passPeriods 35 = .ok (.iload_n 2, 1) := by decide +kernel
theorem dX2_passPeriods_36 : decode cX2_passPeriods 36 = .ok (.iadd, 1) := by decide +kernel
theorem dX2_passPeriods_37 : decode cX2_passPeriods 37 = .ok (.invokevirtual 35, 3) := by decide +kernel
theorem dX2_passPeriods_40 : decode cX2_passPeriods 40 = .ok (.aload_n 0, 1) := by decide +kernel
theorem dX2_passPeriods_41 : decode cX2_passPeriods 41 = .ok (.iconst 2, 1) := by decide +kernel
theorem dX2_passPeriods_42 : decode cX2_passPeriods 42 = .ok (.iload_n 2, 1) := by decide +kernel
theorem dX2_passPeriods_43 : decode cX2_passPeriods 43 = .ok (.invokevirtual 35, 3) := by decide +kernel
theorem dX2_passPeriods_46 : decode cX2_passPeriods 46 = .ok (.aload_n 0, 1) := by decide +kernel
theorem dX2_passPeriods_47 : decode cX2_passPeriods 47 = .ok (.bipush 6, 2) := by decide +kernel
theorem dX2_passPeriods_49 : decode cX2_passPeriods 49 = .ok (.aload_n 0, 1) := by decide +kernel
theorem dX2_passPeriods_50 : decode cX2_passPeriods 50 = .ok (.getfield 32, 3) := by decide +kernel
theorem dX2_passPeriods_53 : decode cX2_passPeriods 53 = .ok (.iload 4, 2) := by decide +kernel
theorem dX2_passPeriods_55 : decode cX2_passPeriods 55 = .ok (.isub, 1) := by decide +kernel
theorem dX2_passPeriods_56 : decode cX2_passPeriods 56 = .ok (.invokevirtual 35, 3) := by decide +kernel
theorem dX2_passPeriods_59 : decode cX2_passPeriods 59 = .ok (.aload_n 0, 1) := by decide +kernel
theorem dX2_passPeriods_60 : decode cX2_passPeriods 60 = .ok (.iload_n 3, 1) := by decide +kernel
theorem dX2_passPeriods_61 : decode cX2_passPeriods 61 = .ok (.putfield 29, 3) := by decide +kernel
theorem dX2_passPeriods_64 : decode cX2_passPeriods 64 = .ok (.aload_n 0, 1) := by decide +kernel
theorem dX2_passPeriods_65 : decode cX2_passPeriods 65 = .ok (.iload 4, 2) := by decide +kernel
theorem dX2_passPeriods_67 : decode cX2_passPeriods 67 = .ok (.putfield 32, 3) := by decide +kernel
theorem dX2_passPeriods_70 : decode cX2_passPeriods 70 = .ok (.aload_n 0, 1) := by decide +kernel
theorem dX2_passPeriods_71 : decode cX2_passPeriods 71 = .ok (.iconst 0, 1) := by decide +kernel
theorem dX2_passPeriods_72 : decode cX2_passPeriods 72 = .ok (.aload_n 0, 1) := by decide +kernel
theorem dX2_passPeriods_73 : decode cX2_passPeriods 73 = .ok (.getfield 19, 3) := by decide +kernel
theorem dX2_passPeriods_76 : decode cX2_passPeriods 76 = .ok (.iload_n 1, 1) := by decide +kernel
theorem dX2_passPeriods_77 : decode cX2_passPeriods 77 = .ok (.isub, 1) := by decide +kernel
theorem dX2_passPeriods_78 : decode cX2_passPeriods 78 = .ok (.invokestatic 52, 3) := by decide +kernel
theorem dX2_passPeriods_81 : decode cX2_passPeriods 81 = .ok (.putfield 19, 3) := by decide +kernel
theorem dX2_passPeriods_84 : decode cX2_passPeriods 84 = .ok (.return_, 1) := by decide +kernel
theorem dX2_assetWithLiability_0 : decode cX2_assetWithLiability 0 = .ok (.iconst 0, 1) := by decide +kernel
theorem dX2_assetWithLiability_1 : decode cX2_assetWithLiability 1 = .ok (.aload_n 0, 1) := by decide +kernel
theorem dX2_assetWithLiability_2 : decode cX2_assetWithLiability 2 = .ok (.getfield 32, 3) := by decide +kernel
theorem dX2_assetWithLiability_5 : decode cX2_assetWithLiability 5 = .ok (.iload_n 1, 1) := by decide +kernel
theorem dX2_assetWithLiability_6 : decode cX2_assetWithLiability 6 = .ok (.iadd, 1) := by decide +kernel
theorem dX2_assetWithLiability_7 : decode cX2_assetWithLiability 7 = .ok (.aload_n 0, 1) := by decide +kernel
theorem dX2_assetWithLiability_8 : decode cX2_assetWithLiability 8 = .ok (.getfield 29, 3) := by decide +kernel
theorem dX2_assetWithLiability_11 : decode cX2_assetWithLiability 11 = .ok (.isub, 1) := by decide +kernel
theorem dX2_assetWithLiability_12 : decode cX2_assetWithLiability 12 = .ok (.invokestatic 52, 3) := by decide +kernel
theorem dX2_assetWithLiability_15 : decode cX2_assetWithLiability 15 = .ok (.ireturn, 1) := by decide +kernel
theorem dX2_measure_0 : decode cX2_measure 0 = .ok (.iload_n 1, 1) := by decide +kernel
theorem dX2_measure_1 : decode cX2_measure 1 = .ok (.iload_n 2, 1) := by decide +kernel
theorem dX2_measure_2 : decode cX2_measure 2 = .ok (.iload_n 3, 1) := by decide +kernel
theorem dX2_measure_3 : decode cX2_measure 3 = .ok (.invokestatic 25, 3) := by decide +kernel
theorem dX2_measure_6 : decode cX2_measure 6 = .ok (.istore 4, 2) := by decide +kernel
theorem dX2_measure_8 : decode cX2_measure 8 = .ok (.aload_n 0, 1) := by decide +kernel
theorem dX2_measure_9 : decode cX2_measure 9 = .ok (.iload 4, 2) := by decide +kernel
theorem dX2_measure_11 : decode cX2_measure 11 = .ok (.invokevirtual 55, 3) := by decide +kernel
theorem dX2_measure_14 : decode cX2_measure 14 = .ok (.istore 5, 2) := by decide +kernel
theorem dX2_measure_16 : decode cX2_measure 16 = .ok (.aload_n 0, 1) := by decide +kernel
theorem dX2_measure_17 : decode cX2_measure 17 = .ok (.iconst 3, 1) := by decide +kernel
theorem dX2_measure_18 : decode cX2_measure 18 = .ok (.iload 4, 2) := by decide +kernel
theorem dX2_measure_20 : decode cX2_measure 20 = .ok (.aload_n 0, 1) := by decide +kernel
theorem dX2_measure_21 : decode cX2_measure 21 = .ok (.getfield 29, 3) := by decide +kernel
theorem dX2_measure_24 : decode cX2_measure 24 = .ok (.isub, 1) := by decide +kernel
theorem dX2_measure_25 : decode cX2_measure 25 = .ok (.invokevirtual 35, 3) := by decide +kernel
theorem dX2_measure_28 : decode cX2_measure 28 = .ok (.aload_n 0, 1) := by decide +kernel
theorem dX2_measure_29 : decode cX2_measure 29 = .ok (.bipush 7, 2) := by decide +kernel
theorem dX2_measure_31 : decode cX2_measure 31 = .ok (.iload 5, 2) := by decide +kernel
theorem dX2_measure_33 : decode cX2_measure 33 = .ok (.aload_n 0, 1) := by decide +kernel
theorem dX2_measure_34 : decode cX2_measure 34 = .ok (.getfield 32, 3) := by decide +kernel
theorem dX2_measure_37 : decode cX2_measure 37 = .ok (.isub, 1) := by decide +kernel
theorem dX2_measure_38 : decode cX2_measure 38 = .ok (.invokevirtual 35, 3) := by decide +kernel
theorem dX2_measure_41 : decode cX2_measure 41 = .ok (.aload_n 0, 1) := by decide +kernel
theorem dX2_measure_42 : decode cX2_measure 42 = .ok (.iload_n 1, 1) := by decide +kernel
theorem dX2_measure_43 : decode cX2_measure 43 = .ok (.putfield 15, 3) := by decide +kernel
theorem dX2_measure_46 : decode cX2_measure 46 = .ok (.aload_n 0, 1) := by decide +kernel
theorem dX2_measure_47 : decode cX2_measure 47 = .ok (.iload_n 2, 1) := by decide +kernel
theorem dX2_measure_48 : decode cX2_measure 48 = .ok (.putfield 19, 3) := by decide +kernel
theorem dX2_measure_51 : decode cX2_measure 51 = .ok (.aload_n 0, 1) := by decide +kernel
theorem dX2_measure_52 : decode cX2_measure 52 = .ok (.iload_n 3, 1) := by decide +kernel
theorem dX2_measure_53 : decode cX2_measure 53 = .ok (.putfield 22, 3) := by decide +kernel
theorem dX2_measure_56 : decode cX2_measure 56 = .ok (.aload_n 0, 1) := by decide +kernel
theorem dX2_measure_57 : decode cX2_measure 57 = .ok (.iload 4, 2) := by decide +kernel
theorem dX2_measure_59 : decode cX2_measure 59 = .ok (.putfield 29, 3) := by decide +kernel
theorem dX2_measure_62 : decode cX2_measure 62 = .ok (.aload_n 0, 1) := by decide +kernel
theorem dX2_measure_63 : decode cX2_measure 63 = .ok (.iload 5, 2) := by decide +kernel
theorem dX2_measure_65 : decode cX2_measure 65 = .ok (.putfield 32, 3) := by decide +kernel
theorem dX2_measure_68 : decode cX2_measure 68 = .ok (.return_, 1) := by decide +kernel
theorem dX2_endThousandths_0 : decode cX2_endThousandths 0 = .ok (.aload_n 0, 1) := by decide +kernel
theorem dX2_endThousandths_1 : decode cX2_endThousandths 1 = .ok (.dup, 1) := by decide +kernel
theorem dX2_endThousandths_2 : decode cX2_endThousandths 2 = .ok (.getfield 15, 3) := by decide +kernel
theorem dX2_endThousandths_5 : decode cX2_endThousandths 5 = .ok (.aload_n 0, 1) := by decide +kernel
theorem dX2_endThousandths_6 : decode cX2_endThousandths 6 = .ok (.getfield 15, 3) := by decide +kernel
theorem dX2_endThousandths_9 : decode cX2_endThousandths 9 = .ok (.iload_n 1, 1) := by decide +kernel
theorem dX2_endThousandths_10 : decode cX2_endThousandths 10 = .ok (.invokestatic 58, 3) := by decide +kernel
theorem dX2_endThousandths_13 : decode cX2_endThousandths 13 = .ok (.isub, 1) := by decide +kernel
theorem dX2_endThousandths_14 : decode cX2_endThousandths 14 = .ok (.putfield 15, 3) := by decide +kernel
theorem dX2_endThousandths_17 : decode cX2_endThousandths 17 = .ok (.aload_n 0, 1) := by decide +kernel
theorem dX2_endThousandths_18 : decode cX2_endThousandths 18 = .ok (.getfield 29, 3) := by decide +kernel
theorem dX2_endThousandths_21 : decode cX2_endThousandths 21 = .ok (.aload_n 0, 1) := by decide +kernel
theorem dX2_endThousandths_22 : decode cX2_endThousandths 22 = .ok (.getfield 15, 3) := by decide +kernel
theorem dX2_endThousandths_25 : decode cX2_endThousandths 25 = .ok (.aload_n 0, 1) := by decide +kernel
theorem dX2_endThousandths_26 : decode cX2_endThousandths 26 = .ok (.getfield 19, 3) := by decide +kernel
theorem dX2_endThousandths_29 : decode cX2_endThousandths 29 = .ok (.aload_n 0, 1) := by decide +kernel
theorem dX2_endThousandths_30 : decode cX2_endThousandths 30 = .ok (.getfield 22, 3) := by decide +kernel
theorem dX2_endThousandths_33 : decode cX2_endThousandths 33 = .ok (.invokestatic 25, 3) := by decide +kernel
theorem dX2_endThousandths_36 : decode cX2_endThousandths 36 = .ok (.isub, 1) := by decide +kernel
theorem dX2_endThousandths_37 : decode cX2_endThousandths 37 = .ok (.istore_n 3, 1) := by decide +kernel
theorem dX2_endThousandths_38 : decode cX2_endThousandths 38 = .ok (.aload_n 0, 1) := by decide +kernel
theorem dX2_endThousandths_39 : decode cX2_endThousandths 39 = .ok (.getfield 32, 3) := by decide +kernel
theorem dX2_endThousandths_42 : decode cX2_endThousandths 42 = .ok (.iload_n 1, 1) := by decide +kernel
theorem dX2_endThousandths_43 : decode cX2_endThousandths 43 = .ok (.invokestatic 58, 3) := by decide +kernel
theorem dX2_endThousandths_46 : decode cX2_endThousandths 46 = .ok (.istore 4, 2) := by decide +kernel
theorem dX2_endThousandths_48 : decode cX2_endThousandths 48 = .ok (.aload_n 0, 1) := by decide +kernel
theorem dX2_endThousandths_49 : decode cX2_endThousandths 49 = .ok (.dup, 1) := by decide +kernel
theorem dX2_endThousandths_50 : decode cX2_endThousandths 50 = .ok (.getfield 29, 3) := by decide +kernel
theorem dX2_endThousandths_53 : decode cX2_endThousandths 53 = .ok (.iload_n 3, 1) := by decide +kernel
theorem dX2_endThousandths_54 : decode cX2_endThousandths 54 = .ok (.isub, 1) := by decide +kernel
theorem dX2_endThousandths_55 : decode cX2_endThousandths 55 = .ok (.putfield 29, 3) := by decide +kernel
theorem dX2_endThousandths_58 : decode cX2_endThousandths 58 = .ok (.aload_n 0, 1) := by decide +kernel
theorem dX2_endThousandths_59 : decode cX2_endThousandths 59 = .ok (.dup, 1) := by decide +kernel
theorem dX2_endThousandths_60 : decode cX2_endThousandths 60 = .ok (.getfield 32, 3) := by decide +kernel
theorem dX2_endThousandths_63 : decode cX2_endThousandths 63 = .ok (.iload 4, 2) := by decide +kernel
theorem dX2_endThousandths_65 : decode cX2_endThousandths 65 = .ok (.isub, 1) := by decide +kernel
theorem dX2_endThousandths_66 : decode cX2_endThousandths 66 = .ok (.putfield 32, 3) := by decide +kernel
theorem dX2_endThousandths_69 : decode cX2_endThousandths 69 = .ok (.aload_n 0, 1) := by decide +kernel
theorem dX2_endThousandths_70 : decode cX2_endThousandths 70 = .ok (.iconst 4, 1) := by decide +kernel
theorem dX2_endThousandths_71 : decode cX2_endThousandths 71 = .ok (.iload_n 3, 1) := by decide +kernel
theorem dX2_endThousandths_72 : decode cX2_endThousandths 72 = .ok (.invokevirtual 35, 3) := by decide +kernel
theorem dX2_endThousandths_75 : decode cX2_endThousandths 75 = .ok (.aload_n 0, 1) := by decide +kernel
theorem dX2_endThousandths_76 : decode cX2_endThousandths 76 = .ok (.bipush 8, 2) := by decide +kernel
theorem dX2_endThousandths_78 : decode cX2_endThousandths 78 = .ok (.iload 4, 2) := by decide +kernel
theorem dX2_endThousandths_80 : decode cX2_endThousandths 80 = .ok (.invokevirtual 35, 3) := by decide +kernel
theorem dX2_endThousandths_83 : decode cX2_endThousandths 83 = .ok (.aload_n 0, 1) := by decide +kernel
theorem dX2_endThousandths_84 : decode cX2_endThousandths 84 = .ok (.bipush 16, 2) := by decide +kernel
theorem dX2_endThousandths_86 : decode cX2_endThousandths 86 = .ok (.iload_n 2, 1) := by decide +kernel
theorem dX2_endThousandths_87 : decode cX2_endThousandths 87 = .ok (.invokevirtual 35, 3) := by decide +kernel
theorem dX2_endThousandths_90 : decode cX2_endThousandths 90 = .ok (.iload_n 3, 1) := by decide +kernel
theorem dX2_endThousandths_91 : decode cX2_endThousandths 91 = .ok (.iload 4, 2) := by decide +kernel
theorem dX2_endThousandths_93 : decode cX2_endThousandths 93 = .ok (.isub, 1) := by decide +kernel
theorem dX2_endThousandths_94 : decode cX2_endThousandths 94 = .ok (.iload_n 2, 1) := by decide +kernel
theorem dX2_endThousandths_95 : decode cX2_endThousandths 95 = .ok (.isub, 1) := by decide +kernel
theorem dX2_endThousandths_96 : decode cX2_endThousandths 96 = .ok (.ireturn, 1) := by decide +kernel
theorem dX2_subletThousandths_0 : decode cX2_subletThousandths 0 = .ok (.aload_n 0, 1) := by decide +kernel
theorem dX2_subletThousandths_1 : decode cX2_subletThousandths 1 = .ok (.getfield 32, 3) := by decide +kernel
theorem dX2_subletThousandths_4 : decode cX2_subletThousandths 4 = .ok (.iload_n 1, 1) := by decide +kernel
theorem dX2_subletThousandths_5 : decode cX2_subletThousandths 5 = .ok (.invokestatic 58, 3) := by decide +kernel
theorem dX2_subletThousandths_8 : decode cX2_subletThousandths 8 = .ok (.istore_n 3, 1) := by decide +kernel
theorem dX2_subletThousandths_9 : decode cX2_subletThousandths 9 = .ok (.aload_n 0, 1) := by decide +kernel
theorem dX2_subletThousandths_10 : decode cX2_subletThousandths 10 = .ok (.dup, 1) := by decide +kernel
theorem dX2_subletThousandths_11 : decode cX2_subletThousandths 11 = .ok (.getfield 32, 3) := by decide +kernel
theorem dX2_subletThousandths_14 : decode cX2_subletThousandths 14 = .ok (.iload_n 3, 1) := by decide +kernel
theorem dX2_subletThousandths_15 : decode cX2_subletThousandths 15 = .ok (.isub, 1) := by decide +kernel
theorem dX2_subletThousandths_16 : decode cX2_subletThousandths 16 = .ok (.putfield 32, 3) := by decide +kernel
theorem dX2_subletThousandths_19 : decode cX2_subletThousandths 19 = .ok (.aload_n 0, 1) := by decide +kernel
theorem dX2_subletThousandths_20 : decode cX2_subletThousandths 20 = .ok (.bipush 9, 2) := by decide +kernel
theorem dX2_subletThousandths_22 : decode cX2_subletThousandths 22 = .ok (.iload_n 3, 1) := by decide +kernel
theorem dX2_subletThousandths_23 : decode cX2_subletThousandths 23 = .ok (.invokevirtual 35, 3) := by decide +kernel
theorem dX2_subletThousandths_26 : decode cX2_subletThousandths 26 = .ok (.aload_n 0, 1) := by decide +kernel
theorem dX2_subletThousandths_27 : decode cX2_subletThousandths 27 = .ok (.bipush 11, 2) := by decide +kernel
theorem dX2_subletThousandths_29 : decode cX2_subletThousandths 29 = .ok (.iload_n 2, 1) := by decide +kernel
theorem dX2_subletThousandths_30 : decode cX2_subletThousandths 30 = .ok (.invokevirtual 35, 3) := by decide +kernel
theorem dX2_subletThousandths_33 : decode cX2_subletThousandths 33 = .ok (.return_, 1) := by decide +kernel
theorem dX2_impairBy_0 : decode cX2_impairBy 0 = .ok (.aload_n 0, 1) := by decide +kernel
theorem dX2_impairBy_1 : decode cX2_impairBy 1 = .ok (.dup, 1) := by decide +kernel
theorem dX2_impairBy_2 : decode cX2_impairBy 2 = .ok (.getfield 32, 3) := by decide +kernel
theorem dX2_impairBy_5 : decode cX2_impairBy 5 = .ok (.iload_n 1, 1) := by decide +kernel
theorem dX2_impairBy_6 : decode cX2_impairBy 6 = .ok (.isub, 1) := by decide +kernel
theorem dX2_impairBy_7 : decode cX2_impairBy 7 = .ok (.putfield 32, 3) := by decide +kernel
theorem dX2_impairBy_10 : decode cX2_impairBy 10 = .ok (.aload_n 0, 1) := by decide +kernel
theorem dX2_impairBy_11 : decode cX2_impairBy 11 = .ok (.bipush 10, 2) := by decide +kernel
theorem dX2_impairBy_13 : decode cX2_impairBy 13 = .ok (.iload_n 1, 1) := by decide +kernel
theorem dX2_impairBy_14 : decode cX2_impairBy 14 = .ok (.invokevirtual 35, 3) := by decide +kernel
theorem dX2_impairBy_17 : decode cX2_impairBy 17 = .ok (.return_, 1) := by decide +kernel
theorem dX2_greatestRate_0 : decode cX2_greatestRate 0 = .ok (.aload_n 0, 1) := by decide +kernel
theorem dX2_greatestRate_1 : decode cX2_greatestRate 1 = .ok (.getfield 15, 3) := by decide +kernel
theorem dX2_greatestRate_4 : decode cX2_greatestRate 4 = .ok (.aload_n 0, 1) := by decide +kernel
theorem dX2_greatestRate_5 : decode cX2_greatestRate 5 = .ok (.getfield 19, 3) := by decide +kernel
theorem dX2_greatestRate_8 : decode cX2_greatestRate 8 = .ok (.iconst 0, 1) := by decide +kernel
theorem dX2_greatestRate_9 : decode cX2_greatestRate 9 = .ok (.invokestatic 25, 3) := by decide +kernel
theorem dX2_greatestRate_12 : decode cX2_greatestRate 12 = .ok (.aload_n 0, 1) := by decide +kernel
theorem dX2_greatestRate_13 : decode cX2_greatestRate 13 = .ok (.getfield 32, 3) := by decide +kernel
theorem dX2_greatestRate_16 : decode cX2_greatestRate 16 = .ok (.if_icmp .ge 5, 3) := by decide +kernel
theorem dX2_greatestRate_19 : decode cX2_greatestRate 19 = .ok (.iconst (-1), 1) := by decide +kernel
theorem dX2_greatestRate_20 : decode cX2_greatestRate 20 = .ok (.ireturn, 1) := by decide +kernel
theorem dX2_greatestRate_21 : decode cX2_greatestRate 21 = .ok (.iconst 0, 1) := by decide +kernel
theorem dX2_greatestRate_22 : decode cX2_greatestRate 22 = .ok (.istore_n 1, 1) := by decide +kernel
theorem dX2_greatestRate_23 : decode cX2_greatestRate 23 = .ok (.bipush 10, 2) := by decide +kernel
theorem dX2_greatestRate_25 : decode cX2_greatestRate 25 = .ok (.istore_n 2, 1) := by decide +kernel
theorem dX2_greatestRate_26 : decode cX2_greatestRate 26 = .ok (.iload_n 2, 1) := by decide +kernel
theorem dX2_greatestRate_27 : decode cX2_greatestRate 27 = .ok (.ifCond .lt 43, 3) := by decide +kernel
theorem dX2_greatestRate_30 : decode cX2_greatestRate 30 = .ok (.iload_n 1, 1) := by decide +kernel
theorem dX2_greatestRate_31 : decode cX2_greatestRate 31 = .ok (.iconst 1, 1) := by decide +kernel
theorem dX2_greatestRate_32 : decode cX2_greatestRate 32 = .ok (.iload_n 2, 1) := by decide +kernel
theorem dX2_greatestRate_33 : decode cX2_greatestRate 33 = .ok (.ishl, 1) := by decide +kernel
theorem dX2_greatestRate_34 : decode cX2_greatestRate 34 = .ok (.iadd, 1) := by decide +kernel
theorem dX2_greatestRate_35 : decode cX2_greatestRate 35 = .ok (.istore_n 3, 1) := by decide +kernel
theorem dX2_greatestRate_36 : decode cX2_greatestRate 36 = .ok (.iload_n 3, 1) := by decide +kernel
theorem dX2_greatestRate_37 : decode cX2_greatestRate 37 = .ok (.sipush 2000, 3) := by decide +kernel
theorem dX2_greatestRate_40 : decode cX2_greatestRate 40 = .ok (.if_icmp .gt 24, 3) := by decide +kernel
theorem dX2_greatestRate_43 : decode cX2_greatestRate 43 = .ok (.aload_n 0, 1) := by decide +kernel
theorem dX2_greatestRate_44 : decode cX2_greatestRate 44 = .ok (.getfield 15, 3) := by decide +kernel
theorem dX2_greatestRate_47 : decode cX2_greatestRate 47 = .ok (.aload_n 0, 1) := by decide +kernel
theorem dX2_greatestRate_48 : decode cX2_greatestRate 48 = .ok (.getfield 19, 3) := by decide +kernel
theorem dX2_greatestRate_51 : decode cX2_greatestRate 51 = .ok (.iload_n 3, 1) := by decide +kernel
theorem dX2_greatestRate_52 : decode cX2_greatestRate 52 = .ok (.invokestatic 25, 3) := by decide +kernel
theorem dX2_greatestRate_55 : decode cX2_greatestRate 55 = .ok (.aload_n 0, 1) := by decide +kernel
theorem dX2_greatestRate_56 : decode cX2_greatestRate 56 = .ok (.getfield 32, 3) := by decide +kernel
theorem dX2_greatestRate_59 : decode cX2_greatestRate 59 = .ok (.if_icmp .lt 5, 3) := by decide +kernel
theorem dX2_greatestRate_62 : decode cX2_greatestRate 62 = .ok (.iload_n 3, 1) := by decide +kernel
theorem dX2_greatestRate_63 : decode cX2_greatestRate 63 = .ok (.istore_n 1, 1) := by decide +kernel
theorem dX2_greatestRate_64 : decode cX2_greatestRate 64 = .ok (.iinc 2 (-1), 3) := by decide +kernel
theorem dX2_greatestRate_67 : decode cX2_greatestRate 67 = .ok (.goto (-41), 3) := by decide +kernel
theorem dX2_greatestRate_70 : decode cX2_greatestRate 70 = .ok (.iload_n 1, 1) := by decide +kernel
theorem dX2_greatestRate_71 : decode cX2_greatestRate 71 = .ok (.ireturn, 1) := by decide +kernel
theorem dX2_profitByMovements_0 : decode cX2_profitByMovements 0 = .ok (.aload_n 0, 1) := by decide +kernel
theorem dX2_profitByMovements_1 : decode cX2_profitByMovements 1 = .ok (.bipush 7, 2) := by decide +kernel
theorem dX2_profitByMovements_3 : decode cX2_profitByMovements 3 = .ok (.invokevirtual 61, 3) := by decide +kernel
theorem dX2_profitByMovements_6 : decode cX2_profitByMovements 6 = .ok (.aload_n 0, 1) := by decide +kernel
theorem dX2_profitByMovements_7 : decode cX2_profitByMovements 7 = .ok (.iconst 3, 1) := by decide +kernel
theorem dX2_profitByMovements_8 : decode cX2_profitByMovements 8 = .ok (.invokevirtual 61, 3) := by decide +kernel
theorem dX2_profitByMovements_11 : decode cX2_profitByMovements 11 = .ok (.isub, 1) := by decide +kernel
theorem dX2_profitByMovements_12 : decode cX2_profitByMovements 12 = .ok (.aload_n 0, 1) := by decide +kernel
theorem dX2_profitByMovements_13 : decode cX2_profitByMovements 13 = .ok (.iconst 1, 1) := by decide +kernel
theorem dX2_profitByMovements_14 : decode cX2_profitByMovements 14 = .ok (.invokevirtual 61, 3) := by decide +kernel
theorem dX2_profitByMovements_17 : decode cX2_profitByMovements 17 = .ok (.isub, 1) := by decide +kernel
theorem dX2_profitByMovements_18 : decode cX2_profitByMovements 18 = .ok (.aload_n 0, 1) := by decide +kernel
theorem dX2_profitByMovements_19 : decode cX2_profitByMovements 19 = .ok (.bipush 6, 2) := by decide +kernel
theorem dX2_profitByMovements_21 : decode cX2_profitByMovements 21 = .ok (.invokevirtual 61, 3) := by decide +kernel
theorem dX2_profitByMovements_24 : decode cX2_profitByMovements 24 = .ok (.isub, 1) := by decide +kernel
theorem dX2_profitByMovements_25 : decode cX2_profitByMovements 25 = .ok (.aload_n 0, 1) := by decide +kernel
theorem dX2_profitByMovements_26 : decode cX2_profitByMovements 26 = .ok (.iconst 4, 1) := by decide +kernel
theorem dX2_profitByMovements_27 : decode cX2_profitByMovements 27 = .ok (.invokevirtual 61, 3) := by decide +kernel
theorem dX2_profitByMovements_30 : decode cX2_profitByMovements 30 = .ok (.iadd, 1) := by decide +kernel
theorem dX2_profitByMovements_31 : decode cX2_profitByMovements 31 = .ok (.aload_n 0, 1) := by decide +kernel
theorem dX2_profitByMovements_32 : decode cX2_profitByMovements 32 = .ok (.bipush 8, 2) := by decide +kernel
theorem dX2_profitByMovements_34 : decode cX2_profitByMovements 34 = .ok (.invokevirtual 61, 3) := by decide +kernel
theorem dX2_profitByMovements_37 : decode cX2_profitByMovements 37 = .ok (.isub, 1) := by decide +kernel
theorem dX2_profitByMovements_38 : decode cX2_profitByMovements 38 = .ok (.aload_n 0, 1) := by decide +kernel
theorem dX2_profitByMovements_39 : decode cX2_profitByMovements 39 = .ok (.bipush 16, 2) := by decide +kernel
theorem dX2_profitByMovements_41 : decode cX2_profitByMovements 41 = .ok (.invokevirtual 61, 3) := by decide +kernel
theorem dX2_profitByMovements_44 : decode cX2_profitByMovements 44 = .ok (.isub, 1) := by decide +kernel
theorem dX2_profitByMovements_45 : decode cX2_profitByMovements 45 = .ok (.aload_n 0, 1) := by decide +kernel
theorem dX2_profitByMovements_46 : decode cX2_profitByMovements 46 = .ok (.bipush 11, 2) := by decide +kernel
theorem dX2_profitByMovements_48 : decode cX2_profitByMovements 48 = .ok (.invokevirtual 61, 3) := by decide +kernel
theorem dX2_profitByMovements_51 : decode cX2_profitByMovements 51 = .ok (.iadd, 1) := by decide +kernel
theorem dX2_profitByMovements_52 : decode cX2_profitByMovements 52 = .ok (.aload_n 0, 1) := by decide +kernel
theorem dX2_profitByMovements_53 : decode cX2_profitByMovements 53 = .ok (.bipush 9, 2) := by decide +kernel
theorem dX2_profitByMovements_55 : decode cX2_profitByMovements 55 = .ok (.invokevirtual 61, 3) := by decide +kernel
theorem dX2_profitByMovements_58 : decode cX2_profitByMovements 58 = .ok (.isub, 1) := by decide +kernel
theorem dX2_profitByMovements_59 : decode cX2_profitByMovements 59 = .ok (.aload_n 0, 1) := by decide +kernel
theorem dX2_profitByMovements_60 : decode cX2_profitByMovements 60 = .ok (.bipush 12, 2) := by decide +kernel
theorem dX2_profitByMovements_62 : decode cX2_profitByMovements 62 = .ok (.invokevirtual 61, 3) := by decide +kernel
theorem dX2_profitByMovements_65 : decode cX2_profitByMovements 65 = .ok (.iadd, 1) := by decide +kernel
theorem dX2_profitByMovements_66 : decode cX2_profitByMovements 66 = .ok (.aload_n 0, 1) := by decide +kernel
theorem dX2_profitByMovements_67 : decode cX2_profitByMovements 67 = .ok (.bipush 14, 2) := by decide +kernel
theorem dX2_profitByMovements_69 : decode cX2_profitByMovements 69 = .ok (.invokevirtual 61, 3) := by decide +kernel
theorem dX2_profitByMovements_72 : decode cX2_profitByMovements 72 = .ok (.isub, 1) := by decide +kernel
theorem dX2_profitByMovements_73 : decode cX2_profitByMovements 73 = .ok (.aload_n 0, 1) := by decide +kernel
theorem dX2_profitByMovements_74 : decode cX2_profitByMovements 74 = .ok (.bipush 10, 2) := by decide +kernel
theorem dX2_profitByMovements_76 : decode cX2_profitByMovements 76 = .ok (.invokevirtual 61, 3) := by decide +kernel
theorem dX2_profitByMovements_79 : decode cX2_profitByMovements 79 = .ok (.isub, 1) := by decide +kernel
theorem dX2_profitByMovements_80 : decode cX2_profitByMovements 80 = .ok (.ireturn, 1) := by decide +kernel
theorem dX2_profitByHoldings_0 : decode cX2_profitByHoldings 0 = .ok (.aload_n 0, 1) := by decide +kernel
theorem dX2_profitByHoldings_1 : decode cX2_profitByHoldings 1 = .ok (.getfield 32, 3) := by decide +kernel
theorem dX2_profitByHoldings_4 : decode cX2_profitByHoldings 4 = .ok (.iload_n 1, 1) := by decide +kernel
theorem dX2_profitByHoldings_5 : decode cX2_profitByHoldings 5 = .ok (.iadd, 1) := by decide +kernel
theorem dX2_profitByHoldings_6 : decode cX2_profitByHoldings 6 = .ok (.aload_n 0, 1) := by decide +kernel
theorem dX2_profitByHoldings_7 : decode cX2_profitByHoldings 7 = .ok (.getfield 29, 3) := by decide +kernel
theorem dX2_profitByHoldings_10 : decode cX2_profitByHoldings 10 = .ok (.isub, 1) := by decide +kernel
theorem dX2_profitByHoldings_11 : decode cX2_profitByHoldings 11 = .ok (.aload_n 0, 1) := by decide +kernel
theorem dX2_profitByHoldings_12 : decode cX2_profitByHoldings 12 = .ok (.bipush 13, 2) := by decide +kernel
theorem dX2_profitByHoldings_14 : decode cX2_profitByHoldings 14 = .ok (.invokevirtual 61, 3) := by decide +kernel
theorem dX2_profitByHoldings_17 : decode cX2_profitByHoldings 17 = .ok (.iadd, 1) := by decide +kernel
theorem dX2_profitByHoldings_18 : decode cX2_profitByHoldings 18 = .ok (.aload_n 0, 1) := by decide +kernel
theorem dX2_profitByHoldings_19 : decode cX2_profitByHoldings 19 = .ok (.iconst 2, 1) := by decide +kernel
theorem dX2_profitByHoldings_20 : decode cX2_profitByHoldings 20 = .ok (.invokevirtual 61, 3) := by decide +kernel
theorem dX2_profitByHoldings_23 : decode cX2_profitByHoldings 23 = .ok (.isub, 1) := by decide +kernel
theorem dX2_profitByHoldings_24 : decode cX2_profitByHoldings 24 = .ok (.aload_n 0, 1) := by decide +kernel
theorem dX2_profitByHoldings_25 : decode cX2_profitByHoldings 25 = .ok (.bipush 15, 2) := by decide +kernel
theorem dX2_profitByHoldings_27 : decode cX2_profitByHoldings 27 = .ok (.invokevirtual 61, 3) := by decide +kernel
theorem dX2_profitByHoldings_30 : decode cX2_profitByHoldings 30 = .ok (.isub, 1) := by decide +kernel
theorem dX2_profitByHoldings_31 : decode cX2_profitByHoldings 31 = .ok (.aload_n 0, 1) := by decide +kernel
theorem dX2_profitByHoldings_32 : decode cX2_profitByHoldings 32 = .ok (.bipush 16, 2) := by decide +kernel
theorem dX2_profitByHoldings_34 : decode cX2_profitByHoldings 34 = .ok (.invokevirtual 61, 3) := by decide +kernel
theorem dX2_profitByHoldings_37 : decode cX2_profitByHoldings 37 = .ok (.isub, 1) := by decide +kernel
theorem dX2_profitByHoldings_38 : decode cX2_profitByHoldings 38 = .ok (.ireturn, 1) := by decide +kernel
theorem dX3_init_0 : decode cX3_init 0 = .ok (.aload_n 0, 1) := by decide +kernel
theorem dX3_init_1 : decode cX3_init 1 = .ok (.invokespecial 3, 3) := by decide +kernel
theorem dX3_init_4 : decode cX3_init 4 = .ok (.aload_n 0, 1) := by decide +kernel
theorem dX3_init_5 : decode cX3_init 5 = .ok (.iconst 4, 1) := by decide +kernel
theorem dX3_init_6 : decode cX3_init 6 = .ok (.newarray .int, 2) := by decide +kernel
theorem dX3_init_8 : decode cX3_init 8 = .ok (.putfield 9, 3) := by decide +kernel
theorem dX3_init_11 : decode cX3_init 11 = .ok (.return_, 1) := by decide +kernel
theorem dX3_restart_0 : decode cX3_restart 0 = .ok (.aload_n 0, 1) := by decide +kernel
theorem dX3_restart_1 : decode cX3_restart 1 = .ok (.iconst 0, 1) := by decide +kernel
theorem dX3_restart_2 : decode cX3_restart 2 = .ok (.putfield 15, 3) := by decide +kernel
theorem dX3_restart_5 : decode cX3_restart 5 = .ok (.aload_n 0, 1) := by decide +kernel
theorem dX3_restart_6 : decode cX3_restart 6 = .ok (.iconst 0, 1) := by decide +kernel
theorem dX3_restart_7 : decode cX3_restart 7 = .ok (.putfield 19, 3) := by decide +kernel
theorem dX3_restart_10 : decode cX3_restart 10 = .ok (.return_, 1) := by decide +kernel
theorem dX3_readAll_0 : decode cX3_readAll 0 = .ok (.aload_n 0, 1) := by decide +kernel
theorem dX3_readAll_1 : decode cX3_readAll 1 = .ok (.invokevirtual 22, 3) := by decide +kernel
theorem dX3_readAll_4 : decode cX3_readAll 4 = .ok (.iconst 0, 1) := by decide +kernel
theorem dX3_readAll_5 : decode cX3_readAll 5 = .ok (.istore_n 2, 1) := by decide +kernel
theorem dX3_readAll_6 : decode cX3_readAll 6 = .ok (.iload_n 2, 1) := by decide +kernel
theorem dX3_readAll_7 : decode cX3_readAll 7 = .ok (.aload_n 1, 1) := by decide +kernel
theorem dX3_readAll_8 : decode cX3_readAll 8 = .ok (.getfield 25, 3) := by decide +kernel
theorem dX3_readAll_11 : decode cX3_readAll 11 = .ok (.if_icmp .ge 23, 3) := by decide +kernel
theorem dX3_readAll_14 : decode cX3_readAll 14 = .ok (.aload_n 0, 1) := by decide +kernel
theorem dX3_readAll_15 : decode cX3_readAll 15 = .ok (.aload_n 1, 1) := by decide +kernel
theorem dX3_readAll_16 : decode cX3_readAll 16 = .ok (.iload_n 2, 1) := by decide +kernel
theorem dX3_readAll_17 : decode cX3_readAll 17 = .ok (.invokevirtual 30, 3) := by decide +kernel
theorem dX3_readAll_20 : decode cX3_readAll 20 = .ok (.invokevirtual 34, 3) := by decide +kernel
theorem dX3_readAll_23 : decode cX3_readAll 23 = .ok (.ifCond .ne 5, 3) := by decide +kernel
theorem dX3_readAll_26 : decode cX3_readAll 26 = .ok (.iload_n 2, 1) := by decide +kernel
theorem dX3_readAll_27 : decode cX3_readAll 27 = .ok (.ireturn, 1) := by decide +kernel
theorem dX3_readAll_28 : decode cX3_readAll 28 = .ok (.iinc 2 1, 3) := by decide +kernel
theorem dX3_readAll_31 : decode cX3_readAll 31 = .ok (.goto (-25), 3) := by decide +kernel
theorem dX3_readAll_34 : decode cX3_readAll 34 = .ok (.aload_n 1, 1) := by decide +kernel
theorem dX3_readAll_35 : decode cX3_readAll 35 = .ok (.getfield 25, 3) := by decide +kernel
theorem dX3_readAll_38 : decode cX3_readAll 38 = .ok (.ireturn, 1) := by decide +kernel
theorem dX3_take_0 : decode cX3_take 0 = .ok (.iload_n 1, 1) := by decide +kernel
theorem dX3_take_1 : decode cX3_take 1 = .ok (.bipush 48, 2) := by decide +kernel
theorem dX3_take_3 : decode cX3_take 3 = .ok (.if_icmp .lt 20, 3) := by decide +kernel
theorem dX3_take_6 : decode cX3_take 6 = .ok (.iload_n 1, 1) := by decide +kernel
theorem dX3_take_7 : decode cX3_take 7 = .ok (.bipush 57, 2) := by decide +kernel
theorem dX3_take_9 : decode cX3_take 9 = .ok (.if_icmp .gt 14, 3) := by decide +kernel
theorem dX3_take_12 : decode cX3_take 12 = .ok (.aload_n 0, 1) := by decide +kernel
theorem dX3_take_13 : decode cX3_take 13 = .ok (.iload_n 1, 1) := by decide +kernel
theorem dX3_take_14 : decode cX3_take 14 = .ok (.bipush 48, 2) := by decide +kernel
theorem dX3_take_16 : decode cX3_take 16 = .ok (.isub, 1) := by decide +kernel
theorem dX3_take_17 : decode cX3_take 17 = .ok (.invokevirtual 38, 3) := by decide +kernel
theorem dX3_take_20 : decode cX3_take 20 = .ok (.goto 8, 3) := by decide +kernel
theorem dX3_take_23 : decode cX3_take 23 = .ok (.aload_n 0, 1) := by decide +kernel
theorem dX3_take_24 : decode cX3_take 24 = .ok (.iload_n 1, 1) := by decide +kernel
theorem dX3_take_25 : decode cX3_take 25 = .ok (.invokevirtual 41, 3) := by decide +kernel
theorem dX3_take_28 : decode cX3_take 28 = .ok (.ireturn, 1) := by decide +kernel
theorem dX3_takeDigit_0 : decode cX3_takeDigit 0 = .ok (.aload_n 0, 1) := by decide +kernel
theorem dX3_takeDigit_1 : decode cX3_takeDigit 1 = .ok (.getfield 15, 3) := by decide +kernel
theorem dX3_takeDigit_4 : decode cX3_takeDigit 4 = .ok (.ifCond .lt 37, 3) := by decide +kernel
theorem dX3_takeDigit_7 : decode cX3_takeDigit 7 = .ok (.aload_n 0, 1) := by decide +kernel
theorem dX3_takeDigit_8 : decode cX3_takeDigit 8 = .ok (.getfield 15, 3) := by decide +kernel
theorem dX3_takeDigit_11 : decode cX3_takeDigit 11 = .ok (.aload_n 0, 1) := by decide +kernel
theorem dX3_takeDigit_12 : decode cX3_takeDigit 12 = .ok (.getfield 9, 3) := by decide +kernel
theorem dX3_takeDigit_15 : decode cX3_takeDigit 15 = .ok (.arraylength, 1) := by decide +kernel
theorem dX3_takeDigit_16 : decode cX3_takeDigit 16 = .ok (.if_icmp .ge 25, 3) := by decide +kernel
theorem dX3_takeDigit_19 : decode cX3_takeDigit 19 = .ok (.aload_n 0, 1) := by decide +kernel
theorem dX3_takeDigit_20 : decode cX3_takeDigit 20 = .ok (.getfield 15, 3) := by decide +kernel
theorem dX3_takeDigit_23 : decode cX3_takeDigit 23 = .ok (.getstatic 44, 3) := by decide +kernel
theorem dX3_takeDigit_26 : decode cX3_takeDigit 26 = .ok (.arraylength, 1) := by decide +kernel
theorem dX3_takeDigit_27 : decode cX3_takeDigit 27 = .ok (.if_icmp .ge 14, 3) := by decide +kernel
theorem dX3_takeDigit_30 : decode cX3_takeDigit 30 = .ok (.aload_n 0, 1) := by decide +kernel
theorem dX3_takeDigit_31 : decode cX3_takeDigit 31 = .ok (.getfield 15, 3) := by decide +kernel
theorem dX3_takeDigit_34 : decode cX3_takeDigit 34 = .ok (.getstatic 47, 3) := by decide +kernel
theorem dX3_takeDigit_37 : decode cX3_takeDigit 37 = .ok (.arraylength, 1) := by decide +kernel
theorem dX3_takeDigit_38 : decode cX3_takeDigit 38 = .ok (.if_icmp .lt 5, 3) := by decide +kernel
theorem dX3_takeDigit_41 : decode cX3_takeDigit 41 = .ok (.iconst 0, 1) := by decide +kernel
theorem dX3_takeDigit_42 : decode cX3_takeDigit 42 = .ok (.ireturn, 1) := by decide +kernel
theorem dX3_takeDigit_43 : decode cX3_takeDigit 43 = .ok (.aload_n 0, 1) := by decide +kernel
theorem dX3_takeDigit_44 : decode cX3_takeDigit 44 = .ok (.getfield 19, 3) := by decide +kernel
theorem dX3_takeDigit_47 : decode cX3_takeDigit 47 = .ok (.ifCond .ne 7, 3) := by decide +kernel
theorem dX3_takeDigit_50 : decode cX3_takeDigit 50 = .ok (.iconst 0, 1) := by decide +kernel
theorem dX3_takeDigit_51 : decode cX3_takeDigit 51 = .ok (.goto 12, 3) := by decide +kernel
theorem dX3_takeDigit_54 : decode cX3_takeDigit 54 = .ok (.aload_n 0, 1) := by decide +kernel
theorem dX3_takeDigit_55 : decode cX3_takeDigit 55 = .ok (.getfield 9, 3) := by decide +kernel
theorem dX3_takeDigit_58 : decode cX3_takeDigit 58 = .ok (.aload_n 0, 1) := by decide +kernel
theorem dX3_takeDigit_59 : decode cX3_takeDigit 59 = .ok (.getfield 15, 3) := by decide +kernel
theorem dX3_takeDigit_62 : decode cX3_takeDigit 62 = .ok (.iaload, 1) := by decide +kernel
theorem dX3_takeDigit_63 : decode cX3_takeDigit 63 = .ok (.istore_n 2, 1) := by decide +kernel
theorem dX3_takeDigit_64 : decode cX3_takeDigit 64 = .ok (.aload_n 0, 1) := by decide +kernel
theorem dX3_takeDigit_65 : decode cX3_takeDigit 65 = .ok (.getfield 19, 3) := by decide +kernel
theorem dX3_takeDigit_68 : decode cX3_takeDigit 68 = .ok (.ifCond .le 11, 3) := by decide +kernel
theorem dX3_takeDigit_71 : decode cX3_takeDigit 71 = .ok (.iload_n 2, 1) := by decide +kernel
theorem dX3_takeDigit_72 : decode cX3_takeDigit 72 = .ok (.ifCond .ne 7, 3) := by decide +kernel
theorem dX3_takeDigit_75 : decode cX3_takeDigit 75 = .ok (.iconst 1, 1) := by decide +kernel
theorem dX3_takeDigit_76 : decode cX3_takeDigit 76 = .ok (.goto 4, 3) := by decide +kernel
theorem dX3_takeDigit_79 : decode cX3_takeDigit 79 = .ok (.iconst 0, 1) := by decide +kernel
theorem dX3_takeDigit_80 : decode cX3_takeDigit 80 = .ok (.istore_n 3, 1) := by decide +kernel
theorem dX3_takeDigit_81 : decode cX3_takeDigit 81 = .ok (.bipush 10, 2) := by decide +kernel
theorem dX3_takeDigit_83 : decode cX3_takeDigit 83 = .ok (.iload_n 2, 1) := by decide +kernel
theorem dX3_takeDigit_84 : decode cX3_takeDigit 84 = .ok (.imul, 1) := by decide +kernel
theorem dX3_takeDigit_85 : decode cX3_takeDigit 85 = .ok (.iload_n 1, 1) := by decide +kernel
theorem dX3_takeDigit_86 : decode cX3_takeDigit 86 = .ok (.iadd, 1) := by decide +kernel
theorem dX3_takeDigit_87 : decode cX3_takeDigit 87 = .ok (.istore 4, 2) := by decide +kernel
theorem dX3_takeDigit_89 : decode cX3_takeDigit 89 = .ok (.iload_n 3, 1) := by decide +kernel
theorem dX3_takeDigit_90 : decode cX3_takeDigit 90 = .ok (.ifCond .ne 29, 3) := by decide +kernel
theorem dX3_takeDigit_93 : decode cX3_takeDigit 93 = .ok (.iload 4, 2) := by decide +kernel
theorem dX3_takeDigit_95 : decode cX3_takeDigit 95 = .ok (.getstatic 44, 3) := by decide +kernel
theorem dX3_takeDigit_98 : decode cX3_takeDigit 98 = .ok (.aload_n 0, 1) := by decide +kernel
theorem dX3_takeDigit_99 : decode cX3_takeDigit 99 = .ok (.getfield 15, 3) := by decide +kernel
theorem dX3_takeDigit_102 : decode cX3_takeDigit 102 = .ok (.iaload, 1) := by decide +kernel
theorem dX3_takeDigit_103 : decode cX3_takeDigit 103 = .ok (.if_icmp .lt 16, 3) := by decide +kernel
theorem dX3_takeDigit_106 : decode cX3_takeDigit 106 = .ok (.iload 4, 2) := by decide +kernel
theorem dX3_takeDigit_108 : decode cX3_takeDigit 108 = .ok (.getstatic 47, 3) := by decide +kernel
theorem dX3_takeDigit_111 : decode cX3_takeDigit 111 = .ok (.aload_n 0, 1) := by decide +kernel
theorem dX3_takeDigit_112 : decode cX3_takeDigit 112 = .ok (.getfield 15, 3) := by decide +kernel
theorem dX3_takeDigit_115 : decode cX3_takeDigit 115 = .ok (.iaload, 1) := by decide +kernel
theorem dX3_takeDigit_116 : decode cX3_takeDigit 116 = .ok (.if_icmp .le 5, 3) := by decide +kernel
theorem dX3_takeDigit_119 : decode cX3_takeDigit 119 = .ok (.iconst 0, 1) := by decide +kernel
theorem dX3_takeDigit_120 : decode cX3_takeDigit 120 = .ok (.ireturn, 1) := by decide +kernel
theorem dX3_takeDigit_121 : decode cX3_takeDigit 121 = .ok (.aload_n 0, 1) := by decide +kernel
theorem dX3_takeDigit_122 : decode cX3_takeDigit 122 = .ok (.getfield 9, 3) := by decide +kernel
theorem dX3_takeDigit_125 : decode cX3_takeDigit 125 = .ok (.aload_n 0, 1) := by decide +kernel
theorem dX3_takeDigit_126 : decode cX3_takeDigit 126 = .ok (.getfield 15, 3) := by decide +kernel
theorem dX3_takeDigit_129 : decode cX3_takeDigit 129 = .ok (.iload 4, 2) := by decide +kernel
theorem dX3_takeDigit_131 : decode cX3_takeDigit 131 = .ok (.iastore, 1) := by decide +kernel
theorem dX3_takeDigit_132 : decode cX3_takeDigit 132 = .ok (.aload_n 0, 1) := by decide +kernel
theorem dX3_takeDigit_133 : decode cX3_takeDigit 133 = .ok (.dup, 1) := by decide +kernel
theorem dX3_takeDigit_134 : decode cX3_takeDigit 134 = .ok (.getfield 19, 3) := by decide +kernel
theorem dX3_takeDigit_137 : decode cX3_takeDigit 137 = .ok (.iconst 1, 1) := by decide +kernel
theorem dX3_takeDigit_138 : decode cX3_takeDigit 138 = .ok (.iadd, 1) := by decide +kernel
theorem dX3_takeDigit_139 : decode cX3_takeDigit 139 = .ok (.putfield 19, 3) := by decide +kernel
theorem dX3_takeDigit_142 : decode cX3_takeDigit 142 = .ok (.iconst 1, 1) := by decide +kernel
theorem dX3_takeDigit_143 : decode cX3_takeDigit 143 = .ok (.ireturn, 1) := by decide +kernel
theorem dX3_takeSign_0 : decode cX3_takeSign 0 = .ok (.aload_n 0, 1) := by decide +kernel
theorem dX3_takeSign_1 : decode cX3_takeSign 1 = .ok (.iload_n 1, 1) := by decide +kernel
theorem dX3_takeSign_2 : decode cX3_takeSign 2 = .ok (.invokevirtual 50, 3) := by decide +kernel
theorem dX3_takeSign_5 : decode cX3_takeSign 5 = .ok (.istore_n 2, 1) := by decide +kernel
theorem dX3_takeSign_6 : decode cX3_takeSign 6 = .ok (.aload_n 0, 1) := by decide +kernel
theorem dX3_takeSign_7 : decode cX3_takeSign 7 = .ok (.getfield 19, 3) := by decide +kernel
theorem dX3_takeSign_10 : decode cX3_takeSign 10 = .ok (.ifCond .eq 8, 3) := by decide +kernel
theorem dX3_takeSign_13 : decode cX3_takeSign 13 = .ok (.iload_n 2, 1) := by decide +kernel
theorem dX3_takeSign_14 : decode cX3_takeSign 14 = .ok (.iconst (-1), 1) := by decide +kernel
theorem dX3_takeSign_15 : decode cX3_takeSign 15 = .ok (.if_icmp .ne 5, 3) := by decide +kernel
theorem dX3_takeSign_18 : decode cX3_takeSign 18 = .ok (.iconst 0, 1) := by decide +kernel
theorem dX3_takeSign_19 : decode cX3_takeSign 19 = .ok (.ireturn, 1) := by decide +kernel
theorem dX3_takeSign_20 : decode cX3_takeSign 20 = .ok (.aload_n 0, 1) := by decide +kernel
theorem dX3_takeSign_21 : decode cX3_takeSign 21 = .ok (.iload_n 2, 1) := by decide +kernel
theorem dX3_takeSign_22 : decode cX3_takeSign 22 = .ok (.putfield 15, 3) := by decide +kernel
theorem dX3_takeSign_25 : decode cX3_takeSign 25 = .ok (.aload_n 0, 1) := by decide +kernel
theorem dX3_takeSign_26 : decode cX3_takeSign 26 = .ok (.iconst 0, 1) := by decide +kernel
theorem dX3_takeSign_27 : decode cX3_takeSign 27 = .ok (.putfield 19, 3) := by decide +kernel
theorem dX3_takeSign_30 : decode cX3_takeSign 30 = .ok (.iconst 1, 1) := by decide +kernel
theorem dX3_takeSign_31 : decode cX3_takeSign 31 = .ok (.ireturn, 1) := by decide +kernel
theorem dX3_partBehind_0 : decode cX3_partBehind 0 = .ok (.iload_n 1, 1) := by decide +kernel
theorem dX3_partBehind_1 : decode cX3_partBehind 1 = .ok (.lookupswitch 98 #[(42, 43), (43, 70), (59, 84), (64, 56)], 43) := by decide +kernel
theorem dX3_partBehind_44 : decode cX3_partBehind 44 = .ok (.aload_n 0, 1) := by decide +kernel
theorem dX3_partBehind_45 : decode cX3_partBehind 45 = .ok (.getfield 15, 3) := by decide +kernel
theorem dX3_partBehind_48 : decode cX3_partBehind 48 = .ok (.ifCond .ne 7, 3) := by decide +kernel
theorem dX3_partBehind_51 : decode cX3_partBehind 51 = .ok (.iconst 1, 1) := by decide +kernel
theorem dX3_partBehind_52 : decode cX3_partBehind 52 = .ok (.goto 4, 3) := by decide +kernel
theorem dX3_partBehind_55 : decode cX3_partBehind 55 = .ok (.iconst (-1), 1) := by decide +kernel
theorem dX3_partBehind_56 : decode cX3_partBehind 56 = .ok (.ireturn, 1) := by decide +kernel
theorem dX3_partBehind_57 : decode cX3_partBehind 57 = .ok (.aload_n 0, 1) := by decide +kernel
theorem dX3_partBehind_58 : decode cX3_partBehind 58 = .ok (.getfield 15, 3) := by decide +kernel
theorem dX3_partBehind_61 : decode cX3_partBehind 61 = .ok (.iconst 1, 1) := by decide +kernel
theorem dX3_partBehind_62 : decode cX3_partBehind 62 = .ok (.if_icmp .ne 7, 3) := by decide +kernel
theorem dX3_partBehind_65 : decode cX3_partBehind 65 = .ok (.iconst 2, 1) := by decide +kernel
theorem dX3_partBehind_66 : decode cX3_partBehind 66 = .ok (.goto 4, 3) := by decide +kernel
theorem dX3_partBehind_69 : decode cX3_partBehind 69 = .ok (.iconst (-1), 1) := by decide +kernel
theorem dX3_partBehind_70 : decode cX3_partBehind 70 = .ok (.ireturn, 1) := by decide +kernel
theorem dX3_partBehind_71 : decode cX3_partBehind 71 = .ok (.aload_n 0, 1) := by decide +kernel
theorem dX3_partBehind_72 : decode cX3_partBehind 72 = .ok (.getfield 15, 3) := by decide +kernel
theorem dX3_partBehind_75 : decode cX3_partBehind 75 = .ok (.iconst 2, 1) := by decide +kernel
theorem dX3_partBehind_76 : decode cX3_partBehind 76 = .ok (.if_icmp .ne 7, 3) := by decide +kernel
theorem dX3_partBehind_79 : decode cX3_partBehind 79 = .ok (.iconst 3, 1) := by decide +kernel
theorem dX3_partBehind_80 : decode cX3_partBehind 80 = .ok (.goto 4, 3) := by decide +kernel
theorem dX3_partBehind_83 : decode cX3_partBehind 83 = .ok (.iconst (-1), 1) := by decide +kernel
theorem dX3_partBehind_84 : decode cX3_partBehind 84 = .ok (.ireturn, 1) := by decide +kernel
theorem dX3_partBehind_85 : decode cX3_partBehind 85 = .ok (.aload_n 0, 1) := by decide +kernel
theorem dX3_partBehind_86 : decode cX3_partBehind 86 = .ok (.getfield 15, 3) := by decide +kernel
theorem dX3_partBehind_89 : decode cX3_partBehind 89 = .ok (.iconst 2, 1) := by decide +kernel
theorem dX3_partBehind_90 : decode cX3_partBehind 90 = .ok (.if_icmp .lt 7, 3) := by decide +kernel
theorem dX3_partBehind_93 : decode cX3_partBehind 93 = .ok (.iconst 0, 1) := by decide +kernel
theorem dX3_partBehind_94 : decode cX3_partBehind 94 = .ok (.goto 4, 3) := by decide +kernel
theorem dX3_partBehind_97 : decode cX3_partBehind 97 = .ok (.iconst (-1), 1) := by decide +kernel
theorem dX3_partBehind_98 : decode cX3_partBehind 98 = .ok (.ireturn, 1) := by decide +kernel
theorem dX3_partBehind_99 : decode cX3_partBehind 99 = .ok (.iconst (-1), 1) := by decide +kernel
theorem dX3_partBehind_100 : decode cX3_partBehind 100 = .ok (.ireturn, 1) := by decide +kernel
theorem dX3_isComplete_0 : decode cX3_isComplete 0 = .ok (.aload_n 0, 1) := by decide +kernel
theorem dX3_isComplete_1 : decode cX3_isComplete 1 = .ok (.getfield 15, 3) := by decide +kernel
theorem dX3_isComplete_4 : decode cX3_isComplete 4 = .ok (.iconst 2, 1) := by decide +kernel
theorem dX3_isComplete_5 : decode cX3_isComplete 5 = .ok (.if_icmp .lt 14, 3) := by decide +kernel
theorem dX3_isComplete_8 : decode cX3_isComplete 8 = .ok (.aload_n 0, 1) := by decide +kernel
theorem dX3_isComplete_9 : decode cX3_isComplete 9 = .ok (.getfield 19, 3) := by decide +kernel
theorem dX3_isComplete_12 : decode cX3_isComplete 12 = .ok (.ifCond .le 7, 3) := by decide +kernel
theorem dX3_isComplete_15 : decode cX3_isComplete 15 = .ok (.iconst 1, 1) := by decide +kernel
theorem dX3_isComplete_16 : decode cX3_isComplete 16 = .ok (.goto 4, 3) := by decide +kernel
theorem dX3_isComplete_19 : decode cX3_isComplete 19 = .ok (.iconst 0, 1) := by decide +kernel
theorem dX3_isComplete_20 : decode cX3_isComplete 20 = .ok (.ireturn, 1) := by decide +kernel
theorem dX3_numberOf_0 : decode cX3_numberOf 0 = .ok (.iload_n 1, 1) := by decide +kernel
theorem dX3_numberOf_1 : decode cX3_numberOf 1 = .ok (.ifCond .lt 29, 3) := by decide +kernel
theorem dX3_numberOf_4 : decode cX3_numberOf 4 = .ok (.iload_n 1, 1) := by decide +kernel
theorem dX3_numberOf_5 : decode cX3_numberOf 5 = .ok (.aload_n 0, 1) := by decide +kernel
theorem dX3_numberOf_6 : decode cX3_numberOf 6 = .ok (.getfield 15, 3) := by decide +kernel
theorem dX3_numberOf_9 : decode cX3_numberOf 9 = .ok (.if_icmp .gt 21, 3) := by decide +kernel
theorem dX3_numberOf_12 : decode cX3_numberOf 12 = .ok (.iload_n 1, 1) := by decide +kernel
theorem dX3_numberOf_13 : decode cX3_numberOf 13 = .ok (.aload_n 0, 1) := by decide +kernel
theorem dX3_numberOf_14 : decode cX3_numberOf 14 = .ok (.getfield 9, 3) := by decide +kernel
theorem dX3_numberOf_17 : decode cX3_numberOf 17 = .ok (.arraylength, 1) := by decide +kernel
theorem dX3_numberOf_18 : decode cX3_numberOf 18 = .ok (.if_icmp .ge 12, 3) := by decide +kernel
theorem dX3_numberOf_21 : decode cX3_numberOf 21 = .ok (.aload_n 0, 1) := by decide +kernel
theorem dX3_numberOf_22 : decode cX3_numberOf 22 = .ok (.getfield 9, 3) := by decide +kernel
theorem dX3_numberOf_25 : decode cX3_numberOf 25 = .ok (.iload_n 1, 1) := by decide +kernel
theorem dX3_numberOf_26 : decode cX3_numberOf 26 = .ok (.iaload, 1) := by decide +kernel
theorem dX3_numberOf_27 : decode cX3_numberOf 27 = .ok (.goto 4, 3) := by decide +kernel
theorem dX3_numberOf_30 : decode cX3_numberOf 30 = .ok (.iconst 0, 1) := by decide +kernel
theorem dX3_numberOf_31 : decode cX3_numberOf 31 = .ok (.ireturn, 1) := by decide +kernel
theorem dX4_init_0 : decode cX4_init 0 = .ok (.aload_n 0, 1) := by decide +kernel
theorem dX4_init_1 : decode cX4_init 1 = .ok (.invokespecial 3, 3) := by decide +kernel
theorem dX4_init_4 : decode cX4_init 4 = .ok (.aload_n 0, 1) := by decide +kernel
theorem dX4_init_5 : decode cX4_init 5 = .ok (.bipush 8, 2) := by decide +kernel
theorem dX4_init_7 : decode cX4_init 7 = .ok (.anewarray 9, 3) := by decide +kernel
theorem dX4_init_10 : decode cX4_init 10 = .ok (.putfield 11, 3) := by decide +kernel
theorem dX4_init_13 : decode cX4_init 13 = .ok (.aload_n 0, 1) := by decide +kernel
theorem dX4_init_14 : decode cX4_init 14 = .ok (.bipush 12, 2) := by decide +kernel
theorem dX4_init_16 : decode cX4_init 16 = .ok (.anewarray 17, 3) := by decide +kernel
theorem dX4_init_19 : decode cX4_init 19 = .ok (.putfield 19, 3) := by decide +kernel
theorem dX4_init_22 : decode cX4_init 22 = .ok (.iconst 0, 1) := by decide +kernel
theorem dX4_init_23 : decode cX4_init 23 = .ok (.istore_n 1, 1) := by decide +kernel
theorem dX4_init_24 : decode cX4_init 24 = .ok (.iload_n 1, 1) := by decide +kernel
theorem dX4_init_25 : decode cX4_init 25 = .ok (.aload_n 0, 1) := by decide +kernel
theorem dX4_init_26 : decode cX4_init 26 = .ok (.getfield 11, 3) := by decide +kernel
theorem dX4_init_29 : decode cX4_init 29 = .ok (.arraylength, 1) := by decide +kernel
theorem dX4_init_30 : decode cX4_init 30 = .ok (.if_icmp .ge 22, 3) := by decide +kernel
theorem dX4_init_33 : decode cX4_init 33 = .ok (.aload_n 0, 1) := by decide +kernel
theorem dX4_init_34 : decode cX4_init 34 = .ok (.getfield 11, 3) := by decide +kernel
theorem dX4_init_37 : decode cX4_init 37 = .ok (.iload_n 1, 1) := by decide +kernel
theorem dX4_init_38 : decode cX4_init 38 = .ok (.new 9, 3) := by decide +kernel
theorem dX4_init_41 : decode cX4_init 41 = .ok (.dup, 1) := by decide +kernel
theorem dX4_init_42 : decode cX4_init 42 = .ok (.invokespecial 23, 3) := by decide +kernel
theorem dX4_init_45 : decode cX4_init 45 = .ok (.aastore, 1) := by decide +kernel
theorem dX4_init_46 : decode cX4_init 46 = .ok (.iinc 1 1, 3) := by decide +kernel
theorem dX4_init_49 : decode cX4_init 49 = .ok (.goto (-25), 3) := by decide +kernel
theorem dX4_init_52 : decode cX4_init 52 = .ok (.iconst 0, 1) := by decide +kernel
theorem dX4_init_53 : decode cX4_init 53 = .ok (.istore_n 1, 1) := by decide +kernel
theorem dX4_init_54 : decode cX4_init 54 = .ok (.iload_n 1, 1) := by decide +kernel
theorem dX4_init_55 : decode cX4_init 55 = .ok (.aload_n 0, 1) := by decide +kernel
theorem dX4_init_56 : decode cX4_init 56 = .ok (.getfield 19, 3) := by decide +kernel
theorem dX4_init_59 : decode cX4_init 59 = .ok (.arraylength, 1) := by decide +kernel
theorem dX4_init_60 : decode cX4_init 60 = .ok (.if_icmp .ge 22, 3) := by decide +kernel
theorem dX4_init_63 : decode cX4_init 63 = .ok (.aload_n 0, 1) := by decide +kernel
theorem dX4_init_64 : decode cX4_init 64 = .ok (.getfield 19, 3) := by decide +kernel
theorem dX4_init_67 : decode cX4_init 67 = .ok (.iload_n 1, 1) := by decide +kernel
theorem dX4_init_68 : decode cX4_init 68 = .ok (.new 17, 3) := by decide +kernel
theorem dX4_init_71 : decode cX4_init 71 = .ok (.dup, 1) := by decide +kernel
theorem dX4_init_72 : decode cX4_init 72 = .ok (.invokespecial 24, 3) := by decide +kernel
theorem dX4_init_75 : decode cX4_init 75 = .ok (.aastore, 1) := by decide +kernel
theorem dX4_init_76 : decode cX4_init 76 = .ok (.iinc 1 1, 3) := by decide +kernel
theorem dX4_init_79 : decode cX4_init 79 = .ok (.goto (-25), 3) := by decide +kernel
theorem dX4_init_82 : decode cX4_init 82 = .ok (.return_, 1) := by decide +kernel
theorem dX4_copyFrom_0 : decode cX4_copyFrom 0 = .ok (.aload_n 0, 1) := by decide +kernel
theorem dX4_copyFrom_1 : decode cX4_copyFrom 1 = .ok (.aload_n 1, 1) := by decide +kernel
theorem dX4_copyFrom_2 : decode cX4_copyFrom 2 = .ok (.getfield 25, 3) := by decide +kernel
theorem dX4_copyFrom_5 : decode cX4_copyFrom 5 = .ok (.putfield 25, 3) := by decide +kernel
theorem dX4_copyFrom_8 : decode cX4_copyFrom 8 = .ok (.aload_n 0, 1) := by decide +kernel
theorem dX4_copyFrom_9 : decode cX4_copyFrom 9 = .ok (.aload_n 1, 1) := by decide +kernel
theorem dX4_copyFrom_10 : decode cX4_copyFrom 10 = .ok (.getfield 29, 3) := by decide +kernel
theorem dX4_copyFrom_13 : decode cX4_copyFrom 13 = .ok (.putfield 29, 3) := by decide +kernel
theorem dX4_copyFrom_16 : decode cX4_copyFrom 16 = .ok (.aload_n 0, 1) := by decide +kernel
theorem dX4_copyFrom_17 : decode cX4_copyFrom 17 = .ok (.aload_n 1, 1) := by decide +kernel
theorem dX4_copyFrom_18 : decode cX4_copyFrom 18 = .ok (.getfield 32, 3) := by decide +kernel
theorem dX4_copyFrom_21 : decode cX4_copyFrom 21 = .ok (.putfield 32, 3) := by decide +kernel
theorem dX4_copyFrom_24 : decode cX4_copyFrom 24 = .ok (.iconst 0, 1) := by decide +kernel
theorem dX4_copyFrom_25 : decode cX4_copyFrom 25 = .ok (.istore_n 2, 1) := by decide +kernel
theorem dX4_copyFrom_26 : decode cX4_copyFrom 26 = .ok (.iload_n 2, 1) := by decide +kernel
theorem dX4_copyFrom_27 : decode cX4_copyFrom 27 = .ok (.aload_n 0, 1) := by decide +kernel
theorem dX4_copyFrom_28 : decode cX4_copyFrom 28 = .ok (.getfield 25, 3) := by decide +kernel
theorem dX4_copyFrom_31 : decode cX4_copyFrom 31 = .ok (.if_icmp .ge 37, 3) := by decide +kernel
theorem dX4_copyFrom_34 : decode cX4_copyFrom 34 = .ok (.aload_n 0, 1) := by decide +kernel
theorem dX4_copyFrom_35 : decode cX4_copyFrom 35 = .ok (.iload_n 2, 1) := by decide +kernel
theorem dX4_copyFrom_36 : decode cX4_copyFrom 36 = .ok (.invokevirtual 35, 3) := by decide +kernel
theorem dX4_copyFrom_39 : decode cX4_copyFrom 39 = .ok (.astore_n 3, 1) := by decide +kernel
theorem dX4_copyFrom_40 : decode cX4_copyFrom 40 = .ok (.aload_n 1, 1) := by decide +kernel
theorem dX4_copyFrom_41 : decode cX4_copyFrom 41 = .ok (.iload_n 2, 1) := by decide +kernel
theorem dX4_copyFrom_42 : decode cX4_copyFrom 42 = .ok (.invokevirtual 35, 3) := by decide +kernel
theorem dX4_copyFrom_45 : decode cX4_copyFrom 45 = .ok (.astore 4, 2) := by decide +kernel
theorem dX4_copyFrom_47 : decode cX4_copyFrom 47 = .ok (.aload_n 3, 1) := by decide +kernel
theorem dX4_copyFrom_48 : decode cX4_copyFrom 48 = .ok (.ifnull 14, 3) := by decide +kernel
theorem dX4_copyFrom_51 : decode cX4_copyFrom 51 = .ok (.aload 4, 2) := by decide +kernel
theorem dX4_copyFrom_53 : decode cX4_copyFrom 53 = .ok (.ifnull 9, 3) := by decide +kernel
theorem dX4_copyFrom_56 : decode cX4_copyFrom 56 = .ok (.aload_n 3, 1) := by decide +kernel
theorem dX4_copyFrom_57 : decode cX4_copyFrom 57 = .ok (.aload 4, 2) := by decide +kernel
theorem dX4_copyFrom_59 : decode cX4_copyFrom 59 = .ok (.invokevirtual 39, 3) := by decide +kernel
theorem dX4_copyFrom_62 : decode cX4_copyFrom 62 = .ok (.iinc 2 1, 3) := by decide +kernel
theorem dX4_copyFrom_65 : decode cX4_copyFrom 65 = .ok (.goto (-39), 3) := by decide +kernel
theorem dX4_copyFrom_68 : decode cX4_copyFrom 68 = .ok (.iconst 0, 1) := by decide +kernel
theorem dX4_copyFrom_69 : decode cX4_copyFrom 69 = .ok (.istore_n 2, 1) := by decide +kernel
theorem dX4_copyFrom_70 : decode cX4_copyFrom 70 = .ok (.iload_n 2, 1) := by decide +kernel
theorem dX4_copyFrom_71 : decode cX4_copyFrom 71 = .ok (.aload_n 0, 1) := by decide +kernel
theorem dX4_copyFrom_72 : decode cX4_copyFrom 72 = .ok (.getfield 29, 3) := by decide +kernel
theorem dX4_copyFrom_75 : decode cX4_copyFrom 75 = .ok (.if_icmp .ge 37, 3) := by decide +kernel
theorem dX4_copyFrom_78 : decode cX4_copyFrom 78 = .ok (.aload_n 0, 1) := by decide +kernel
theorem dX4_copyFrom_79 : decode cX4_copyFrom 79 = .ok (.iload_n 2, 1) := by decide +kernel
theorem dX4_copyFrom_80 : decode cX4_copyFrom 80 = .ok (.invokevirtual 43, 3) := by decide +kernel
theorem dX4_copyFrom_83 : decode cX4_copyFrom 83 = .ok (.astore_n 3, 1) := by decide +kernel
theorem dX4_copyFrom_84 : decode cX4_copyFrom 84 = .ok (.aload_n 1, 1) := by decide +kernel
theorem dX4_copyFrom_85 : decode cX4_copyFrom 85 = .ok (.iload_n 2, 1) := by decide +kernel
theorem dX4_copyFrom_86 : decode cX4_copyFrom 86 = .ok (.invokevirtual 43, 3) := by decide +kernel
theorem dX4_copyFrom_89 : decode cX4_copyFrom 89 = .ok (.astore 4, 2) := by decide +kernel
theorem dX4_copyFrom_91 : decode cX4_copyFrom 91 = .ok (.aload_n 3, 1) := by decide +kernel
theorem dX4_copyFrom_92 : decode cX4_copyFrom 92 = .ok (.ifnull 14, 3) := by decide +kernel
theorem dX4_copyFrom_95 : decode cX4_copyFrom 95 = .ok (.aload 4, 2) := by decide +kernel
theorem dX4_copyFrom_97 : decode cX4_copyFrom 97 = .ok (.ifnull 9, 3) := by decide +kernel
theorem dX4_copyFrom_100 : decode cX4_copyFrom 100 = .ok (.aload_n 3, 1) := by decide +kernel
theorem dX4_copyFrom_101 : decode cX4_copyFrom 101 = .ok (.aload 4, 2) := by decide +kernel
theorem dX4_copyFrom_103 : decode cX4_copyFrom 103 = .ok (.invokevirtual 47, 3) := by decide +kernel
theorem dX4_copyFrom_106 : decode cX4_copyFrom 106 = .ok (.iinc 2 1, 3) := by decide +kernel
theorem dX4_copyFrom_109 : decode cX4_copyFrom 109 = .ok (.goto (-39), 3) := by decide +kernel
theorem dX4_copyFrom_112 : decode cX4_copyFrom 112 = .ok (.return_, 1) := by decide +kernel
theorem dX4_leaseAt_0 : decode cX4_leaseAt 0 = .ok (.iload_n 1, 1) := by decide +kernel
theorem dX4_leaseAt_1 : decode cX4_leaseAt 1 = .ok (.ifCond .lt 29, 3) := by decide +kernel
theorem dX4_leaseAt_4 : decode cX4_leaseAt 4 = .ok (.iload_n 1, 1) := by decide +kernel
theorem dX4_leaseAt_5 : decode cX4_leaseAt 5 = .ok (.aload_n 0, 1) := by decide +kernel
theorem dX4_leaseAt_6 : decode cX4_leaseAt 6 = .ok (.getfield 25, 3) := by decide +kernel
theorem dX4_leaseAt_9 : decode cX4_leaseAt 9 = .ok (.if_icmp .ge 21, 3) := by decide +kernel
theorem dX4_leaseAt_12 : decode cX4_leaseAt 12 = .ok (.iload_n 1, 1) := by decide +kernel
theorem dX4_leaseAt_13 : decode cX4_leaseAt 13 = .ok (.aload_n 0, 1) := by decide +kernel
theorem dX4_leaseAt_14 : decode cX4_leaseAt 14 = .ok (.getfield 11, 3) := by decide +kernel
theorem dX4_leaseAt_17 : decode cX4_leaseAt 17 = .ok (.arraylength, 1) := by decide +kernel
theorem dX4_leaseAt_18 : decode cX4_leaseAt 18 = .ok (.if_icmp .ge 12, 3) := by decide +kernel
theorem dX4_leaseAt_21 : decode cX4_leaseAt 21 = .ok (.aload_n 0, 1) := by decide +kernel
theorem dX4_leaseAt_22 : decode cX4_leaseAt 22 = .ok (.getfield 11, 3) := by decide +kernel
theorem dX4_leaseAt_25 : decode cX4_leaseAt 25 = .ok (.iload_n 1, 1) := by decide +kernel
theorem dX4_leaseAt_26 : decode cX4_leaseAt 26 = .ok (.aaload, 1) := by decide +kernel
theorem dX4_leaseAt_27 : decode cX4_leaseAt 27 = .ok (.goto 4, 3) := by decide +kernel
theorem dX4_leaseAt_30 : decode cX4_leaseAt 30 = .ok (.aconst_null, 1) := by decide +kernel
theorem dX4_leaseAt_31 : decode cX4_leaseAt 31 = .ok (.areturn, 1) := by decide +kernel
theorem dX4_subleaseAt_0 : decode cX4_subleaseAt 0 = .ok (.iload_n 1, 1) := by decide +kernel
theorem dX4_subleaseAt_1 : decode cX4_subleaseAt 1 = .ok (.ifCond .lt 29, 3) := by decide +kernel
theorem dX4_subleaseAt_4 : decode cX4_subleaseAt 4 = .ok (.iload_n 1, 1) := by decide +kernel
theorem dX4_subleaseAt_5 : decode cX4_subleaseAt 5 = .ok (.aload_n 0, 1) := by decide +kernel
theorem dX4_subleaseAt_6 : decode cX4_subleaseAt 6 = .ok (.getfield 29, 3) := by decide +kernel
theorem dX4_subleaseAt_9 : decode cX4_subleaseAt 9 = .ok (.if_icmp .ge 21, 3) := by decide +kernel
theorem dX4_subleaseAt_12 : decode cX4_subleaseAt 12 = .ok (.iload_n 1, 1) := by decide +kernel
theorem dX4_subleaseAt_13 : decode cX4_subleaseAt 13 = .ok (.aload_n 0, 1) := by decide +kernel
theorem dX4_subleaseAt_14 : decode cX4_subleaseAt 14 = .ok (.getfield 19, 3) := by decide +kernel
theorem dX4_subleaseAt_17 : decode cX4_subleaseAt 17 = .ok (.arraylength, 1) := by decide +kernel
theorem dX4_subleaseAt_18 : decode cX4_subleaseAt 18 = .ok (.if_icmp .ge 12, 3) := by decide +kernel
theorem dX4_subleaseAt_21 : decode cX4_subleaseAt 21 = .ok (.aload_n 0, 1) := by decide +kernel
theorem dX4_subleaseAt_22 : decode cX4_subleaseAt 22 = .ok (.getfield 19, 3) := by decide +kernel
theorem dX4_subleaseAt_25 : decode cX4_subleaseAt 25 = .ok (.iload_n 1, 1) := by decide +kernel
theorem dX4_subleaseAt_26 : decode cX4_subleaseAt 26 = .ok (.aaload, 1) := by decide +kernel
theorem dX4_subleaseAt_27 : decode cX4_subleaseAt 27 = .ok (.goto 4, 3) := by decide +kernel
theorem dX4_subleaseAt_30 : decode cX4_subleaseAt 30 = .ok (.aconst_null, 1) := by decide +kernel
theorem dX4_subleaseAt_31 : decode cX4_subleaseAt 31 = .ok (.areturn, 1) := by decide +kernel
theorem dX4_addLease_0 : decode cX4_addLease 0 = .ok (.aload_n 0, 1) := by decide +kernel
theorem dX4_addLease_1 : decode cX4_addLease 1 = .ok (.getfield 25, 3) := by decide +kernel
theorem dX4_addLease_4 : decode cX4_addLease 4 = .ok (.istore 5, 2) := by decide +kernel
theorem dX4_addLease_6 : decode cX4_addLease 6 = .ok (.aload_n 0, 1) := by decide +kernel
theorem dX4_addLease_7 : decode cX4_addLease 7 = .ok (.dup, 1) := by decide +kernel
theorem dX4_addLease_8 : decode cX4_addLease 8 = .ok (.getfield 25, 3) := by decide +kernel
theorem dX4_addLease_11 : decode cX4_addLease 11 = .ok (.iconst 1, 1) := by decide +kernel
theorem dX4_addLease_12 : decode cX4_addLease 12 = .ok (.iadd, 1) := by decide +kernel
theorem dX4_addLease_13 : decode cX4_addLease 13 = .ok (.putfield 25, 3) := by decide +kernel
theorem dX4_addLease_16 : decode cX4_addLease 16 = .ok (.aload_n 0, 1) := by decide +kernel
theorem dX4_addLease_17 : decode cX4_addLease 17 = .ok (.iload 5, 2) := by decide +kernel
theorem dX4_addLease_19 : decode cX4_addLease 19 = .ok (.invokevirtual 35, 3) := by decide +kernel
theorem dX4_addLease_22 : decode cX4_addLease 22 = .ok (.astore 6, 2) := by decide +kernel
theorem dX4_addLease_24 : decode cX4_addLease 24 = .ok (.aload 6, 2) := by decide +kernel
theorem dX4_addLease_26 : decode cX4_addLease 26 = .ok (.ifnull 13, 3) := by decide +kernel
theorem dX4_addLease_29 : decode cX4_addLease 29 = .ok (.aload 6, 2) := by decide +kernel
theorem dX4_addLease_31 : decode cX4_addLease 31 = .ok (.iload_n 1, 1) := by decide +kernel
theorem dX4_addLease_32 : decode cX4_addLease 32 = .ok (.iload_n 2, 1) := by decide +kernel
theorem dX4_addLease_33 : decode cX4_addLease 33 = .ok (.iload_n 3, 1) := by decide +kernel
theorem dX4_addLease_34 : decode cX4_addLease 34 = .ok (.iload 4, 2) := by decide +kernel
theorem dX4_addLease_36 : decode cX4_addLease 36 = .ok (.invokevirtual 50, 3) := by decide +kernel
theorem dX4_addLease_39 : decode cX4_addLease 39 = .ok (.iload 5, 2) := by decide +kernel
theorem dX4_addLease_41 : decode cX4_addLease 41 = .ok (.ireturn, 1) := by decide +kernel
theorem dX4_addSublease_0 : decode cX4_addSublease 0 = .ok (.aload_n 0, 1) := by decide +kernel
theorem dX4_addSublease_1 : decode cX4_addSublease 1 = .ok (.getfield 29, 3) := by decide +kernel
theorem dX4_addSublease_4 : decode cX4_addSublease 4 = .ok (.istore 6, 2) := by decide +kernel
theorem dX4_addSublease_6 : decode cX4_addSublease 6 = .ok (.aload_n 0, 1) := by decide +kernel
theorem dX4_addSublease_7 : decode cX4_addSublease 7 = .ok (.dup, 1) := by decide +kernel
theorem dX4_addSublease_8 : decode cX4_addSublease 8 = .ok (.getfield 29, 3) := by decide +kernel
theorem dX4_addSublease_11 : decode cX4_addSublease 11 = .ok (.iconst 1, 1) := by decide +kernel
theorem dX4_addSublease_12 : decode cX4_addSublease 12 = .ok (.iadd, 1) := by decide +kernel
theorem dX4_addSublease_13 : decode cX4_addSublease 13 = .ok (.putfield 29, 3) := by decide +kernel
theorem dX4_addSublease_16 : decode cX4_addSublease 16 = .ok (.aload_n 0, 1) := by decide +kernel
theorem dX4_addSublease_17 : decode cX4_addSublease 17 = .ok (.iload 6, 2) := by decide +kernel
theorem dX4_addSublease_19 : decode cX4_addSublease 19 = .ok (.invokevirtual 43, 3) := by decide +kernel
theorem dX4_addSublease_22 : decode cX4_addSublease 22 = .ok (.astore 7, 2) := by decide +kernel
theorem dX4_addSublease_24 : decode cX4_addSublease 24 = .ok (.aload 7, 2) := by decide +kernel
theorem dX4_addSublease_26 : decode cX4_addSublease 26 = .ok (.ifnull 60, 3) := by decide +kernel
theorem dX4_addSublease_29 : decode cX4_addSublease 29 = .ok (.aload 7, 2) := by decide +kernel
theorem dX4_addSublease_31 : decode cX4_addSublease 31 = .ok (.iload_n 1, 1) := by decide +kernel
theorem dX4_addSublease_32 : decode cX4_addSublease 32 = .ok (.putfield 54, 3) := by decide +kernel
theorem dX4_addSublease_35 : decode cX4_addSublease 35 = .ok (.aload 7, 2) := by decide +kernel
theorem dX4_addSublease_37 : decode cX4_addSublease 37 = .ok (.iload_n 3, 1) := by decide +kernel
theorem dX4_addSublease_38 : decode cX4_addSublease 38 = .ok (.putfield 57, 3) := by decide +kernel
theorem dX4_addSublease_41 : decode cX4_addSublease 41 = .ok (.aload 7, 2) := by decide +kernel
theorem dX4_addSublease_43 : decode cX4_addSublease 43 = .ok (.iload 4, 2) := by decide +kernel
theorem dX4_addSublease_45 : decode cX4_addSublease 45 = .ok (.putfield 60, 3) := by decide +kernel
theorem dX4_addSublease_48 : decode cX4_addSublease 48 = .ok (.aload 7, 2) := by decide +kernel
theorem dX4_addSublease_50 : decode cX4_addSublease 50 = .ok (.iload 5, 2) := by decide +kernel
theorem dX4_addSublease_52 : decode cX4_addSublease 52 = .ok (.putfield 63, 3) := by decide +kernel
theorem dX4_addSublease_55 : decode cX4_addSublease 55 = .ok (.aload 7, 2) := by decide +kernel
theorem dX4_addSublease_57 : decode cX4_addSublease 57 = .ok (.aload_n 2, 1) := by decide +kernel
theorem dX4_addSublease_58 : decode cX4_addSublease 58 = .ok (.getfield 66, 3) := by decide +kernel
theorem dX4_addSublease_61 : decode cX4_addSublease 61 = .ok (.putfield 69, 3) := by decide +kernel
theorem dX4_addSublease_64 : decode cX4_addSublease 64 = .ok (.aload 7, 2) := by decide +kernel
theorem dX4_addSublease_66 : decode cX4_addSublease 66 = .ok (.aload 7, 2) := by decide +kernel
theorem dX4_addSublease_68 : decode cX4_addSublease 68 = .ok (.iload 5, 2) := by decide +kernel
theorem dX4_addSublease_70 : decode cX4_addSublease 70 = .ok (.invokevirtual 70, 3) := by decide +kernel
theorem dX4_addSublease_73 : decode cX4_addSublease 73 = .ok (.putfield 74, 3) := by decide +kernel
theorem dX4_addSublease_76 : decode cX4_addSublease 76 = .ok (.aload_n 2, 1) := by decide +kernel
theorem dX4_addSublease_77 : decode cX4_addSublease 77 = .ok (.iload_n 3, 1) := by decide +kernel
theorem dX4_addSublease_78 : decode cX4_addSublease 78 = .ok (.aload 7, 2) := by decide +kernel
theorem dX4_addSublease_80 : decode cX4_addSublease 80 = .ok (.getfield 74, 3) := by decide +kernel
theorem dX4_addSublease_83 : decode cX4_addSublease 83 = .ok (.invokevirtual 77, 3) := by decide +kernel
theorem dX4_addSublease_86 : decode cX4_addSublease 86 = .ok (.iload 6, 2) := by decide +kernel
theorem dX4_addSublease_88 : decode cX4_addSublease 88 = .ok (.ireturn, 1) := by decide +kernel
theorem dX4_leaseProperty_0 : decode cX4_leaseProperty 0 = .ok (.aload_n 0, 1) := by decide +kernel
theorem dX4_leaseProperty_1 : decode cX4_leaseProperty 1 = .ok (.iload_n 1, 1) := by decide +kernel
theorem dX4_leaseProperty_2 : decode cX4_leaseProperty 2 = .ok (.invokevirtual 35, 3) := by decide +kernel
theorem dX4_leaseProperty_5 : decode cX4_leaseProperty 5 = .ok (.astore_n 3, 1) := by decide +kernel
theorem dX4_leaseProperty_6 : decode cX4_leaseProperty 6 = .ok (.aload_n 3, 1) := by decide +kernel
theorem dX4_leaseProperty_7 : decode cX4_leaseProperty 7 = .ok (.ifnonnull 5, 3) := by decide +kernel
theorem dX4_leaseProperty_10 : decode cX4_leaseProperty 10 = .ok (.iconst (-1), 1) := by decide +kernel
theorem dX4_leaseProperty_11 : decode cX4_leaseProperty 11 = .ok (.ireturn, 1) := by decide +kernel
theorem dX4_leaseProperty_12 : decode cX4_leaseProperty 12 = .ok (.iload_n 2, 1) := by decide +kernel
theorem dX4_leaseProperty_13 : decode cX4_leaseProperty 13 = .ok (.tableswitch 98 0 7 #[47, 52, 57, 62, 67, 72, 79, 91], 47) := by decide +kernel
theorem dX4_leaseProperty_60 : decode cX4_leaseProperty 60 = .ok (.aload_n 3, 1) := by decide +kernel
theorem dX4_leaseProperty_61 : decode cX4_leaseProperty 61 = .ok (.getfield 81, 3) := by decide +kernel
theorem dX4_leaseProperty_64 : decode cX4_leaseProperty 64 = .ok (.ireturn, 1) := by decide +kernel
theorem dX4_leaseProperty_65 : decode cX4_leaseProperty 65 = .ok (.aload_n 3, 1) := by decide +kernel
theorem dX4_leaseProperty_66 : decode cX4_leaseProperty 66 = .ok (.getfield 84, 3) := by decide +kernel
theorem dX4_leaseProperty_69 : decode cX4_leaseProperty 69 = .ok (.ireturn, 1) := by decide +kernel
theorem dX4_leaseProperty_70 : decode cX4_leaseProperty 70 = .ok (.aload_n 3, 1) := by decide +kernel
theorem dX4_leaseProperty_71 : decode cX4_leaseProperty 71 = .ok (.getfield 66, 3) := by decide +kernel
theorem dX4_leaseProperty_74 : decode cX4_leaseProperty 74 = .ok (.ireturn, 1) := by decide +kernel
theorem dX4_leaseProperty_75 : decode cX4_leaseProperty 75 = .ok (.aload_n 3, 1) := by decide +kernel
theorem dX4_leaseProperty_76 : decode cX4_leaseProperty 76 = .ok (.getfield 85, 3) := by decide +kernel
theorem dX4_leaseProperty_79 : decode cX4_leaseProperty 79 = .ok (.ireturn, 1) := by decide +kernel
theorem dX4_leaseProperty_80 : decode cX4_leaseProperty 80 = .ok (.aload_n 3, 1) := by decide +kernel
theorem dX4_leaseProperty_81 : decode cX4_leaseProperty 81 = .ok (.getfield 88, 3) := by decide +kernel
theorem dX4_leaseProperty_84 : decode cX4_leaseProperty 84 = .ok (.ireturn, 1) := by decide +kernel
theorem dX4_leaseProperty_85 : decode cX4_leaseProperty 85 = .ok (.aload_n 0, 1) := by decide +kernel
theorem dX4_leaseProperty_86 : decode cX4_leaseProperty 86 = .ok (.iload_n 1, 1) := by decide +kernel
theorem dX4_leaseProperty_87 : decode cX4_leaseProperty 87 = .ok (.iconst 5, 1) := by decide +kernel
theorem dX4_leaseProperty_88 : decode cX4_leaseProperty 88 = .ok (.invokevirtual 91, 3) := by decide +kernel
theorem dX4_leaseProperty_91 : decode cX4_leaseProperty 91 = .ok (.ireturn, 1) := by decide +kernel
theorem dX4_leaseProperty_92 : decode cX4_leaseProperty 92 = .ok (.aload_n 3, 1) := by decide +kernel
theorem dX4_leaseProperty_93 : decode cX4_leaseProperty 93 = .ok (.getfield 85, 3) := by decide +kernel
theorem dX4_leaseProperty_96 : decode cX4_leaseProperty 96 = .ok (.aload_n 0, 1) := by decide +kernel
theorem dX4_leaseProperty_97 : decode cX4_leaseProperty 97 = .ok (.iload_n 1, 1) := by decide +kernel
theorem dX4_leaseProperty_98 : decode cX4_leaseProperty 98 = .ok (.iconst 5, 1) := by decide +kernel
theorem dX4_leaseProperty_99 : decode cX4_leaseProperty 99 = .ok (.invokevirtual 91, 3) := by decide +kernel
theorem dX4_leaseProperty_102 : decode cX4_leaseProperty 102 = .ok (.isub, 1) := by decide +kernel
theorem dX4_leaseProperty_103 : decode cX4_leaseProperty 103 = .ok (.ireturn, 1) := by decide +kernel
theorem dX4_leaseProperty_104 : decode cX4_leaseProperty 104 = .ok (.aload_n 0, 1) := by decide +kernel
theorem dX4_leaseProperty_105 : decode cX4_leaseProperty 105 = .ok (.iload_n 1, 1) := by decide +kernel
theorem dX4_leaseProperty_106 : decode cX4_leaseProperty 106 = .ok (.iconst 1, 1) := by decide +kernel
theorem dX4_leaseProperty_107 : decode cX4_leaseProperty 107 = .ok (.invokevirtual 91, 3) := by decide +kernel
theorem dX4_leaseProperty_110 : decode cX4_leaseProperty 110 = .ok (.ireturn, 1) := by decide +kernel
theorem dX4_leaseProperty_111 : decode cX4_leaseProperty 111 = .ok (.aload_n 0, 1) := by decide +kernel
theorem dX4_leaseProperty_112 : decode cX4_leaseProperty 112 = .ok (.iload_n 1, 1) := by decide +kernel
theorem dX4_leaseProperty_113 : decode cX4_leaseProperty 113 = .ok (.invokevirtual 95, 3) := by decide +kernel
theorem dX4_leaseProperty_116 : decode cX4_leaseProperty 116 = .ok (.ireturn, 1) := by decide +kernel
theorem dX4_subleaseProperty_0 : decode cX4_subleaseProperty 0 = .ok (.aload_n 0, 1) := by decide +kernel
theorem dX4_subleaseProperty_1 : decode cX4_subleaseProperty 1 = .ok (.iload_n 1, 1) := by decide +kernel
theorem dX4_subleaseProperty_2 : decode cX4_subleaseProperty 2 = .ok (.invokevirtual 43, 3) := by decide +kernel
theorem dX4_subleaseProperty_5 : decode cX4_subleaseProperty 5 = .ok (.astore_n 3, 1) := by decide +kernel
theorem dX4_subleaseProperty_6 : decode cX4_subleaseProperty 6 = .ok (.aload_n 3, 1) := by decide +kernel
theorem dX4_subleaseProperty_7 : decode cX4_subleaseProperty 7 = .ok (.ifnonnull 7, 3) := by decide +kernel
theorem dX4_subleaseProperty_10 : decode cX4_subleaseProperty 10 = .ok (.iconst (-1), 1) := by decide +kernel
theorem dX4_subleaseProperty_11 : decode cX4_subleaseProperty 11 = .ok (.goto 8, 3) := by decide +kernel
theorem dX4_subleaseProperty_14 : decode cX4_subleaseProperty 14 = .ok (.aload_n 3, 1) := by decide +kernel
theorem dX4_subleaseProperty_15 : decode cX4_subleaseProperty 15 = .ok (.iload_n 2, 1) := by decide +kernel
theorem dX4_subleaseProperty_16 : decode cX4_subleaseProperty 16 = .ok (.invokevirtual 98, 3) := by decide +kernel
theorem dX4_subleaseProperty_19 : decode cX4_subleaseProperty 19 = .ok (.ireturn, 1) := by decide +kernel
theorem dX4_canSublet_0 : decode cX4_canSublet 0 = .ok (.aload_n 0, 1) := by decide +kernel
theorem dX4_canSublet_1 : decode cX4_canSublet 1 = .ok (.iload_n 1, 1) := by decide +kernel
theorem dX4_canSublet_2 : decode cX4_canSublet 2 = .ok (.invokevirtual 35, 3) := by decide +kernel
theorem dX4_canSublet_5 : decode cX4_canSublet 5 = .ok (.astore 4, 2) := by decide +kernel
theorem dX4_canSublet_7 : decode cX4_canSublet 7 = .ok (.aload 4, 2) := by decide +kernel
theorem dX4_canSublet_9 : decode cX4_canSublet 9 = .ok (.ifnull 39, 3) := by decide +kernel
theorem dX4_canSublet_12 : decode cX4_canSublet 12 = .ok (.iload_n 3, 1) := by decide +kernel
theorem dX4_canSublet_13 : decode cX4_canSublet 13 = .ok (.aload 4, 2) := by decide +kernel
theorem dX4_canSublet_15 : decode cX4_canSublet 15 = .ok (.getfield 84, 3) := by decide +kernel
theorem dX4_canSublet_18 : decode cX4_canSublet 18 = .ok (.if_icmp .gt 30, 3) := by decide +kernel
theorem dX4_canSublet_21 : decode cX4_canSublet 21 = .ok (.aload_n 0, 1) := by decide +kernel
theorem dX4_canSublet_22 : decode cX4_canSublet 22 = .ok (.getfield 29, 3) := by decide +kernel
theorem dX4_canSublet_25 : decode cX4_canSublet 25 = .ok (.bipush 12, 2) := by decide +kernel
theorem dX4_canSublet_27 : decode cX4_canSublet 27 = .ok (.if_icmp .ge 21, 3) := by decide +kernel
theorem dX4_canSublet_30 : decode cX4_canSublet 30 = .ok (.aload_n 0, 1) := by decide +kernel
theorem dX4_canSublet_31 : decode cX4_canSublet 31 = .ok (.iload_n 1, 1) := by decide +kernel
theorem dX4_canSublet_32 : decode cX4_canSublet 32 = .ok (.iconst 1, 1) := by decide +kernel
theorem dX4_canSublet_33 : decode cX4_canSublet 33 = .ok (.invokevirtual 91, 3) := by decide +kernel
theorem dX4_canSublet_36 : decode cX4_canSublet 36 = .ok (.iload_n 2, 1) := by decide +kernel
theorem dX4_canSublet_37 : decode cX4_canSublet 37 = .ok (.iadd, 1) := by decide +kernel
theorem dX4_canSublet_38 : decode cX4_canSublet 38 = .ok (.sipush 1000, 3) := by decide +kernel
theorem dX4_canSublet_41 : decode cX4_canSublet 41 = .ok (.if_icmp .gt 7, 3) := by decide +kernel
theorem dX4_canSublet_44 : decode cX4_canSublet 44 = .ok (.iconst 1, 1) := by decide +kernel
theorem dX4_canSublet_45 : decode cX4_canSublet 45 = .ok (.goto 4, 3) := by decide +kernel
theorem dX4_canSublet_48 : decode cX4_canSublet 48 = .ok (.iconst 0, 1) := by decide +kernel
theorem dX4_canSublet_49 : decode cX4_canSublet 49 = .ok (.ireturn, 1) := by decide +kernel
theorem dX4_passPeriods_0 : decode cX4_passPeriods 0 = .ok (.aload_n 0, 1) := by decide +kernel
theorem dX4_passPeriods_1 : decode cX4_passPeriods 1 = .ok (.dup, 1) := by decide +kernel
theorem dX4_passPeriods_2 : decode cX4_passPeriods 2 = .ok (.getfield 32, 3) := by decide +kernel
theorem dX4_passPeriods_5 : decode cX4_passPeriods 5 = .ok (.iload_n 1, 1) := by decide +kernel
theorem dX4_passPeriods_6 : decode cX4_passPeriods 6 = .ok (.iadd, 1) := by decide +kernel
theorem dX4_passPeriods_7 : decode cX4_passPeriods 7 = .ok (.putfield 32, 3) := by decide +kernel
theorem dX4_passPeriods_10 : decode cX4_passPeriods 10 = .ok (.iconst 0, 1) := by decide +kernel
theorem dX4_passPeriods_11 : decode cX4_passPeriods 11 = .ok (.istore_n 2, 1) := by decide +kernel
theorem dX4_passPeriods_12 : decode cX4_passPeriods 12 = .ok (.iload_n 2, 1) := by decide +kernel
theorem dX4_passPeriods_13 : decode cX4_passPeriods 13 = .ok (.aload_n 0, 1) := by decide +kernel
theorem dX4_passPeriods_14 : decode cX4_passPeriods 14 = .ok (.getfield 25, 3) := by decide +kernel
theorem dX4_passPeriods_17 : decode cX4_passPeriods 17 = .ok (.if_icmp .ge 24, 3) := by decide +kernel
theorem dX4_passPeriods_20 : decode cX4_passPeriods 20 = .ok (.aload_n 0, 1) := by decide +kernel
theorem dX4_passPeriods_21 : decode cX4_passPeriods 21 = .ok (.iload_n 2, 1) := by decide +kernel
theorem dX4_passPeriods_22 : decode cX4_passPeriods 22 = .ok (.invokevirtual 35, 3) := by decide +kernel
theorem dX4_passPeriods_25 : decode cX4_passPeriods 25 = .ok (.astore_n 3, 1) := by decide +kernel
theorem dX4_passPeriods_26 : decode cX4_passPeriods 26 = .ok (.aload_n 3, 1) := by decide +kernel
theorem dX4_passPeriods_27 : decode cX4_passPeriods 27 = .ok (.ifnull 8, 3) := by decide +kernel
theorem dX4_passPeriods_30 : decode cX4_passPeriods 30 = .ok (.aload_n 3, 1) := by decide +kernel
theorem dX4_passPeriods_31 : decode cX4_passPeriods 31 = .ok (.iload_n 1, 1) := by decide +kernel
theorem dX4_passPeriods_32 : decode cX4_passPeriods 32 = .ok (.invokevirtual 101, 3) := by decide +kernel
theorem dX4_passPeriods_35 : decode cX4_passPeriods 35 = .ok (.iinc 2 1, 3) := by decide +kernel
theorem dX4_passPeriods_38 : decode cX4_passPeriods 38 = .ok (.goto (-26), 3) := by decide +kernel
theorem dX4_passPeriods_41 : decode cX4_passPeriods 41 = .ok (.iconst 0, 1) := by decide +kernel
theorem dX4_passPeriods_42 : decode cX4_passPeriods 42 = .ok (.istore_n 2, 1) := by decide +kernel
theorem dX4_passPeriods_43 : decode cX4_passPeriods 43 = .ok (.iload_n 2, 1) := by decide +kernel
theorem dX4_passPeriods_44 : decode cX4_passPeriods 44 = .ok (.aload_n 0, 1) := by decide +kernel
theorem dX4_passPeriods_45 : decode cX4_passPeriods 45 = .ok (.getfield 29, 3) := by decide +kernel
theorem dX4_passPeriods_48 : decode cX4_passPeriods 48 = .ok (.if_icmp .ge 49, 3) := by decide +kernel
theorem dX4_passPeriods_51 : decode cX4_passPeriods 51 = .ok (.aload_n 0, 1) := by decide +kernel
theorem dX4_passPeriods_52 : decode cX4_passPeriods 52 = .ok (.iload_n 2, 1) := by decide +kernel
theorem dX4_passPeriods_53 : decode cX4_passPeriods 53 = .ok (.invokevirtual 43, 3) := by decide +kernel
theorem dX4_passPeriods_56 : decode cX4_passPeriods 56 = .ok (.astore_n 3, 1) := by decide +kernel
theorem dX4_passPeriods_57 : decode cX4_passPeriods 57 = .ok (.aload_n 3, 1) := by decide +kernel
theorem dX4_passPeriods_58 : decode cX4_passPeriods 58 = .ok (.ifnonnull 7, 3) := by decide +kernel
theorem dX4_passPeriods_61 : decode cX4_passPeriods 61 = .ok (.aconst_null, 1) := by decide +kernel
theorem dX4_passPeriods_62 : decode cX4_passPeriods 62 = .ok (.goto 11, 3) := by decide +kernel
theorem dX4_passPeriods_65 : decode cX4_passPeriods 65 = .ok (.aload_n 0, 1) := by decide +kernel
theorem dX4_passPeriods_66 : decode cX4_passPeriods 66 = .ok (.aload_n 3, 1) := by decide +kernel
theorem dX4_passPeriods_67 : decode cX4_passPeriods 67 = .ok (.getfield 54, 3) := by decide +kernel
theorem dX4_passPeriods_70 : decode cX4_passPeriods 70 = .ok (.invokevirtual 35, 3) := by decide +kernel
theorem dX4_passPeriods_73 : decode cX4_passPeriods 73 = .ok (.astore 4, 2) := by decide +kernel
theorem dX4_passPeriods_75 : decode cX4_passPeriods 75 = .ok (.aload_n 3, 1) := by decide +kernel
theorem dX4_passPeriods_76 : decode cX4_passPeriods 76 = .ok (.ifnull 15, 3) := by decide +kernel
theorem dX4_passPeriods_79 : decode cX4_passPeriods 79 = .ok (.aload 4, 2) := by decide +kernel
theorem dX4_passPeriods_81 : decode cX4_passPeriods 81 = .ok (.ifnull 10, 3) := by decide +kernel
theorem dX4_passPeriods_84 : decode cX4_passPeriods 84 = .ok (.aload_n 3, 1) := by decide +kernel
theorem dX4_passPeriods_85 : decode cX4_passPeriods 85 = .ok (.iload_n 1, 1) := by decide +kernel
theorem dX4_passPeriods_86 : decode cX4_passPeriods 86 = .ok (.aload 4, 2) := by decide +kernel
theorem dX4_passPeriods_88 : decode cX4_passPeriods 88 = .ok (.invokevirtual 105, 3) := by decide +kernel
theorem dX4_passPeriods_91 : decode cX4_passPeriods 91 = .ok (.iinc 2 1, 3) := by decide +kernel
theorem dX4_passPeriods_94 : decode cX4_passPeriods 94 = .ok (.goto (-51), 3) := by decide +kernel
theorem dX4_passPeriods_97 : decode cX4_passPeriods 97 = .ok (.return_, 1) := by decide +kernel
theorem dX4_cutOff_0 : decode cX4_cutOff 0 = .ok (.aload_n 2, 1) := by decide +kernel
theorem dX4_cutOff_1 : decode cX4_cutOff 1 = .ok (.bipush 14, 2) := by decide +kernel
theorem dX4_cutOff_3 : decode cX4_cutOff 3 = .ok (.aload_n 0, 1) := by decide +kernel
theorem dX4_cutOff_4 : decode cX4_cutOff 4 = .ok (.iload_n 1, 1) := by decide +kernel
theorem dX4_cutOff_5 : decode cX4_cutOff 5 = .ok (.aload_n 2, 1) := by decide +kernel
theorem dX4_cutOff_6 : decode cX4_cutOff 6 = .ok (.getfield 84, 3) := by decide +kernel
theorem dX4_cutOff_9 : decode cX4_cutOff 9 = .ok (.invokevirtual 108, 3) := by decide +kernel
theorem dX4_cutOff_12 : decode cX4_cutOff 12 = .ok (.invokevirtual 111, 3) := by decide +kernel
theorem dX4_cutOff_15 : decode cX4_cutOff 15 = .ok (.iconst 0, 1) := by decide +kernel
theorem dX4_cutOff_16 : decode cX4_cutOff 16 = .ok (.istore_n 3, 1) := by decide +kernel
theorem dX4_cutOff_17 : decode cX4_cutOff 17 = .ok (.iload_n 3, 1) := by decide +kernel
theorem dX4_cutOff_18 : decode cX4_cutOff 18 = .ok (.aload_n 0, 1) := by decide +kernel
theorem dX4_cutOff_19 : decode cX4_cutOff 19 = .ok (.getfield 29, 3) := by decide +kernel
theorem dX4_cutOff_22 : decode cX4_cutOff 22 = .ok (.if_icmp .ge 62, 3) := by decide +kernel
theorem dX4_cutOff_25 : decode cX4_cutOff 25 = .ok (.aload_n 0, 1) := by decide +kernel
theorem dX4_cutOff_26 : decode cX4_cutOff 26 = .ok (.iload_n 3, 1) := by decide +kernel
theorem dX4_cutOff_27 : decode cX4_cutOff 27 = .ok (.invokevirtual 43, 3) := by decide +kernel
theorem dX4_cutOff_30 : decode cX4_cutOff 30 = .ok (.astore 4, 2) := by decide +kernel
theorem dX4_cutOff_32 : decode cX4_cutOff 32 = .ok (.aload 4, 2) := by decide +kernel
theorem dX4_cutOff_34 : decode cX4_cutOff 34 = .ok (.ifnull 44, 3) := by decide +kernel
theorem dX4_cutOff_37 : decode cX4_cutOff 37 = .ok (.aload 4, 2) := by decide +kernel
theorem dX4_cutOff_39 : decode cX4_cutOff 39 = .ok (.iload_n 1, 1) := by decide +kernel
theorem dX4_cutOff_40 : decode cX4_cutOff 40 = .ok (.invokevirtual 114, 3) := by decide +kernel
theorem dX4_cutOff_43 : decode cX4_cutOff 43 = .ok (.ifCond .eq 35, 3) := by decide +kernel
theorem dX4_cutOff_46 : decode cX4_cutOff 46 = .ok (.aload 4, 2) := by decide +kernel
theorem dX4_cutOff_48 : decode cX4_cutOff 48 = .ok (.aload 4, 2) := by decide +kernel
theorem dX4_cutOff_50 : decode cX4_cutOff 50 = .ok (.getfield 63, 3) := by decide +kernel
theorem dX4_cutOff_53 : decode cX4_cutOff 53 = .ok (.aload_n 2, 1) := by decide +kernel
theorem dX4_cutOff_54 : decode cX4_cutOff 54 = .ok (.getfield 84, 3) := by decide +kernel
theorem dX4_cutOff_57 : decode cX4_cutOff 57 = .ok (.invokestatic 118, 3) := by decide +kernel
theorem dX4_cutOff_60 : decode cX4_cutOff 60 = .ok (.putfield 63, 3) := by decide +kernel
theorem dX4_cutOff_63 : decode cX4_cutOff 63 = .ok (.aload 4, 2) := by decide +kernel
theorem dX4_cutOff_65 : decode cX4_cutOff 65 = .ok (.aload 4, 2) := by decide +kernel
theorem dX4_cutOff_67 : decode cX4_cutOff 67 = .ok (.aload 4, 2) := by decide +kernel
theorem dX4_cutOff_69 : decode cX4_cutOff 69 = .ok (.getfield 63, 3) := by decide +kernel
theorem dX4_cutOff_72 : decode cX4_cutOff 72 = .ok (.invokevirtual 70, 3) := by decide +kernel
theorem dX4_cutOff_75 : decode cX4_cutOff 75 = .ok (.putfield 74, 3) := by decide +kernel
theorem dX4_cutOff_78 : decode cX4_cutOff 78 = .ok (.iinc 3 1, 3) := by decide +kernel
theorem dX4_cutOff_81 : decode cX4_cutOff 81 = .ok (.goto (-64), 3) := by decide +kernel
theorem dX4_cutOff_84 : decode cX4_cutOff 84 = .ok (.return_, 1) := by decide +kernel
theorem dX4_lossByCutOff_0 : decode cX4_lossByCutOff 0 = .ok (.iconst 0, 1) := by decide +kernel
theorem dX4_lossByCutOff_1 : decode cX4_lossByCutOff 1 = .ok (.istore_n 3, 1) := by decide +kernel
theorem dX4_lossByCutOff_2 : decode cX4_lossByCutOff 2 = .ok (.iconst 0, 1) := by decide +kernel
theorem dX4_lossByCutOff_3 : decode cX4_lossByCutOff 3 = .ok (.istore 4, 2) := by decide +kernel
theorem dX4_lossByCutOff_5 : decode cX4_lossByCutOff 5 = .ok (.iload 4, 2) := by decide +kernel
theorem dX4_lossByCutOff_7 : decode cX4_lossByCutOff 7 = .ok (.aload_n 0, 1) := by decide +kernel
theorem dX4_lossByCutOff_8 : decode cX4_lossByCutOff 8 = .ok (.getfield 29, 3) := by decide +kernel
theorem dX4_lossByCutOff_11 : decode cX4_lossByCutOff 11 = .ok (.if_icmp .ge 40, 3) := by decide +kernel
theorem dX4_lossByCutOff_14 : decode cX4_lossByCutOff 14 = .ok (.aload_n 0, 1) := by decide +kernel
theorem dX4_lossByCutOff_15 : decode cX4_lossByCutOff 15 = .ok (.iload 4, 2) := by decide +kernel
theorem dX4_lossByCutOff_17 : decode cX4_lossByCutOff 17 = .ok (.invokevirtual 43, 3) := by decide +kernel
theorem dX4_lossByCutOff_20 : decode cX4_lossByCutOff 20 = .ok (.astore 5, 2) := by decide +kernel
theorem dX4_lossByCutOff_22 : decode cX4_lossByCutOff 22 = .ok (.aload 5, 2) := by decide +kernel
theorem dX4_lossByCutOff_24 : decode cX4_lossByCutOff 24 = .ok (.ifnull 21, 3) := by decide +kernel
theorem dX4_lossByCutOff_27 : decode cX4_lossByCutOff 27 = .ok (.aload 5, 2) := by decide +kernel
theorem dX4_lossByCutOff_29 : decode cX4_lossByCutOff 29 = .ok (.iload_n 1, 1) := by decide +kernel
theorem dX4_lossByCutOff_30 : decode cX4_lossByCutOff 30 = .ok (.invokevirtual 114, 3) := by decide +kernel
theorem dX4_lossByCutOff_33 : decode cX4_lossByCutOff 33 = .ok (.ifCond .eq 12, 3) := by decide +kernel
theorem dX4_lossByCutOff_36 : decode cX4_lossByCutOff 36 = .ok (.iload_n 3, 1) := by decide +kernel
theorem dX4_lossByCutOff_37 : decode cX4_lossByCutOff 37 = .ok (.aload 5, 2) := by decide +kernel
theorem dX4_lossByCutOff_39 : decode cX4_lossByCutOff 39 = .ok (.iload_n 2, 1) := by decide +kernel
theorem dX4_lossByCutOff_40 : decode cX4_lossByCutOff 40 = .ok (.invokevirtual 123, 3) := by decide +kernel
theorem dX4_lossByCutOff_43 : decode cX4_lossByCutOff 43 = .ok (.iadd, 1) := by decide +kernel
theorem dX4_lossByCutOff_44 : decode cX4_lossByCutOff 44 = .ok (.istore_n 3, 1) := by decide +kernel
theorem dX4_lossByCutOff_45 : decode cX4_lossByCutOff 45 = .ok (.iinc 4 1, 3) := by decide +kernel
theorem dX4_lossByCutOff_48 : decode cX4_lossByCutOff 48 = .ok (.goto (-43), 3) := by decide +kernel
theorem dX4_lossByCutOff_51 : decode cX4_lossByCutOff 51 = .ok (.iload_n 3, 1) := by decide +kernel
theorem dX4_lossByCutOff_52 : decode cX4_lossByCutOff 52 = .ok (.ireturn, 1) := by decide +kernel
theorem dX4_receivablesBehind_0 : decode cX4_receivablesBehind 0 = .ok (.iconst 0, 1) := by decide +kernel
theorem dX4_receivablesBehind_1 : decode cX4_receivablesBehind 1 = .ok (.istore_n 3, 1) := by decide +kernel
theorem dX4_receivablesBehind_2 : decode cX4_receivablesBehind 2 = .ok (.iconst 0, 1) := by decide +kernel
theorem dX4_receivablesBehind_3 : decode cX4_receivablesBehind 3 = .ok (.istore 4, 2) := by decide +kernel
theorem dX4_receivablesBehind_5 : decode cX4_receivablesBehind 5 = .ok (.iload 4, 2) := by decide +kernel
theorem dX4_receivablesBehind_7 : decode cX4_receivablesBehind 7 = .ok (.aload_n 0, 1) := by decide +kernel
theorem dX4_receivablesBehind_8 : decode cX4_receivablesBehind 8 = .ok (.getfield 29, 3) := by decide +kernel
theorem dX4_receivablesBehind_11 : decode cX4_receivablesBehind 11 = .ok (.if_icmp .ge 46, 3) := by decide +kernel
theorem dX4_receivablesBehind_14 : decode cX4_receivablesBehind 14 = .ok (.aload_n 0, 1) := by decide +kernel
theorem dX4_receivablesBehind_15 : decode cX4_receivablesBehind 15 = .ok (.iload 4, 2) := by decide +kernel
theorem dX4_receivablesBehind_17 : decode cX4_receivablesBehind 17 = .ok (.invokevirtual 43, 3) := by decide +kernel
theorem dX4_receivablesBehind_20 : decode cX4_receivablesBehind 20 = .ok (.astore 5, 2) := by decide +kernel
theorem dX4_receivablesBehind_22 : decode cX4_receivablesBehind 22 = .ok (.aload 5, 2) := by decide +kernel
theorem dX4_receivablesBehind_24 : decode cX4_receivablesBehind 24 = .ok (.ifnull 27, 3) := by decide +kernel
theorem dX4_receivablesBehind_27 : decode cX4_receivablesBehind 27 = .ok (.aload 5, 2) := by decide +kernel
theorem dX4_receivablesBehind_29 : decode cX4_receivablesBehind 29 = .ok (.iload_n 1, 1) := by decide +kernel
theorem dX4_receivablesBehind_30 : decode cX4_receivablesBehind 30 = .ok (.invokevirtual 114, 3) := by decide +kernel
theorem dX4_receivablesBehind_33 : decode cX4_receivablesBehind 33 = .ok (.ifCond .eq 18, 3) := by decide +kernel
theorem dX4_receivablesBehind_36 : decode cX4_receivablesBehind 36 = .ok (.iload_n 3, 1) := by decide +kernel
theorem dX4_receivablesBehind_37 : decode cX4_receivablesBehind 37 = .ok (.aload 5, 2) := by decide +kernel
theorem dX4_receivablesBehind_39 : decode cX4_receivablesBehind 39 = .ok (.aload 5, 2) := by decide +kernel
theorem dX4_receivablesBehind_41 : decode cX4_receivablesBehind 41 = .ok (.getfield 63, 3) := by decide +kernel
theorem dX4_receivablesBehind_44 : decode cX4_receivablesBehind 44 = .ok (.iload_n 2, 1) := by decide +kernel
theorem dX4_receivablesBehind_45 : decode cX4_receivablesBehind 45 = .ok (.isub, 1) := by decide +kernel
theorem dX4_receivablesBehind_46 : decode cX4_receivablesBehind 46 = .ok (.invokevirtual 70, 3) := by decide +kernel
theorem dX4_receivablesBehind_49 : decode cX4_receivablesBehind 49 = .ok (.iadd, 1) := by decide +kernel
theorem dX4_receivablesBehind_50 : decode cX4_receivablesBehind 50 = .ok (.istore_n 3, 1) := by decide +kernel
theorem dX4_receivablesBehind_51 : decode cX4_receivablesBehind 51 = .ok (.iinc 4 1, 3) := by decide +kernel
theorem dX4_receivablesBehind_54 : decode cX4_receivablesBehind 54 = .ok (.goto (-49), 3) := by decide +kernel
theorem dX4_receivablesBehind_57 : decode cX4_receivablesBehind 57 = .ok (.iload_n 3, 1) := by decide +kernel
theorem dX4_receivablesBehind_58 : decode cX4_receivablesBehind 58 = .ok (.ireturn, 1) := by decide +kernel
theorem dX4_sumOfSubleases_0 : decode cX4_sumOfSubleases 0 = .ok (.iconst 0, 1) := by decide +kernel
theorem dX4_sumOfSubleases_1 : decode cX4_sumOfSubleases 1 = .ok (.istore_n 3, 1) := by decide +kernel
theorem dX4_sumOfSubleases_2 : decode cX4_sumOfSubleases 2 = .ok (.iconst 0, 1) := by decide +kernel
theorem dX4_sumOfSubleases_3 : decode cX4_sumOfSubleases 3 = .ok (.istore 4, 2) := by decide +kernel
theorem dX4_sumOfSubleases_5 : decode cX4_sumOfSubleases 5 = .ok (.iload 4, 2) := by decide +kernel
theorem dX4_sumOfSubleases_7 : decode cX4_sumOfSubleases 7 = .ok (.aload_n 0, 1) := by decide +kernel
theorem dX4_sumOfSubleases_8 : decode cX4_sumOfSubleases 8 = .ok (.getfield 29, 3) := by decide +kernel
theorem dX4_sumOfSubleases_11 : decode cX4_sumOfSubleases 11 = .ok (.if_icmp .ge 40, 3) := by decide +kernel
theorem dX4_sumOfSubleases_14 : decode cX4_sumOfSubleases 14 = .ok (.aload_n 0, 1) := by decide +kernel
theorem dX4_sumOfSubleases_15 : decode cX4_sumOfSubleases 15 = .ok (.iload 4, 2) := by decide +kernel
theorem dX4_sumOfSubleases_17 : decode cX4_sumOfSubleases 17 = .ok (.invokevirtual 43, 3) := by decide +kernel
theorem dX4_sumOfSubleases_20 : decode cX4_sumOfSubleases 20 = .ok (.astore 5, 2) := by decide +kernel
theorem dX4_sumOfSubleases_22 : decode cX4_sumOfSubleases 22 = .ok (.aload 5, 2) := by decide +kernel
theorem dX4_sumOfSubleases_24 : decode cX4_sumOfSubleases 24 = .ok (.ifnull 21, 3) := by decide +kernel
theorem dX4_sumOfSubleases_27 : decode cX4_sumOfSubleases 27 = .ok (.aload 5, 2) := by decide +kernel
theorem dX4_sumOfSubleases_29 : decode cX4_sumOfSubleases 29 = .ok (.iload_n 1, 1) := by decide +kernel
theorem dX4_sumOfSubleases_30 : decode cX4_sumOfSubleases 30 = .ok (.invokevirtual 114, 3) := by decide +kernel
theorem dX4_sumOfSubleases_33 : decode cX4_sumOfSubleases 33 = .ok (.ifCond .eq 12, 3) := by decide +kernel
theorem dX4_sumOfSubleases_36 : decode cX4_sumOfSubleases 36 = .ok (.iload_n 3, 1) := by decide +kernel
theorem dX4_sumOfSubleases_37 : decode cX4_sumOfSubleases 37 = .ok (.aload 5, 2) := by decide +kernel
theorem dX4_sumOfSubleases_39 : decode cX4_sumOfSubleases 39 = .ok (.iload_n 2, 1) := by decide +kernel
theorem dX4_sumOfSubleases_40 : decode cX4_sumOfSubleases 40 = .ok (.invokevirtual 98, 3) := by decide +kernel
theorem dX4_sumOfSubleases_43 : decode cX4_sumOfSubleases 43 = .ok (.iadd, 1) := by decide +kernel
theorem dX4_sumOfSubleases_44 : decode cX4_sumOfSubleases 44 = .ok (.istore_n 3, 1) := by decide +kernel
theorem dX4_sumOfSubleases_45 : decode cX4_sumOfSubleases 45 = .ok (.iinc 4 1, 3) := by decide +kernel
theorem dX4_sumOfSubleases_48 : decode cX4_sumOfSubleases 48 = .ok (.goto (-43), 3) := by decide +kernel
theorem dX4_sumOfSubleases_51 : decode cX4_sumOfSubleases 51 = .ok (.iload_n 3, 1) := by decide +kernel
theorem dX4_sumOfSubleases_52 : decode cX4_sumOfSubleases 52 = .ok (.ireturn, 1) := by decide +kernel
theorem dX4_runningOf_0 : decode cX4_runningOf 0 = .ok (.iconst 0, 1) := by decide +kernel
theorem dX4_runningOf_1 : decode cX4_runningOf 1 = .ok (.istore_n 2, 1) := by decide +kernel
theorem dX4_runningOf_2 : decode cX4_runningOf 2 = .ok (.iconst 0, 1) := by decide +kernel
theorem dX4_runningOf_3 : decode cX4_runningOf 3 = .ok (.istore_n 3, 1) := by decide +kernel
theorem dX4_runningOf_4 : decode cX4_runningOf 4 = .ok (.iload_n 3, 1) := by decide +kernel
theorem dX4_runningOf_5 : decode cX4_runningOf 5 = .ok (.aload_n 0, 1) := by decide +kernel
theorem dX4_runningOf_6 : decode cX4_runningOf 6 = .ok (.getfield 29, 3) := by decide +kernel
theorem dX4_runningOf_9 : decode cX4_runningOf 9 = .ok (.if_icmp .ge 33, 3) := by decide +kernel
theorem dX4_runningOf_12 : decode cX4_runningOf 12 = .ok (.aload_n 0, 1) := by decide +kernel
theorem dX4_runningOf_13 : decode cX4_runningOf 13 = .ok (.iload_n 3, 1) := by decide +kernel
theorem dX4_runningOf_14 : decode cX4_runningOf 14 = .ok (.invokevirtual 43, 3) := by decide +kernel
theorem dX4_runningOf_17 : decode cX4_runningOf 17 = .ok (.astore 4, 2) := by decide +kernel
theorem dX4_runningOf_19 : decode cX4_runningOf 19 = .ok (.aload 4, 2) := by decide +kernel
theorem dX4_runningOf_21 : decode cX4_runningOf 21 = .ok (.ifnull 15, 3) := by decide +kernel
theorem dX4_runningOf_24 : decode cX4_runningOf 24 = .ok (.aload 4, 2) := by decide +kernel
theorem dX4_runningOf_26 : decode cX4_runningOf 26 = .ok (.iload_n 1, 1) := by decide +kernel
theorem dX4_runningOf_27 : decode cX4_runningOf 27 = .ok (.invokevirtual 114, 3) := by decide +kernel
theorem dX4_runningOf_30 : decode cX4_runningOf 30 = .ok (.ifCond .eq 6, 3) := by decide +kernel
theorem dX4_runningOf_33 : decode cX4_runningOf 33 = .ok (.iinc 2 1, 3) := by decide +kernel
theorem dX4_runningOf_36 : decode cX4_runningOf 36 = .ok (.iinc 3 1, 3) := by decide +kernel
theorem dX4_runningOf_39 : decode cX4_runningOf 39 = .ok (.goto (-35), 3) := by decide +kernel
theorem dX4_runningOf_42 : decode cX4_runningOf 42 = .ok (.iload_n 2, 1) := by decide +kernel
theorem dX4_runningOf_43 : decode cX4_runningOf 43 = .ok (.ireturn, 1) := by decide +kernel
theorem dX4_runningLeases_0 : decode cX4_runningLeases 0 = .ok (.iconst 0, 1) := by decide +kernel
theorem dX4_runningLeases_1 : decode cX4_runningLeases 1 = .ok (.istore_n 1, 1) := by decide +kernel
theorem dX4_runningLeases_2 : decode cX4_runningLeases 2 = .ok (.iconst 0, 1) := by decide +kernel
theorem dX4_runningLeases_3 : decode cX4_runningLeases 3 = .ok (.istore_n 2, 1) := by decide +kernel
theorem dX4_runningLeases_4 : decode cX4_runningLeases 4 = .ok (.iload_n 2, 1) := by decide +kernel
theorem dX4_runningLeases_5 : decode cX4_runningLeases 5 = .ok (.aload_n 0, 1) := by decide +kernel
theorem dX4_runningLeases_6 : decode cX4_runningLeases 6 = .ok (.getfield 25, 3) := by decide +kernel
theorem dX4_runningLeases_9 : decode cX4_runningLeases 9 = .ok (.if_icmp .ge 29, 3) := by decide +kernel
theorem dX4_runningLeases_12 : decode cX4_runningLeases 12 = .ok (.aload_n 0, 1) := by decide +kernel
theorem dX4_runningLeases_13 : decode cX4_runningLeases 13 = .ok (.iload_n 2, 1) := by decide +kernel
theorem dX4_runningLeases_14 : decode cX4_runningLeases 14 = .ok (.invokevirtual 35, 3) := by decide +kernel
theorem dX4_runningLeases_17 : decode cX4_runningLeases 17 = .ok (.astore_n 3, 1) := by decide +kernel
theorem dX4_runningLeases_18 : decode cX4_runningLeases 18 = .ok (.aload_n 3, 1) := by decide +kernel
theorem dX4_runningLeases_19 : decode cX4_runningLeases 19 = .ok (.ifnull 13, 3) := by decide +kernel
theorem dX4_runningLeases_22 : decode cX4_runningLeases 22 = .ok (.aload_n 3, 1) := by decide +kernel
theorem dX4_runningLeases_23 : decode cX4_runningLeases 23 = .ok (.invokevirtual 126, 3) := by decide +kernel
theorem dX4_runningLeases_26 : decode cX4_runningLeases 26 = .ok (.ifCond .eq 6, 3) := by decide +kernel
theorem dX4_runningLeases_29 : decode cX4_runningLeases 29 = .ok (.iinc 1 1, 3) := by decide +kernel
theorem dX4_runningLeases_32 : decode cX4_runningLeases 32 = .ok (.iinc 2 1, 3) := by decide +kernel
theorem dX4_runningLeases_35 : decode cX4_runningLeases 35 = .ok (.goto (-31), 3) := by decide +kernel
theorem dX4_runningLeases_38 : decode cX4_runningLeases 38 = .ok (.iload_n 1, 1) := by decide +kernel
theorem dX4_runningLeases_39 : decode cX4_runningLeases 39 = .ok (.ireturn, 1) := by decide +kernel
theorem dX4_sumOfLeases_0 : decode cX4_sumOfLeases 0 = .ok (.iconst 0, 1) := by decide +kernel
theorem dX4_sumOfLeases_1 : decode cX4_sumOfLeases 1 = .ok (.istore_n 2, 1) := by decide +kernel
theorem dX4_sumOfLeases_2 : decode cX4_sumOfLeases 2 = .ok (.iconst 0, 1) := by decide +kernel
theorem dX4_sumOfLeases_3 : decode cX4_sumOfLeases 3 = .ok (.istore_n 3, 1) := by decide +kernel
theorem dX4_sumOfLeases_4 : decode cX4_sumOfLeases 4 = .ok (.iload_n 3, 1) := by decide +kernel
theorem dX4_sumOfLeases_5 : decode cX4_sumOfLeases 5 = .ok (.aload_n 0, 1) := by decide +kernel
theorem dX4_sumOfLeases_6 : decode cX4_sumOfLeases 6 = .ok (.getfield 25, 3) := by decide +kernel
theorem dX4_sumOfLeases_9 : decode cX4_sumOfLeases 9 = .ok (.if_icmp .ge 18, 3) := by decide +kernel
theorem dX4_sumOfLeases_12 : decode cX4_sumOfLeases 12 = .ok (.iload_n 2, 1) := by decide +kernel
theorem dX4_sumOfLeases_13 : decode cX4_sumOfLeases 13 = .ok (.aload_n 0, 1) := by decide +kernel
theorem dX4_sumOfLeases_14 : decode cX4_sumOfLeases 14 = .ok (.iload_n 3, 1) := by decide +kernel
theorem dX4_sumOfLeases_15 : decode cX4_sumOfLeases 15 = .ok (.iload_n 1, 1) := by decide +kernel
theorem dX4_sumOfLeases_16 : decode cX4_sumOfLeases 16 = .ok (.invokevirtual 130, 3) := by decide +kernel
theorem dX4_sumOfLeases_19 : decode cX4_sumOfLeases 19 = .ok (.iadd, 1) := by decide +kernel
theorem dX4_sumOfLeases_20 : decode cX4_sumOfLeases 20 = .ok (.istore_n 2, 1) := by decide +kernel
theorem dX4_sumOfLeases_21 : decode cX4_sumOfLeases 21 = .ok (.iinc 3 1, 3) := by decide +kernel
theorem dX4_sumOfLeases_24 : decode cX4_sumOfLeases 24 = .ok (.goto (-20), 3) := by decide +kernel
theorem dX4_sumOfLeases_27 : decode cX4_sumOfLeases 27 = .ok (.iload_n 2, 1) := by decide +kernel
theorem dX4_sumOfLeases_28 : decode cX4_sumOfLeases 28 = .ok (.ireturn, 1) := by decide +kernel
theorem dX4_allProfits_0 : decode cX4_allProfits 0 = .ok (.iconst 0, 1) := by decide +kernel
theorem dX4_allProfits_1 : decode cX4_allProfits 1 = .ok (.istore_n 1, 1) := by decide +kernel
theorem dX4_allProfits_2 : decode cX4_allProfits 2 = .ok (.iconst 0, 1) := by decide +kernel
theorem dX4_allProfits_3 : decode cX4_allProfits 3 = .ok (.istore_n 2, 1) := by decide +kernel
theorem dX4_allProfits_4 : decode cX4_allProfits 4 = .ok (.iload_n 2, 1) := by decide +kernel
theorem dX4_allProfits_5 : decode cX4_allProfits 5 = .ok (.aload_n 0, 1) := by decide +kernel
theorem dX4_allProfits_6 : decode cX4_allProfits 6 = .ok (.getfield 25, 3) := by decide +kernel
theorem dX4_allProfits_9 : decode cX4_allProfits 9 = .ok (.if_icmp .ge 30, 3) := by decide +kernel
theorem dX4_allProfits_12 : decode cX4_allProfits 12 = .ok (.aload_n 0, 1) := by decide +kernel
theorem dX4_allProfits_13 : decode cX4_allProfits 13 = .ok (.iload_n 2, 1) := by decide +kernel
theorem dX4_allProfits_14 : decode cX4_allProfits 14 = .ok (.invokevirtual 35, 3) := by decide +kernel
theorem dX4_allProfits_17 : decode cX4_allProfits 17 = .ok (.astore_n 3, 1) := by decide +kernel
theorem dX4_allProfits_18 : decode cX4_allProfits 18 = .ok (.iload_n 1, 1) := by decide +kernel
theorem dX4_allProfits_19 : decode cX4_allProfits 19 = .ok (.aload_n 3, 1) := by decide +kernel
theorem dX4_allProfits_20 : decode cX4_allProfits 20 = .ok (.ifnonnull 7, 3) := by decide +kernel
theorem dX4_allProfits_23 : decode cX4_allProfits 23 = .ok (.iconst 0, 1) := by decide +kernel
theorem dX4_allProfits_24 : decode cX4_allProfits 24 = .ok (.goto 7, 3) := by decide +kernel
theorem dX4_allProfits_27 : decode cX4_allProfits 27 = .ok (.aload_n 3, 1) := by decide +kernel
theorem dX4_allProfits_28 : decode cX4_allProfits 28 = .ok (.invokevirtual 133, 3) := by decide +kernel
theorem dX4_allProfits_31 : decode cX4_allProfits 31 = .ok (.iadd, 1) := by decide +kernel
theorem dX4_allProfits_32 : decode cX4_allProfits 32 = .ok (.istore_n 1, 1) := by decide +kernel
theorem dX4_allProfits_33 : decode cX4_allProfits 33 = .ok (.iinc 2 1, 3) := by decide +kernel
theorem dX4_allProfits_36 : decode cX4_allProfits 36 = .ok (.goto (-32), 3) := by decide +kernel
theorem dX4_allProfits_39 : decode cX4_allProfits 39 = .ok (.iload_n 1, 1) := by decide +kernel
theorem dX4_allProfits_40 : decode cX4_allProfits 40 = .ok (.ireturn, 1) := by decide +kernel
theorem dX4_endingFirst_0 : decode cX4_endingFirst 0 = .ok (.iconst (-1), 1) := by decide +kernel
theorem dX4_endingFirst_1 : decode cX4_endingFirst 1 = .ok (.istore_n 1, 1) := by decide +kernel
theorem dX4_endingFirst_2 : decode cX4_endingFirst 2 = .ok (.bipush 61, 2) := by decide +kernel
theorem dX4_endingFirst_4 : decode cX4_endingFirst 4 = .ok (.istore_n 2, 1) := by decide +kernel
theorem dX4_endingFirst_5 : decode cX4_endingFirst 5 = .ok (.iconst 0, 1) := by decide +kernel
theorem dX4_endingFirst_6 : decode cX4_endingFirst 6 = .ok (.istore_n 3, 1) := by decide +kernel
theorem dX4_endingFirst_7 : decode cX4_endingFirst 7 = .ok (.iload_n 3, 1) := by decide +kernel
theorem dX4_endingFirst_8 : decode cX4_endingFirst 8 = .ok (.aload_n 0, 1) := by decide +kernel
theorem dX4_endingFirst_9 : decode cX4_endingFirst 9 = .ok (.getfield 25, 3) := by decide +kernel
theorem dX4_endingFirst_12 : decode cX4_endingFirst 12 = .ok (.if_icmp .ge 46, 3) := by decide +kernel
theorem dX4_endingFirst_15 : decode cX4_endingFirst 15 = .ok (.aload_n 0, 1) := by decide +kernel
theorem dX4_endingFirst_16 : decode cX4_endingFirst 16 = .ok (.iload_n 3, 1) := by decide +kernel
theorem dX4_endingFirst_17 : decode cX4_endingFirst 17 = .ok (.invokevirtual 35, 3) := by decide +kernel
theorem dX4_endingFirst_20 : decode cX4_endingFirst 20 = .ok (.astore 4, 2) := by decide +kernel
theorem dX4_endingFirst_22 : decode cX4_endingFirst 22 = .ok (.aload 4, 2) := by decide +kernel
theorem dX4_endingFirst_24 : decode cX4_endingFirst 24 = .ok (.ifnull 28, 3) := by decide +kernel
theorem dX4_endingFirst_27 : decode cX4_endingFirst 27 = .ok (.aload 4, 2) := by decide +kernel
theorem dX4_endingFirst_29 : decode cX4_endingFirst 29 = .ok (.invokevirtual 126, 3) := by decide +kernel
theorem dX4_endingFirst_32 : decode cX4_endingFirst 32 = .ok (.ifCond .eq 20, 3) := by decide +kernel
theorem dX4_endingFirst_35 : decode cX4_endingFirst 35 = .ok (.aload 4, 2) := by decide +kernel
theorem dX4_endingFirst_37 : decode cX4_endingFirst 37 = .ok (.getfield 84, 3) := by decide +kernel
theorem dX4_endingFirst_40 : decode cX4_endingFirst 40 = .ok (.iload_n 2, 1) := by decide +kernel
theorem dX4_endingFirst_41 : decode cX4_endingFirst 41 = .ok (.if_icmp .ge 11, 3) := by decide +kernel
theorem dX4_endingFirst_44 : decode cX4_endingFirst 44 = .ok (.iload_n 3, 1) := by decide +kernel
theorem dX4_endingFirst_45 : decode cX4_endingFirst 45 = .ok (.istore_n 1, 1) := by decide +kernel
theorem dX4_endingFirst_46 : decode cX4_endingFirst 46 = .ok (.aload 4, 2) := by decide +kernel
theorem dX4_endingFirst_48 : decode cX4_endingFirst 48 = .ok (.getfield 84, 3) := by decide +kernel
theorem dX4_endingFirst_51 : decode cX4_endingFirst 51 = .ok (.istore_n 2, 1) := by decide +kernel
theorem dX4_endingFirst_52 : decode cX4_endingFirst 52 = .ok (.iinc 3 1, 3) := by decide +kernel
theorem dX4_endingFirst_55 : decode cX4_endingFirst 55 = .ok (.goto (-48), 3) := by decide +kernel
theorem dX4_endingFirst_58 : decode cX4_endingFirst 58 = .ok (.iload_n 1, 1) := by decide +kernel
theorem dX4_endingFirst_59 : decode cX4_endingFirst 59 = .ok (.ireturn, 1) := by decide +kernel
theorem dX5_init_0 : decode cX5_init 0 = .ok (.aload_n 0, 1) := by decide +kernel
theorem dX5_init_1 : decode cX5_init 1 = .ok (.invokespecial 3, 3) := by decide +kernel
theorem dX5_init_4 : decode cX5_init 4 = .ok (.return_, 1) := by decide +kernel
theorem dX5_copyFrom_0 : decode cX5_copyFrom 0 = .ok (.aload_n 0, 1) := by decide +kernel
theorem dX5_copyFrom_1 : decode cX5_copyFrom 1 = .ok (.aload_n 1, 1) := by decide +kernel
theorem dX5_copyFrom_2 : decode cX5_copyFrom 2 = .ok (.getfield 9, 3) := by decide +kernel
theorem dX5_copyFrom_5 : decode cX5_copyFrom 5 = .ok (.putfield 9, 3) := by decide +kernel
theorem dX5_copyFrom_8 : decode cX5_copyFrom 8 = .ok (.aload_n 0, 1) := by decide +kernel
theorem dX5_copyFrom_9 : decode cX5_copyFrom 9 = .ok (.aload_n 1, 1) := by decide +kernel
theorem dX5_copyFrom_10 : decode cX5_copyFrom 10 = .ok (.getfield 15, 3) := by decide +kernel
theorem dX5_copyFrom_13 : decode cX5_copyFrom 13 = .ok (.putfield 15, 3) := by decide +kernel
theorem dX5_copyFrom_16 : decode cX5_copyFrom 16 = .ok (.aload_n 0, 1) := by decide +kernel
theorem dX5_copyFrom_17 : decode cX5_copyFrom 17 = .ok (.aload_n 1, 1) := by decide +kernel
theorem dX5_copyFrom_18 : decode cX5_copyFrom 18 = .ok (.getfield 18, 3) := by decide +kernel
theorem dX5_copyFrom_21 : decode cX5_copyFrom 21 = .ok (.putfield 18, 3) := by decide +kernel
theorem dX5_copyFrom_24 : decode cX5_copyFrom 24 = .ok (.aload_n 0, 1) := by decide +kernel
theorem dX5_copyFrom_25 : decode cX5_copyFrom 25 = .ok (.aload_n 1, 1) := by decide +kernel
theorem dX5_copyFrom_26 : decode cX5_copyFrom 26 = .ok (.getfield 21, 3) := by decide +kernel
theorem dX5_copyFrom_29 : decode cX5_copyFrom 29 = .ok (.putfield 21, 3) := by decide +kernel
theorem dX5_copyFrom_32 : decode cX5_copyFrom 32 = .ok (.aload_n 0, 1) := by decide +kernel
theorem dX5_copyFrom_33 : decode cX5_copyFrom 33 = .ok (.aload_n 1, 1) := by decide +kernel
theorem dX5_copyFrom_34 : decode cX5_copyFrom 34 = .ok (.getfield 24, 3) := by decide +kernel
theorem dX5_copyFrom_37 : decode cX5_copyFrom 37 = .ok (.putfield 24, 3) := by decide +kernel
theorem dX5_copyFrom_40 : decode cX5_copyFrom 40 = .ok (.aload_n 0, 1) := by decide +kernel
theorem dX5_copyFrom_41 : decode cX5_copyFrom 41 = .ok (.aload_n 1, 1) := by decide +kernel
theorem dX5_copyFrom_42 : decode cX5_copyFrom 42 = .ok (.getfield 27, 3) := by decide +kernel
theorem dX5_copyFrom_45 : decode cX5_copyFrom 45 = .ok (.putfield 27, 3) := by decide +kernel
theorem dX5_copyFrom_48 : decode cX5_copyFrom 48 = .ok (.return_, 1) := by decide +kernel
theorem dX5_runsUnder_0 : decode cX5_runsUnder 0 = .ok (.aload_n 0, 1) := by decide +kernel
theorem dX5_runsUnder_1 : decode cX5_runsUnder 1 = .ok (.getfield 9, 3) := by decide +kernel
theorem dX5_runsUnder_4 : decode cX5_runsUnder 4 = .ok (.iload_n 1, 1) := by decide +kernel
theorem dX5_runsUnder_5 : decode cX5_runsUnder 5 = .ok (.if_icmp .ne 14, 3) := by decide +kernel
theorem dX5_runsUnder_8 : decode cX5_runsUnder 8 = .ok (.aload_n 0, 1) := by decide +kernel
theorem dX5_runsUnder_9 : decode cX5_runsUnder 9 = .ok (.getfield 21, 3) := by decide +kernel
theorem dX5_runsUnder_12 : decode cX5_runsUnder 12 = .ok (.ifCond .le 7, 3) := by decide +kernel
theorem dX5_runsUnder_15 : decode cX5_runsUnder 15 = .ok (.iconst 1, 1) := by decide +kernel
theorem dX5_runsUnder_16 : decode cX5_runsUnder 16 = .ok (.goto 4, 3) := by decide +kernel
theorem dX5_runsUnder_19 : decode cX5_runsUnder 19 = .ok (.iconst 0, 1) := by decide +kernel
theorem dX5_runsUnder_20 : decode cX5_runsUnder 20 = .ok (.ireturn, 1) := by decide +kernel
theorem dX5_receivableWith_0 : decode cX5_receivableWith 0 = .ok (.aload_n 0, 1) := by decide +kernel
theorem dX5_receivableWith_1 : decode cX5_receivableWith 1 = .ok (.getfield 18, 3) := by decide +kernel
theorem dX5_receivableWith_4 : decode cX5_receivableWith 4 = .ok (.iload_n 1, 1) := by decide +kernel
theorem dX5_receivableWith_5 : decode cX5_receivableWith 5 = .ok (.aload_n 0, 1) := by decide +kernel
theorem dX5_receivableWith_6 : decode cX5_receivableWith 6 = .ok (.getfield 24, 3) := by decide +kernel
theorem dX5_receivableWith_9 : decode cX5_receivableWith 9 = .ok (.invokestatic 30, 3) := by decide +kernel
theorem dX5_receivableWith_12 : decode cX5_receivableWith 12 = .ok (.ireturn, 1) := by decide +kernel
theorem dX5_passPeriods_0 : decode cX5_passPeriods 0 = .ok (.aload_n 0, 1) := by decide +kernel
theorem dX5_passPeriods_1 : decode cX5_passPeriods 1 = .ok (.getfield 18, 3) := by decide +kernel
theorem dX5_passPeriods_4 : decode cX5_passPeriods 4 = .ok (.iload_n 1, 1) := by decide +kernel
theorem dX5_passPeriods_5 : decode cX5_passPeriods 5 = .ok (.aload_n 0, 1) := by decide +kernel
theorem dX5_passPeriods_6 : decode cX5_passPeriods 6 = .ok (.getfield 21, 3) := by decide +kernel
theorem dX5_passPeriods_9 : decode cX5_passPeriods 9 = .ok (.invokestatic 34, 3) := by decide +kernel
theorem dX5_passPeriods_12 : decode cX5_passPeriods 12 = .ok (.imul, 1) := by decide +kernel
theorem dX5_passPeriods_13 : decode cX5_passPeriods 13 = .ok (.istore_n 3, 1) := by decide +kernel
theorem dX5_passPeriods_14 : decode cX5_passPeriods 14 = .ok (.aload_n 0, 1) := by decide +kernel
theorem dX5_passPeriods_15 : decode cX5_passPeriods 15 = .ok (.aload_n 0, 1) := by decide +kernel
theorem dX5_passPeriods_16 : decode cX5_passPeriods 16 = .ok (.getfield 21, 3) := by decide +kernel
theorem dX5_passPeriods_19 : decode cX5_passPeriods 19 = .ok (.iload_n 1, 1) := by decide +kernel
theorem dX5_passPeriods_20 : decode cX5_passPeriods 20 = .ok (.isub, 1) := by decide +kernel
theorem dX5_passPeriods_21 : decode cX5_passPeriods 21 = .ok (.invokevirtual 40, 3) := by decide +kernel
theorem dX5_passPeriods_24 : decode cX5_passPeriods 24 = .ok (.istore 4, 2) := by decide +kernel
theorem dX5_passPeriods_26 : decode cX5_passPeriods 26 = .ok (.aload_n 2, 1) := by decide +kernel
theorem dX5_passPeriods_27 : decode cX5_passPeriods 27 = .ok (.bipush 12, 2) := by decide +kernel
theorem dX5_passPeriods_29 : decode cX5_passPeriods 29 = .ok (.iload 4, 2) := by decide +kernel
theorem dX5_passPeriods_31 : decode cX5_passPeriods 31 = .ok (.aload_n 0, 1) := by decide +kernel
theorem dX5_passPeriods_32 : decode cX5_passPeriods 32 = .ok (.getfield 27, 3) := by decide +kernel
theorem dX5_passPeriods_35 : decode cX5_passPeriods 35 = .ok (.isub, 1) := by decide +kernel
theorem dX5_passPeriods_36 : decode cX5_passPeriods 36 = .ok (.iload_n 3, 1) := by decide +kernel
theorem dX5_passPeriods_37 : decode cX5_passPeriods 37 = .ok (.iadd, 1) := by decide +kernel
theorem dX5_passPeriods_38 : decode cX5_passPeriods 38 = .ok (.invokevirtual 44, 3) := by decide +kernel
theorem dX5_passPeriods_41 : decode cX5_passPeriods 41 = .ok (.aload_n 2, 1) := by decide +kernel
theorem dX5_passPeriods_42 : decode cX5_passPeriods 42 = .ok (.bipush 13, 2) := by decide +kernel
theorem dX5_passPeriods_44 : decode cX5_passPeriods 44 = .ok (.iload_n 3, 1) := by decide +kernel
theorem dX5_passPeriods_45 : decode cX5_passPeriods 45 = .ok (.invokevirtual 44, 3) := by decide +kernel
theorem dX5_passPeriods_48 : decode cX5_passPeriods 48 = .ok (.aload_n 0, 1) := by decide +kernel
theorem dX5_passPeriods_49 : decode cX5_passPeriods 49 = .ok (.iload 4, 2) := by decide +kernel
theorem dX5_passPeriods_51 : decode cX5_passPeriods 51 = .ok (.putfield 27, 3) := by decide +kernel
theorem dX5_passPeriods_54 : decode cX5_passPeriods 54 = .ok (.aload_n 0, 1) := by decide +kernel
theorem dX5_passPeriods_55 : decode cX5_passPeriods 55 = .ok (.iconst 0, 1) := by decide +kernel
theorem dX5_passPeriods_56 : decode cX5_passPeriods 56 = .ok (.aload_n 0, 1) := by decide +kernel
theorem dX5_passPeriods_57 : decode cX5_passPeriods 57 = .ok (.getfield 21, 3) := by decide +kernel
theorem dX5_passPeriods_60 : decode cX5_passPeriods 60 = .ok (.iload_n 1, 1) := by decide +kernel
theorem dX5_passPeriods_61 : decode cX5_passPeriods 61 = .ok (.isub, 1) := by decide +kernel
theorem dX5_passPeriods_62 : decode cX5_passPeriods 62 = .ok (.invokestatic 50, 3) := by decide +kernel
theorem dX5_passPeriods_65 : decode cX5_passPeriods 65 = .ok (.putfield 21, 3) := by decide +kernel
theorem dX5_passPeriods_68 : decode cX5_passPeriods 68 = .ok (.return_, 1) := by decide +kernel
theorem dX5_lossByCutTo_0 : decode cX5_lossByCutTo 0 = .ok (.aload_n 0, 1) := by decide +kernel
theorem dX5_lossByCutTo_1 : decode cX5_lossByCutTo 1 = .ok (.getfield 27, 3) := by decide +kernel
theorem dX5_lossByCutTo_4 : decode cX5_lossByCutTo 4 = .ok (.aload_n 0, 1) := by decide +kernel
theorem dX5_lossByCutTo_5 : decode cX5_lossByCutTo 5 = .ok (.aload_n 0, 1) := by decide +kernel
theorem dX5_lossByCutTo_6 : decode cX5_lossByCutTo 6 = .ok (.getfield 21, 3) := by decide +kernel
theorem dX5_lossByCutTo_9 : decode cX5_lossByCutTo 9 = .ok (.iload_n 1, 1) := by decide +kernel
theorem dX5_lossByCutTo_10 : decode cX5_lossByCutTo 10 = .ok (.invokestatic 34, 3) := by decide +kernel
theorem dX5_lossByCutTo_13 : decode cX5_lossByCutTo 13 = .ok (.invokevirtual 40, 3) := by decide +kernel
theorem dX5_lossByCutTo_16 : decode cX5_lossByCutTo 16 = .ok (.isub, 1) := by decide +kernel
theorem dX5_lossByCutTo_17 : decode cX5_lossByCutTo 17 = .ok (.ireturn, 1) := by decide +kernel
theorem dX5_valueOf_0 : decode cX5_valueOf 0 = .ok (.iload_n 1, 1) := by decide +kernel
theorem dX5_valueOf_1 : decode cX5_valueOf 1 = .ok (.tableswitch 60 0 4 #[35, 40, 45, 50, 55], 35) := by decide +kernel
theorem dX5_valueOf_36 : decode cX5_valueOf 36 = .ok (.aload_n 0, 1) := by decide +kernel
theorem dX5_valueOf_37 : decode cX5_valueOf 37 = .ok (.getfield 9, 3) := by decide +kernel
theorem dX5_valueOf_40 : decode cX5_valueOf 40 = .ok (.ireturn, 1) := by decide +kernel
theorem dX5_valueOf_41 : decode cX5_valueOf 41 = .ok (.aload_n 0, 1) := by decide +kernel
theorem dX5_valueOf_42 : decode cX5_valueOf 42 = .ok (.getfield 15, 3) := by decide +kernel
theorem dX5_valueOf_45 : decode cX5_valueOf 45 = .ok (.ireturn, 1) := by decide +kernel
theorem dX5_valueOf_46 : decode cX5_valueOf 46 = .ok (.aload_n 0, 1) := by decide +kernel
theorem dX5_valueOf_47 : decode cX5_valueOf 47 = .ok (.getfield 18, 3) := by decide +kernel
theorem dX5_valueOf_50 : decode cX5_valueOf 50 = .ok (.ireturn, 1) := by decide +kernel
theorem dX5_valueOf_51 : decode cX5_valueOf 51 = .ok (.aload_n 0, 1) := by decide +kernel
theorem dX5_valueOf_52 : decode cX5_valueOf 52 = .ok (.getfield 21, 3) := by decide +kernel
theorem dX5_valueOf_55 : decode cX5_valueOf 55 = .ok (.ireturn, 1) := by decide +kernel
theorem dX5_valueOf_56 : decode cX5_valueOf 56 = .ok (.aload_n 0, 1) := by decide +kernel
theorem dX5_valueOf_57 : decode cX5_valueOf 57 = .ok (.getfield 24, 3) := by decide +kernel
theorem dX5_valueOf_60 : decode cX5_valueOf 60 = .ok (.ireturn, 1) := by decide +kernel
theorem dX5_valueOf_61 : decode cX5_valueOf 61 = .ok (.aload_n 0, 1) := by decide +kernel
theorem dX5_valueOf_62 : decode cX5_valueOf 62 = .ok (.getfield 27, 3) := by decide +kernel
theorem dX5_valueOf_65 : decode cX5_valueOf 65 = .ok (.ireturn, 1) := by decide +kernel
theorem dX6_init_0 : decode cX6_init 0 = .ok (.aload_n 0, 1) := by decide +kernel
theorem dX6_init_1 : decode cX6_init 1 = .ok (.invokespecial 3, 3) := by decide +kernel
theorem dX6_init_4 : decode cX6_init 4 = .ok (.aload_n 0, 1) := by decide +kernel
theorem dX6_init_5 : decode cX6_init 5 = .ok (.new 9, 3) := by decide +kernel
theorem dX6_init_8 : decode cX6_init 8 = .ok (.dup, 1) := by decide +kernel
theorem dX6_init_9 : decode cX6_init 9 = .ok (.invokespecial 11, 3) := by decide +kernel
theorem dX6_init_12 : decode cX6_init 12 = .ok (.putfield 12, 3) := by decide +kernel
theorem dX6_init_15 : decode cX6_init 15 = .ok (.aload_n 0, 1) := by decide +kernel
theorem dX6_init_16 : decode cX6_init 16 = .ok (.new 16, 3) := by decide +kernel
theorem dX6_init_19 : decode cX6_init 19 = .ok (.dup, 1) := by decide +kernel
theorem dX6_init_20 : decode cX6_init 20 = .ok (.invokespecial 18, 3) := by decide +kernel
theorem dX6_init_23 : decode cX6_init 23 = .ok (.putfield 19, 3) := by decide +kernel
theorem dX6_init_26 : decode cX6_init 26 = .ok (.aload_n 0, 1) := by decide +kernel
theorem dX6_init_27 : decode cX6_init 27 = .ok (.new 23, 3) := by decide +kernel
theorem dX6_init_30 : decode cX6_init 30 = .ok (.dup, 1) := by decide +kernel
theorem dX6_init_31 : decode cX6_init 31 = .ok (.invokespecial 25, 3) := by decide +kernel
theorem dX6_init_34 : decode cX6_init 34 = .ok (.putfield 26, 3) := by decide +kernel
theorem dX6_init_37 : decode cX6_init 37 = .ok (.aload_n 0, 1) := by decide +kernel
theorem dX6_init_38 : decode cX6_init 38 = .ok (.new 30, 3) := by decide +kernel
theorem dX6_init_41 : decode cX6_init 41 = .ok (.dup, 1) := by decide +kernel
theorem dX6_init_42 : decode cX6_init 42 = .ok (.invokespecial 32, 3) := by decide +kernel
theorem dX6_init_45 : decode cX6_init 45 = .ok (.putfield 33, 3) := by decide +kernel
theorem dX6_init_48 : decode cX6_init 48 = .ok (.return_, 1) := by decide +kernel
theorem dX6_open_0 : decode cX6_open 0 = .ok (.iload_n 1, 1) := by decide +kernel
theorem dX6_open_1 : decode cX6_open 1 = .ok (.invokestatic 37, 3) := by decide +kernel
theorem dX6_open_4 : decode cX6_open 4 = .ok (.ifCond .eq 29, 3) := by decide +kernel
theorem dX6_open_7 : decode cX6_open 7 = .ok (.iload_n 2, 1) := by decide +kernel
theorem dX6_open_8 : decode cX6_open 8 = .ok (.invokestatic 41, 3) := by decide +kernel
theorem dX6_open_11 : decode cX6_open 11 = .ok (.ifCond .eq 22, 3) := by decide +kernel
theorem dX6_open_14 : decode cX6_open 14 = .ok (.iload_n 3, 1) := by decide +kernel
theorem dX6_open_15 : decode cX6_open 15 = .ok (.invokestatic 44, 3) := by decide +kernel
theorem dX6_open_18 : decode cX6_open 18 = .ok (.ifCond .eq 15, 3) := by decide +kernel
theorem dX6_open_21 : decode cX6_open 21 = .ok (.iload 4, 2) := by decide +kernel
theorem dX6_open_23 : decode cX6_open 23 = .ok (.invokestatic 37, 3) := by decide +kernel
theorem dX6_open_26 : decode cX6_open 26 = .ok (.ifCond .eq 7, 3) := by decide +kernel
theorem dX6_open_29 : decode cX6_open 29 = .ok (.iconst 1, 1) := by decide +kernel
theorem dX6_open_30 : decode cX6_open 30 = .ok (.goto 4, 3) := by decide +kernel
theorem dX6_open_33 : decode cX6_open 33 = .ok (.iconst 0, 1) := by decide +kernel
theorem dX6_open_34 : decode cX6_open 34 = .ok (.invokestatic 47, 3) := by decide +kernel
theorem dX6_open_37 : decode cX6_open 37 = .ok (.aload_n 0, 1) := by decide +kernel
theorem dX6_open_38 : decode cX6_open 38 = .ok (.getfield 12, 3) := by decide +kernel
theorem dX6_open_41 : decode cX6_open 41 = .ok (.getfield 51, 3) := by decide +kernel
theorem dX6_open_44 : decode cX6_open 44 = .ok (.bipush 8, 2) := by decide +kernel
theorem dX6_open_46 : decode cX6_open 46 = .ok (.if_icmp .ge 7, 3) := by decide +kernel
theorem dX6_open_49 : decode cX6_open 49 = .ok (.iconst 1, 1) := by decide +kernel
theorem dX6_open_50 : decode cX6_open 50 = .ok (.goto 4, 3) := by decide +kernel
theorem dX6_open_53 : decode cX6_open 53 = .ok (.iconst 0, 1) := by decide +kernel
theorem dX6_open_54 : decode cX6_open 54 = .ok (.invokestatic 55, 3) := by decide +kernel
theorem dX6_open_57 : decode cX6_open 57 = .ok (.aload_n 0, 1) := by decide +kernel
theorem dX6_open_58 : decode cX6_open 58 = .ok (.getfield 19, 3) := by decide +kernel
theorem dX6_open_61 : decode cX6_open 61 = .ok (.aload_n 0, 1) := by decide +kernel
theorem dX6_open_62 : decode cX6_open 62 = .ok (.getfield 12, 3) := by decide +kernel
theorem dX6_open_65 : decode cX6_open 65 = .ok (.invokevirtual 58, 3) := by decide +kernel
theorem dX6_open_68 : decode cX6_open 68 = .ok (.aload_n 0, 1) := by decide +kernel
theorem dX6_open_69 : decode cX6_open 69 = .ok (.getfield 12, 3) := by decide +kernel
theorem dX6_open_72 : decode cX6_open 72 = .ok (.iload_n 1, 1) := by decide +kernel
theorem dX6_open_73 : decode cX6_open 73 = .ok (.iload_n 2, 1) := by decide +kernel
theorem dX6_open_74 : decode cX6_open 74 = .ok (.iload_n 3, 1) := by decide +kernel
theorem dX6_open_75 : decode cX6_open 75 = .ok (.iload 4, 2) := by decide +kernel
theorem dX6_open_77 : decode cX6_open 77 = .ok (.invokevirtual 62, 3) := by decide +kernel
theorem dX6_open_80 : decode cX6_open 80 = .ok (.ireturn, 1) := by decide +kernel
theorem dX6_term_0 : decode cX6_term 0 = .ok (.aload_n 0, 1) := by decide +kernel
theorem dX6_term_1 : decode cX6_term 1 = .ok (.iload_n 1, 1) := by decide +kernel
theorem dX6_term_2 : decode cX6_term 2 = .ok (.invokevirtual 66, 3) := by decide +kernel
theorem dX6_term_5 : decode cX6_term 5 = .ok (.astore 4, 2) := by decide +kernel
theorem dX6_term_7 : decode cX6_term 7 = .ok (.iload_n 2, 1) := by decide +kernel
theorem dX6_term_8 : decode cX6_term 8 = .ok (.invokestatic 41, 3) := by decide +kernel
theorem dX6_term_11 : decode cX6_term 11 = .ok (.ifCond .eq 14, 3) := by decide +kernel
theorem dX6_term_14 : decode cX6_term 14 = .ok (.iload_n 3, 1) := by decide +kernel
theorem dX6_term_15 : decode cX6_term 15 = .ok (.invokestatic 44, 3) := by decide +kernel
theorem dX6_term_18 : decode cX6_term 18 = .ok (.ifCond .eq 7, 3) := by decide +kernel
theorem dX6_term_21 : decode cX6_term 21 = .ok (.iconst 1, 1) := by decide +kernel
theorem dX6_term_22 : decode cX6_term 22 = .ok (.goto 4, 3) := by decide +kernel
theorem dX6_term_25 : decode cX6_term 25 = .ok (.iconst 0, 1) := by decide +kernel
theorem dX6_term_26 : decode cX6_term 26 = .ok (.invokestatic 47, 3) := by decide +kernel
theorem dX6_term_29 : decode cX6_term 29 = .ok (.aload 4, 2) := by decide +kernel
theorem dX6_term_31 : decode cX6_term 31 = .ok (.invokevirtual 70, 3) := by decide +kernel
theorem dX6_term_34 : decode cX6_term 34 = .ok (.invokestatic 55, 3) := by decide +kernel
theorem dX6_term_37 : decode cX6_term 37 = .ok (.aload_n 0, 1) := by decide +kernel
theorem dX6_term_38 : decode cX6_term 38 = .ok (.getfield 19, 3) := by decide +kernel
theorem dX6_term_41 : decode cX6_term 41 = .ok (.aload_n 0, 1) := by decide +kernel
theorem dX6_term_42 : decode cX6_term 42 = .ok (.getfield 12, 3) := by decide +kernel
theorem dX6_term_45 : decode cX6_term 45 = .ok (.invokevirtual 58, 3) := by decide +kernel
theorem dX6_term_48 : decode cX6_term 48 = .ok (.aload 4, 2) := by decide +kernel
theorem dX6_term_50 : decode cX6_term 50 = .ok (.aload 4, 2) := by decide +kernel
theorem dX6_term_52 : decode cX6_term 52 = .ok (.getfield 76, 3) := by decide +kernel
theorem dX6_term_55 : decode cX6_term 55 = .ok (.iload_n 2, 1) := by decide +kernel
theorem dX6_term_56 : decode cX6_term 56 = .ok (.iload_n 3, 1) := by decide +kernel
theorem dX6_term_57 : decode cX6_term 57 = .ok (.invokevirtual 79, 3) := by decide +kernel
theorem dX6_term_60 : decode cX6_term 60 = .ok (.aload_n 0, 1) := by decide +kernel
theorem dX6_term_61 : decode cX6_term 61 = .ok (.getfield 12, 3) := by decide +kernel
theorem dX6_term_64 : decode cX6_term 64 = .ok (.iload_n 1, 1) := by decide +kernel
theorem dX6_term_65 : decode cX6_term 65 = .ok (.aload 4, 2) := by decide +kernel
theorem dX6_term_67 : decode cX6_term 67 = .ok (.invokevirtual 83, 3) := by decide +kernel
theorem dX6_term_70 : decode cX6_term 70 = .ok (.aload 4, 2) := by decide +kernel
theorem dX6_term_72 : decode cX6_term 72 = .ok (.getfield 87, 3) := by decide +kernel
theorem dX6_term_75 : decode cX6_term 75 = .ok (.ireturn, 1) := by decide +kernel
theorem dX6_rent_0 : decode cX6_rent 0 = .ok (.aload_n 0, 1) := by decide +kernel
theorem dX6_rent_1 : decode cX6_rent 1 = .ok (.iload_n 1, 1) := by decide +kernel
theorem dX6_rent_2 : decode cX6_rent 2 = .ok (.invokevirtual 66, 3) := by decide +kernel
theorem dX6_rent_5 : decode cX6_rent 5 = .ok (.astore_n 3, 1) := by decide +kernel
theorem dX6_rent_6 : decode cX6_rent 6 = .ok (.iload_n 2, 1) := by decide +kernel
theorem dX6_rent_7 : decode cX6_rent 7 = .ok (.invokestatic 37, 3) := by decide +kernel
theorem dX6_rent_10 : decode cX6_rent 10 = .ok (.invokestatic 47, 3) := by decide +kernel
theorem dX6_rent_13 : decode cX6_rent 13 = .ok (.aload_n 3, 1) := by decide +kernel
theorem dX6_rent_14 : decode cX6_rent 14 = .ok (.invokevirtual 70, 3) := by decide +kernel
theorem dX6_rent_17 : decode cX6_rent 17 = .ok (.invokestatic 55, 3) := by decide +kernel
theorem dX6_rent_20 : decode cX6_rent 20 = .ok (.aload_n 0, 1) := by decide +kernel
theorem dX6_rent_21 : decode cX6_rent 21 = .ok (.getfield 19, 3) := by decide +kernel
theorem dX6_rent_24 : decode cX6_rent 24 = .ok (.aload_n 0, 1) := by decide +kernel
theorem dX6_rent_25 : decode cX6_rent 25 = .ok (.getfield 12, 3) := by decide +kernel
theorem dX6_rent_28 : decode cX6_rent 28 = .ok (.invokevirtual 58, 3) := by decide +kernel
theorem dX6_rent_31 : decode cX6_rent 31 = .ok (.aload_n 3, 1) := by decide +kernel
theorem dX6_rent_32 : decode cX6_rent 32 = .ok (.iload_n 2, 1) := by decide +kernel
theorem dX6_rent_33 : decode cX6_rent 33 = .ok (.aload_n 3, 1) := by decide +kernel
theorem dX6_rent_34 : decode cX6_rent 34 = .ok (.getfield 90, 3) := by decide +kernel
theorem dX6_rent_37 : decode cX6_rent 37 = .ok (.aload_n 3, 1) := by decide +kernel
theorem dX6_rent_38 : decode cX6_rent 38 = .ok (.getfield 93, 3) := by decide +kernel
theorem dX6_rent_41 : decode cX6_rent 41 = .ok (.invokevirtual 79, 3) := by decide +kernel
theorem dX6_rent_44 : decode cX6_rent 44 = .ok (.aload_n 3, 1) := by decide +kernel
theorem dX6_rent_45 : decode cX6_rent 45 = .ok (.getfield 87, 3) := by decide +kernel
theorem dX6_rent_48 : decode cX6_rent 48 = .ok (.ireturn, 1) := by decide +kernel
theorem dX6_endPart_0 : decode cX6_endPart 0 = .ok (.aload_n 0, 1) := by decide +kernel
theorem dX6_endPart_1 : decode cX6_endPart 1 = .ok (.iload_n 1, 1) := by decide +kernel
theorem dX6_endPart_2 : decode cX6_endPart 2 = .ok (.invokevirtual 66, 3) := by decide +kernel
theorem dX6_endPart_5 : decode cX6_endPart 5 = .ok (.astore 4, 2) := by decide +kernel
theorem dX6_endPart_7 : decode cX6_endPart 7 = .ok (.iload_n 2, 1) := by decide +kernel
theorem dX6_endPart_8 : decode cX6_endPart 8 = .ok (.invokestatic 96, 3) := by decide +kernel
theorem dX6_endPart_11 : decode cX6_endPart 11 = .ok (.ifCond .eq 14, 3) := by decide +kernel
theorem dX6_endPart_14 : decode cX6_endPart 14 = .ok (.iload_n 3, 1) := by decide +kernel
theorem dX6_endPart_15 : decode cX6_endPart 15 = .ok (.invokestatic 37, 3) := by decide +kernel
theorem dX6_endPart_18 : decode cX6_endPart 18 = .ok (.ifCond .eq 7, 3) := by decide +kernel
theorem dX6_endPart_21 : decode cX6_endPart 21 = .ok (.iconst 1, 1) := by decide +kernel
theorem dX6_endPart_22 : decode cX6_endPart 22 = .ok (.goto 4, 3) := by decide +kernel
theorem dX6_endPart_25 : decode cX6_endPart 25 = .ok (.iconst 0, 1) := by decide +kernel
theorem dX6_endPart_26 : decode cX6_endPart 26 = .ok (.invokestatic 47, 3) := by decide +kernel
theorem dX6_endPart_29 : decode cX6_endPart 29 = .ok (.aload 4, 2) := by decide +kernel
theorem dX6_endPart_31 : decode cX6_endPart 31 = .ok (.invokevirtual 70, 3) := by decide +kernel
theorem dX6_endPart_34 : decode cX6_endPart 34 = .ok (.ifCond .eq 18, 3) := by decide +kernel
theorem dX6_endPart_37 : decode cX6_endPart 37 = .ok (.aload_n 0, 1) := by decide +kernel
theorem dX6_endPart_38 : decode cX6_endPart 38 = .ok (.getfield 12, 3) := by decide +kernel
theorem dX6_endPart_41 : decode cX6_endPart 41 = .ok (.iload_n 1, 1) := by decide +kernel
theorem dX6_endPart_42 : decode cX6_endPart 42 = .ok (.invokevirtual 99, 3) := by decide +kernel
theorem dX6_endPart_45 : decode cX6_endPart 45 = .ok (.ifCond .ne 7, 3) := by decide +kernel
theorem dX6_endPart_48 : decode cX6_endPart 48 = .ok (.iconst 1, 1) := by decide +kernel
theorem dX6_endPart_49 : decode cX6_endPart 49 = .ok (.goto 4, 3) := by decide +kernel
theorem dX6_endPart_52 : decode cX6_endPart 52 = .ok (.iconst 0, 1) := by decide +kernel
theorem dX6_endPart_53 : decode cX6_endPart 53 = .ok (.invokestatic 55, 3) := by decide +kernel
theorem dX6_endPart_56 : decode cX6_endPart 56 = .ok (.aload_n 0, 1) := by decide +kernel
theorem dX6_endPart_57 : decode cX6_endPart 57 = .ok (.getfield 19, 3) := by decide +kernel
theorem dX6_endPart_60 : decode cX6_endPart 60 = .ok (.aload_n 0, 1) := by decide +kernel
theorem dX6_endPart_61 : decode cX6_endPart 61 = .ok (.getfield 12, 3) := by decide +kernel
theorem dX6_endPart_64 : decode cX6_endPart 64 = .ok (.invokevirtual 58, 3) := by decide +kernel
theorem dX6_endPart_67 : decode cX6_endPart 67 = .ok (.aload 4, 2) := by decide +kernel
theorem dX6_endPart_69 : decode cX6_endPart 69 = .ok (.iload_n 2, 1) := by decide +kernel
theorem dX6_endPart_70 : decode cX6_endPart 70 = .ok (.iload_n 3, 1) := by decide +kernel
theorem dX6_endPart_71 : decode cX6_endPart 71 = .ok (.invokevirtual 103, 3) := by decide +kernel
theorem dX6_endPart_74 : decode cX6_endPart 74 = .ok (.ireturn, 1) := by decide +kernel
theorem dX6_impair_0 : decode cX6_impair 0 = .ok (.aload_n 0, 1) := by decide +kernel
theorem dX6_impair_1 : decode cX6_impair 1 = .ok (.iload_n 1, 1) := by decide +kernel
theorem dX6_impair_2 : decode cX6_impair 2 = .ok (.invokevirtual 66, 3) := by decide +kernel
theorem dX6_impair_5 : decode cX6_impair 5 = .ok (.astore_n 3, 1) := by decide +kernel
theorem dX6_impair_6 : decode cX6_impair 6 = .ok (.iload_n 2, 1) := by decide +kernel
theorem dX6_impair_7 : decode cX6_impair 7 = .ok (.iconst 1, 1) := by decide +kernel
theorem dX6_impair_8 : decode cX6_impair 8 = .ok (.ldc 107, 2) := by decide +kernel
theorem dX6_impair_10 : decode cX6_impair 10 = .ok (.invokestatic 108, 3) := by decide +kernel
theorem dX6_impair_13 : decode cX6_impair 13 = .ok (.invokestatic 47, 3) := by decide +kernel
theorem dX6_impair_16 : decode cX6_impair 16 = .ok (.aload_n 3, 1) := by decide +kernel
theorem dX6_impair_17 : decode cX6_impair 17 = .ok (.getfield 112, 3) := by decide +kernel
theorem dX6_impair_20 : decode cX6_impair 20 = .ok (.iload_n 2, 1) := by decide +kernel
theorem dX6_impair_21 : decode cX6_impair 21 = .ok (.if_icmp .lt 7, 3) := by decide +kernel
theorem dX6_impair_24 : decode cX6_impair 24 = .ok (.iconst 1, 1) := by decide +kernel
theorem dX6_impair_25 : decode cX6_impair 25 = .ok (.goto 4, 3) := by decide +kernel
theorem dX6_impair_28 : decode cX6_impair 28 = .ok (.iconst 0, 1) := by decide +kernel
theorem dX6_impair_29 : decode cX6_impair 29 = .ok (.invokestatic 55, 3) := by decide +kernel
theorem dX6_impair_32 : decode cX6_impair 32 = .ok (.aload_n 0, 1) := by decide +kernel
theorem dX6_impair_33 : decode cX6_impair 33 = .ok (.getfield 19, 3) := by decide +kernel
theorem dX6_impair_36 : decode cX6_impair 36 = .ok (.aload_n 0, 1) := by decide +kernel
theorem dX6_impair_37 : decode cX6_impair 37 = .ok (.getfield 12, 3) := by decide +kernel
theorem dX6_impair_40 : decode cX6_impair 40 = .ok (.invokevirtual 58, 3) := by decide +kernel
theorem dX6_impair_43 : decode cX6_impair 43 = .ok (.aload_n 3, 1) := by decide +kernel
theorem dX6_impair_44 : decode cX6_impair 44 = .ok (.iload_n 2, 1) := by decide +kernel
theorem dX6_impair_45 : decode cX6_impair 45 = .ok (.invokevirtual 115, 3) := by decide +kernel
theorem dX6_impair_48 : decode cX6_impair 48 = .ok (.aload_n 3, 1) := by decide +kernel
theorem dX6_impair_49 : decode cX6_impair 49 = .ok (.getfield 112, 3) := by decide +kernel
theorem dX6_impair_52 : decode cX6_impair 52 = .ok (.ireturn, 1) := by decide +kernel
theorem dX6_sublet_0 : decode cX6_sublet 0 = .ok (.aload_n 0, 1) := by decide +kernel
theorem dX6_sublet_1 : decode cX6_sublet 1 = .ok (.iload_n 1, 1) := by decide +kernel
theorem dX6_sublet_2 : decode cX6_sublet 2 = .ok (.invokevirtual 66, 3) := by decide +kernel
theorem dX6_sublet_5 : decode cX6_sublet 5 = .ok (.astore 5, 2) := by decide +kernel
theorem dX6_sublet_7 : decode cX6_sublet 7 = .ok (.iload_n 2, 1) := by decide +kernel
theorem dX6_sublet_8 : decode cX6_sublet 8 = .ok (.invokestatic 96, 3) := by decide +kernel
theorem dX6_sublet_11 : decode cX6_sublet 11 = .ok (.ifCond .eq 22, 3) := by decide +kernel
theorem dX6_sublet_14 : decode cX6_sublet 14 = .ok (.iload_n 3, 1) := by decide +kernel
theorem dX6_sublet_15 : decode cX6_sublet 15 = .ok (.invokestatic 37, 3) := by decide +kernel
theorem dX6_sublet_18 : decode cX6_sublet 18 = .ok (.ifCond .eq 15, 3) := by decide +kernel
theorem dX6_sublet_21 : decode cX6_sublet 21 = .ok (.iload 4, 2) := by decide +kernel
theorem dX6_sublet_23 : decode cX6_sublet 23 = .ok (.invokestatic 41, 3) := by decide +kernel
theorem dX6_sublet_26 : decode cX6_sublet 26 = .ok (.ifCond .eq 7, 3) := by decide +kernel
theorem dX6_sublet_29 : decode cX6_sublet 29 = .ok (.iconst 1, 1) := by decide +kernel
theorem dX6_sublet_30 : decode cX6_sublet 30 = .ok (.goto 4, 3) := by decide +kernel
theorem dX6_sublet_33 : decode cX6_sublet 33 = .ok (.iconst 0, 1) := by decide +kernel
theorem dX6_sublet_34 : decode cX6_sublet 34 = .ok (.invokestatic 47, 3) := by decide +kernel
theorem dX6_sublet_37 : decode cX6_sublet 37 = .ok (.aload_n 0, 1) := by decide +kernel
theorem dX6_sublet_38 : decode cX6_sublet 38 = .ok (.getfield 12, 3) := by decide +kernel
theorem dX6_sublet_41 : decode cX6_sublet 41 = .ok (.iload_n 1, 1) := by decide +kernel
theorem dX6_sublet_42 : decode cX6_sublet 42 = .ok (.iload_n 2, 1) := by decide +kernel
theorem dX6_sublet_43 : decode cX6_sublet 43 = .ok (.iload 4, 2) := by decide +kernel
theorem dX6_sublet_45 : decode cX6_sublet 45 = .ok (.invokevirtual 119, 3) := by decide +kernel
theorem dX6_sublet_48 : decode cX6_sublet 48 = .ok (.invokestatic 55, 3) := by decide +kernel
theorem dX6_sublet_51 : decode cX6_sublet 51 = .ok (.aload_n 0, 1) := by decide +kernel
theorem dX6_sublet_52 : decode cX6_sublet 52 = .ok (.getfield 19, 3) := by decide +kernel
theorem dX6_sublet_55 : decode cX6_sublet 55 = .ok (.aload_n 0, 1) := by decide +kernel
theorem dX6_sublet_56 : decode cX6_sublet 56 = .ok (.getfield 12, 3) := by decide +kernel
theorem dX6_sublet_59 : decode cX6_sublet 59 = .ok (.invokevirtual 58, 3) := by decide +kernel
theorem dX6_sublet_62 : decode cX6_sublet 62 = .ok (.aload_n 0, 1) := by decide +kernel
theorem dX6_sublet_63 : decode cX6_sublet 63 = .ok (.getfield 12, 3) := by decide +kernel
theorem dX6_sublet_66 : decode cX6_sublet 66 = .ok (.iload_n 1, 1) := by decide +kernel
theorem dX6_sublet_67 : decode cX6_sublet 67 = .ok (.aload 5, 2) := by decide +kernel
theorem dX6_sublet_69 : decode cX6_sublet 69 = .ok (.iload_n 2, 1) := by decide +kernel
theorem dX6_sublet_70 : decode cX6_sublet 70 = .ok (.iload_n 3, 1) := by decide +kernel
theorem dX6_sublet_71 : decode cX6_sublet 71 = .ok (.iload 4, 2) := by decide +kernel
theorem dX6_sublet_73 : decode cX6_sublet 73 = .ok (.invokevirtual 122, 3) := by decide +kernel
theorem dX6_sublet_76 : decode cX6_sublet 76 = .ok (.ireturn, 1) := by decide +kernel
theorem dX6_pass_0 : decode cX6_pass 0 = .ok (.iload_n 1, 1) := by decide +kernel
theorem dX6_pass_1 : decode cX6_pass 1 = .ok (.invokestatic 41, 3) := by decide +kernel
theorem dX6_pass_4 : decode cX6_pass 4 = .ok (.invokestatic 47, 3) := by decide +kernel
theorem dX6_pass_7 : decode cX6_pass 7 = .ok (.aload_n 0, 1) := by decide +kernel
theorem dX6_pass_8 : decode cX6_pass 8 = .ok (.getfield 12, 3) := by decide +kernel
theorem dX6_pass_11 : decode cX6_pass 11 = .ok (.getfield 126, 3) := by decide +kernel
theorem dX6_pass_14 : decode cX6_pass 14 = .ok (.iload_n 1, 1) := by decide +kernel
theorem dX6_pass_15 : decode cX6_pass 15 = .ok (.iadd, 1) := by decide +kernel
theorem dX6_pass_16 : decode cX6_pass 16 = .ok (.sipush 2000, 3) := by decide +kernel
theorem dX6_pass_19 : decode cX6_pass 19 = .ok (.if_icmp .gt 7, 3) := by decide +kernel
theorem dX6_pass_22 : decode cX6_pass 22 = .ok (.iconst 1, 1) := by decide +kernel
theorem dX6_pass_23 : decode cX6_pass 23 = .ok (.goto 4, 3) := by decide +kernel
theorem dX6_pass_26 : decode cX6_pass 26 = .ok (.iconst 0, 1) := by decide +kernel
theorem dX6_pass_27 : decode cX6_pass 27 = .ok (.invokestatic 55, 3) := by decide +kernel
theorem dX6_pass_30 : decode cX6_pass 30 = .ok (.aload_n 0, 1) := by decide +kernel
theorem dX6_pass_31 : decode cX6_pass 31 = .ok (.getfield 19, 3) := by decide +kernel
theorem dX6_pass_34 : decode cX6_pass 34 = .ok (.aload_n 0, 1) := by decide +kernel
theorem dX6_pass_35 : decode cX6_pass 35 = .ok (.getfield 12, 3) := by decide +kernel
theorem dX6_pass_38 : decode cX6_pass 38 = .ok (.invokevirtual 58, 3) := by decide +kernel
theorem dX6_pass_41 : decode cX6_pass 41 = .ok (.aload_n 0, 1) := by decide +kernel
theorem dX6_pass_42 : decode cX6_pass 42 = .ok (.getfield 12, 3) := by decide +kernel
theorem dX6_pass_45 : decode cX6_pass 45 = .ok (.iload_n 1, 1) := by decide +kernel
theorem dX6_pass_46 : decode cX6_pass 46 = .ok (.invokevirtual 129, 3) := by decide +kernel
theorem dX6_pass_49 : decode cX6_pass 49 = .ok (.aload_n 0, 1) := by decide +kernel
theorem dX6_pass_50 : decode cX6_pass 50 = .ok (.getfield 12, 3) := by decide +kernel
theorem dX6_pass_53 : decode cX6_pass 53 = .ok (.getfield 126, 3) := by decide +kernel
theorem dX6_pass_56 : decode cX6_pass 56 = .ok (.ireturn, 1) := by decide +kernel
theorem dX6_append_0 : decode cX6_append 0 = .ok (.iload_n 1, 1) := by decide +kernel
theorem dX6_append_1 : decode cX6_append 1 = .ok (.bipush 33, 2) := by decide +kernel
theorem dX6_append_3 : decode cX6_append 3 = .ok (.bipush 126, 2) := by decide +kernel
theorem dX6_append_5 : decode cX6_append 5 = .ok (.invokestatic 108, 3) := by decide +kernel
theorem dX6_append_8 : decode cX6_append 8 = .ok (.invokestatic 47, 3) := by decide +kernel
theorem dX6_append_11 : decode cX6_append 11 = .ok (.aload_n 0, 1) := by decide +kernel
theorem dX6_append_12 : decode cX6_append 12 = .ok (.getfield 26, 3) := by decide +kernel
theorem dX6_append_15 : decode cX6_append 15 = .ok (.getfield 132, 3) := by decide +kernel
theorem dX6_append_18 : decode cX6_append 18 = .ok (.bipush 60, 2) := by decide +kernel
theorem dX6_append_20 : decode cX6_append 20 = .ok (.if_icmp .ge 7, 3) := by decide +kernel
theorem dX6_append_23 : decode cX6_append 23 = .ok (.iconst 1, 1) := by decide +kernel
theorem dX6_append_24 : decode cX6_append 24 = .ok (.goto 4, 3) := by decide +kernel
theorem dX6_append_27 : decode cX6_append 27 = .ok (.iconst 0, 1) := by decide +kernel
theorem dX6_append_28 : decode cX6_append 28 = .ok (.invokestatic 55, 3) := by decide +kernel
theorem dX6_append_31 : decode cX6_append 31 = .ok (.aload_n 0, 1) := by decide +kernel
theorem dX6_append_32 : decode cX6_append 32 = .ok (.getfield 26, 3) := by decide +kernel
theorem dX6_append_35 : decode cX6_append 35 = .ok (.iload_n 1, 1) := by decide +kernel
theorem dX6_append_36 : decode cX6_append 36 = .ok (.invokevirtual 135, 3) := by decide +kernel
theorem dX6_append_39 : decode cX6_append 39 = .ok (.aload_n 0, 1) := by decide +kernel
theorem dX6_append_40 : decode cX6_append 40 = .ok (.getfield 26, 3) := by decide +kernel
theorem dX6_append_43 : decode cX6_append 43 = .ok (.getfield 132, 3) := by decide +kernel
theorem dX6_append_46 : decode cX6_append 46 = .ok (.ireturn, 1) := by decide +kernel
theorem dX6_clearBuffer_0 : decode cX6_clearBuffer 0 = .ok (.aload_n 0, 1) := by decide +kernel
theorem dX6_clearBuffer_1 : decode cX6_clearBuffer 1 = .ok (.getfield 26, 3) := by decide +kernel
theorem dX6_clearBuffer_4 : decode cX6_clearBuffer 4 = .ok (.getfield 132, 3) := by decide +kernel
theorem dX6_clearBuffer_7 : decode cX6_clearBuffer 7 = .ok (.istore_n 1, 1) := by decide +kernel
theorem dX6_clearBuffer_8 : decode cX6_clearBuffer 8 = .ok (.aload_n 0, 1) := by decide +kernel
theorem dX6_clearBuffer_9 : decode cX6_clearBuffer 9 = .ok (.getfield 26, 3) := by decide +kernel
theorem dX6_clearBuffer_12 : decode cX6_clearBuffer 12 = .ok (.iconst 0, 1) := by decide +kernel
theorem dX6_clearBuffer_13 : decode cX6_clearBuffer 13 = .ok (.putfield 132, 3) := by decide +kernel
theorem dX6_clearBuffer_16 : decode cX6_clearBuffer 16 = .ok (.iload_n 1, 1) := by decide +kernel
theorem dX6_clearBuffer_17 : decode cX6_clearBuffer 17 = .ok (.ireturn, 1) := by decide +kernel
theorem dX6_firstError_0 : decode cX6_firstError 0 = .ok (.aload_n 0, 1) := by decide +kernel
theorem dX6_firstError_1 : decode cX6_firstError 1 = .ok (.getfield 33, 3) := by decide +kernel
theorem dX6_firstError_4 : decode cX6_firstError 4 = .ok (.aload_n 0, 1) := by decide +kernel
theorem dX6_firstError_5 : decode cX6_firstError 5 = .ok (.getfield 26, 3) := by decide +kernel
theorem dX6_firstError_8 : decode cX6_firstError 8 = .ok (.invokevirtual 138, 3) := by decide +kernel
theorem dX6_firstError_11 : decode cX6_firstError 11 = .ok (.ireturn, 1) := by decide +kernel
theorem dX6_openAll_0 : decode cX6_openAll 0 = .ok (.aload_n 0, 1) := by decide +kernel
theorem dX6_openAll_1 : decode cX6_openAll 1 = .ok (.getfield 33, 3) := by decide +kernel
theorem dX6_openAll_4 : decode cX6_openAll 4 = .ok (.aload_n 0, 1) := by decide +kernel
theorem dX6_openAll_5 : decode cX6_openAll 5 = .ok (.getfield 26, 3) := by decide +kernel
theorem dX6_openAll_8 : decode cX6_openAll 8 = .ok (.invokevirtual 138, 3) := by decide +kernel
theorem dX6_openAll_11 : decode cX6_openAll 11 = .ok (.aload_n 0, 1) := by decide +kernel
theorem dX6_openAll_12 : decode cX6_openAll 12 = .ok (.getfield 26, 3) := by decide +kernel
theorem dX6_openAll_15 : decode cX6_openAll 15 = .ok (.getfield 132, 3) := by decide +kernel
theorem dX6_openAll_18 : decode cX6_openAll 18 = .ok (.if_icmp .ne 17, 3) := by decide +kernel
theorem dX6_openAll_21 : decode cX6_openAll 21 = .ok (.aload_n 0, 1) := by decide +kernel
theorem dX6_openAll_22 : decode cX6_openAll 22 = .ok (.getfield 33, 3) := by decide +kernel
theorem dX6_openAll_25 : decode cX6_openAll 25 = .ok (.invokevirtual 142, 3) := by decide +kernel
theorem dX6_openAll_28 : decode cX6_openAll 28 = .ok (.ifCond .eq 7, 3) := by decide +kernel
theorem dX6_openAll_31 : decode cX6_openAll 31 = .ok (.iconst 1, 1) := by decide +kernel
theorem dX6_openAll_32 : decode cX6_openAll 32 = .ok (.goto 4, 3) := by decide +kernel
theorem dX6_openAll_35 : decode cX6_openAll 35 = .ok (.iconst 0, 1) := by decide +kernel
theorem dX6_openAll_36 : decode cX6_openAll 36 = .ok (.istore_n 1, 1) := by decide +kernel
theorem dX6_openAll_37 : decode cX6_openAll 37 = .ok (.iload_n 1, 1) := by decide +kernel
theorem dX6_openAll_38 : decode cX6_openAll 38 = .ok (.invokestatic 47, 3) := by decide +kernel
theorem dX6_openAll_41 : decode cX6_openAll 41 = .ok (.aload_n 0, 1) := by decide +kernel
theorem dX6_openAll_42 : decode cX6_openAll 42 = .ok (.getfield 12, 3) := by decide +kernel
theorem dX6_openAll_45 : decode cX6_openAll 45 = .ok (.getfield 51, 3) := by decide +kernel
theorem dX6_openAll_48 : decode cX6_openAll 48 = .ok (.aload_n 0, 1) := by decide +kernel
theorem dX6_openAll_49 : decode cX6_openAll 49 = .ok (.getfield 26, 3) := by decide +kernel
theorem dX6_openAll_52 : decode cX6_openAll 52 = .ok (.bipush 59, 2) := by decide +kernel
theorem dX6_openAll_54 : decode cX6_openAll 54 = .ok (.invokevirtual 145, 3) := by decide +kernel
theorem dX6_openAll_57 : decode cX6_openAll 57 = .ok (.iadd, 1) := by decide +kernel
theorem dX6_openAll_58 : decode cX6_openAll 58 = .ok (.iconst 1, 1) := by decide +kernel
theorem dX6_openAll_59 : decode cX6_openAll 59 = .ok (.iadd, 1) := by decide +kernel
theorem dX6_openAll_60 : decode cX6_openAll 60 = .ok (.bipush 8, 2) := by decide +kernel
theorem dX6_openAll_62 : decode cX6_openAll 62 = .ok (.if_icmp .gt 7, 3) := by decide +kernel
theorem dX6_openAll_65 : decode cX6_openAll 65 = .ok (.iconst 1, 1) := by decide +kernel
theorem dX6_openAll_66 : decode cX6_openAll 66 = .ok (.goto 4, 3) := by decide +kernel
theorem dX6_openAll_69 : decode cX6_openAll 69 = .ok (.iconst 0, 1) := by decide +kernel
theorem dX6_openAll_70 : decode cX6_openAll 70 = .ok (.invokestatic 55, 3) := by decide +kernel
theorem dX6_openAll_73 : decode cX6_openAll 73 = .ok (.aload_n 0, 1) := by decide +kernel
theorem dX6_openAll_74 : decode cX6_openAll 74 = .ok (.getfield 19, 3) := by decide +kernel
theorem dX6_openAll_77 : decode cX6_openAll 77 = .ok (.aload_n 0, 1) := by decide +kernel
theorem dX6_openAll_78 : decode cX6_openAll 78 = .ok (.getfield 12, 3) := by decide +kernel
theorem dX6_openAll_81 : decode cX6_openAll 81 = .ok (.invokevirtual 58, 3) := by decide +kernel
theorem dX6_openAll_84 : decode cX6_openAll 84 = .ok (.aload_n 0, 1) := by decide +kernel
theorem dX6_openAll_85 : decode cX6_openAll 85 = .ok (.invokevirtual 148, 3) := by decide +kernel
theorem dX6_openAll_88 : decode cX6_openAll 88 = .ok (.aload_n 0, 1) := by decide +kernel
theorem dX6_openAll_89 : decode cX6_openAll 89 = .ok (.getfield 26, 3) := by decide +kernel
theorem dX6_openAll_92 : decode cX6_openAll 92 = .ok (.iconst 0, 1) := by decide +kernel
theorem dX6_openAll_93 : decode cX6_openAll 93 = .ok (.putfield 132, 3) := by decide +kernel
theorem dX6_openAll_96 : decode cX6_openAll 96 = .ok (.aload_n 0, 1) := by decide +kernel
theorem dX6_openAll_97 : decode cX6_openAll 97 = .ok (.getfield 12, 3) := by decide +kernel
theorem dX6_openAll_100 : decode cX6_openAll 100 = .ok (.getfield 51, 3) := by decide +kernel
theorem dX6_openAll_103 : decode cX6_openAll 103 = .ok (.ireturn, 1) := by decide +kernel
theorem dX6_undo_0 : decode cX6_undo 0 = .ok (.aload_n 0, 1) := by decide +kernel
theorem dX6_undo_1 : decode cX6_undo 1 = .ok (.getfield 19, 3) := by decide +kernel
theorem dX6_undo_4 : decode cX6_undo 4 = .ok (.getfield 151, 3) := by decide +kernel
theorem dX6_undo_7 : decode cX6_undo 7 = .ok (.ifCond .le 7, 3) := by decide +kernel
theorem dX6_undo_10 : decode cX6_undo 10 = .ok (.iconst 1, 1) := by decide +kernel
theorem dX6_undo_11 : decode cX6_undo 11 = .ok (.goto 4, 3) := by decide +kernel
theorem dX6_undo_14 : decode cX6_undo 14 = .ok (.iconst 0, 1) := by decide +kernel
theorem dX6_undo_15 : decode cX6_undo 15 = .ok (.invokestatic 55, 3) := by decide +kernel
theorem dX6_undo_18 : decode cX6_undo 18 = .ok (.aload_n 0, 1) := by decide +kernel
theorem dX6_undo_19 : decode cX6_undo 19 = .ok (.getfield 19, 3) := by decide +kernel
theorem dX6_undo_22 : decode cX6_undo 22 = .ok (.aload_n 0, 1) := by decide +kernel
theorem dX6_undo_23 : decode cX6_undo 23 = .ok (.getfield 12, 3) := by decide +kernel
theorem dX6_undo_26 : decode cX6_undo 26 = .ok (.invokevirtual 154, 3) := by decide +kernel
theorem dX6_undo_29 : decode cX6_undo 29 = .ok (.aload_n 0, 1) := by decide +kernel
theorem dX6_undo_30 : decode cX6_undo 30 = .ok (.getfield 19, 3) := by decide +kernel
theorem dX6_undo_33 : decode cX6_undo 33 = .ok (.getfield 151, 3) := by decide +kernel
theorem dX6_undo_36 : decode cX6_undo 36 = .ok (.ireturn, 1) := by decide +kernel
theorem dX6_lease_0 : decode cX6_lease 0 = .ok (.aload_n 0, 1) := by decide +kernel
theorem dX6_lease_1 : decode cX6_lease 1 = .ok (.iload_n 1, 1) := by decide +kernel
theorem dX6_lease_2 : decode cX6_lease 2 = .ok (.invokevirtual 66, 3) := by decide +kernel
theorem dX6_lease_5 : decode cX6_lease 5 = .ok (.pop, 1) := by decide +kernel
theorem dX6_lease_6 : decode cX6_lease 6 = .ok (.iload_n 2, 1) := by decide +kernel
theorem dX6_lease_7 : decode cX6_lease 7 = .ok (.iconst 0, 1) := by decide +kernel
theorem dX6_lease_8 : decode cX6_lease 8 = .ok (.bipush 8, 2) := by decide +kernel
theorem dX6_lease_10 : decode cX6_lease 10 = .ok (.invokestatic 108, 3) := by decide +kernel
theorem dX6_lease_13 : decode cX6_lease 13 = .ok (.invokestatic 47, 3) := by decide +kernel
theorem dX6_lease_16 : decode cX6_lease 16 = .ok (.aload_n 0, 1) := by decide +kernel
theorem dX6_lease_17 : decode cX6_lease 17 = .ok (.getfield 12, 3) := by decide +kernel
theorem dX6_lease_20 : decode cX6_lease 20 = .ok (.iload_n 1, 1) := by decide +kernel
theorem dX6_lease_21 : decode cX6_lease 21 = .ok (.iload_n 2, 1) := by decide +kernel
theorem dX6_lease_22 : decode cX6_lease 22 = .ok (.invokevirtual 157, 3) := by decide +kernel
theorem dX6_lease_25 : decode cX6_lease 25 = .ok (.ireturn, 1) := by decide +kernel
theorem dX6_sublease_0 : decode cX6_sublease 0 = .ok (.iload_n 1, 1) := by decide +kernel
theorem dX6_sublease_1 : decode cX6_sublease 1 = .ok (.ifCond .lt 18, 3) := by decide +kernel
theorem dX6_sublease_4 : decode cX6_sublease 4 = .ok (.iload_n 1, 1) := by decide +kernel
theorem dX6_sublease_5 : decode cX6_sublease 5 = .ok (.aload_n 0, 1) := by decide +kernel
theorem dX6_sublease_6 : decode cX6_sublease 6 = .ok (.getfield 12, 3) := by decide +kernel
theorem dX6_sublease_9 : decode cX6_sublease 9 = .ok (.getfield 160, 3) := by decide +kernel
theorem dX6_sublease_12 : decode cX6_sublease 12 = .ok (.if_icmp .ge 7, 3) := by decide +kernel
theorem dX6_sublease_15 : decode cX6_sublease 15 = .ok (.iconst 1, 1) := by decide +kernel
theorem dX6_sublease_16 : decode cX6_sublease 16 = .ok (.goto 4, 3) := by decide +kernel
theorem dX6_sublease_19 : decode cX6_sublease 19 = .ok (.iconst 0, 1) := by decide +kernel
theorem dX6_sublease_20 : decode cX6_sublease 20 = .ok (.invokestatic 163, 3) := by decide +kernel
theorem dX6_sublease_23 : decode cX6_sublease 23 = .ok (.iload_n 2, 1) := by decide +kernel
theorem dX6_sublease_24 : decode cX6_sublease 24 = .ok (.iconst 0, 1) := by decide +kernel
theorem dX6_sublease_25 : decode cX6_sublease 25 = .ok (.iconst 5, 1) := by decide +kernel
theorem dX6_sublease_26 : decode cX6_sublease 26 = .ok (.invokestatic 108, 3) := by decide +kernel
theorem dX6_sublease_29 : decode cX6_sublease 29 = .ok (.invokestatic 47, 3) := by decide +kernel
theorem dX6_sublease_32 : decode cX6_sublease 32 = .ok (.aload_n 0, 1) := by decide +kernel
theorem dX6_sublease_33 : decode cX6_sublease 33 = .ok (.getfield 12, 3) := by decide +kernel
theorem dX6_sublease_36 : decode cX6_sublease 36 = .ok (.iload_n 1, 1) := by decide +kernel
theorem dX6_sublease_37 : decode cX6_sublease 37 = .ok (.iload_n 2, 1) := by decide +kernel
theorem dX6_sublease_38 : decode cX6_sublease 38 = .ok (.invokevirtual 166, 3) := by decide +kernel
theorem dX6_sublease_41 : decode cX6_sublease 41 = .ok (.ireturn, 1) := by decide +kernel
theorem dX6_movement_0 : decode cX6_movement 0 = .ok (.aload_n 0, 1) := by decide +kernel
theorem dX6_movement_1 : decode cX6_movement 1 = .ok (.iload_n 1, 1) := by decide +kernel
theorem dX6_movement_2 : decode cX6_movement 2 = .ok (.invokevirtual 66, 3) := by decide +kernel
theorem dX6_movement_5 : decode cX6_movement 5 = .ok (.astore_n 3, 1) := by decide +kernel
theorem dX6_movement_6 : decode cX6_movement 6 = .ok (.iload_n 2, 1) := by decide +kernel
theorem dX6_movement_7 : decode cX6_movement 7 = .ok (.iconst 0, 1) := by decide +kernel
theorem dX6_movement_8 : decode cX6_movement 8 = .ok (.bipush 16, 2) := by decide +kernel
theorem dX6_movement_10 : decode cX6_movement 10 = .ok (.invokestatic 108, 3) := by decide +kernel
theorem dX6_movement_13 : decode cX6_movement 13 = .ok (.invokestatic 47, 3) := by decide +kernel
theorem dX6_movement_16 : decode cX6_movement 16 = .ok (.aload_n 3, 1) := by decide +kernel
theorem dX6_movement_17 : decode cX6_movement 17 = .ok (.iload_n 2, 1) := by decide +kernel
theorem dX6_movement_18 : decode cX6_movement 18 = .ok (.invokevirtual 169, 3) := by decide +kernel
theorem dX6_movement_21 : decode cX6_movement 21 = .ok (.ireturn, 1) := by decide +kernel
theorem dX6_profit_0 : decode cX6_profit 0 = .ok (.aload_n 0, 1) := by decide +kernel
theorem dX6_profit_1 : decode cX6_profit 1 = .ok (.iload_n 1, 1) := by decide +kernel
theorem dX6_profit_2 : decode cX6_profit 2 = .ok (.invokevirtual 66, 3) := by decide +kernel
theorem dX6_profit_5 : decode cX6_profit 5 = .ok (.astore_n 3, 1) := by decide +kernel
theorem dX6_profit_6 : decode cX6_profit 6 = .ok (.iload_n 2, 1) := by decide +kernel
theorem dX6_profit_7 : decode cX6_profit 7 = .ok (.iconst 0, 1) := by decide +kernel
theorem dX6_profit_8 : decode cX6_profit 8 = .ok (.iconst 1, 1) := by decide +kernel
theorem dX6_profit_9 : decode cX6_profit 9 = .ok (.invokestatic 108, 3) := by decide +kernel
theorem dX6_profit_12 : decode cX6_profit 12 = .ok (.invokestatic 47, 3) := by decide +kernel
theorem dX6_profit_15 : decode cX6_profit 15 = .ok (.iload_n 2, 1) := by decide +kernel
theorem dX6_profit_16 : decode cX6_profit 16 = .ok (.ifCond .ne 8, 3) := by decide +kernel
theorem dX6_profit_19 : decode cX6_profit 19 = .ok (.aload_n 3, 1) := by decide +kernel
theorem dX6_profit_20 : decode cX6_profit 20 = .ok (.invokevirtual 172, 3) := by decide +kernel
theorem dX6_profit_23 : decode cX6_profit 23 = .ok (.ireturn, 1) := by decide +kernel
theorem dX6_profit_24 : decode cX6_profit 24 = .ok (.aload_n 3, 1) := by decide +kernel
theorem dX6_profit_25 : decode cX6_profit 25 = .ok (.aload_n 0, 1) := by decide +kernel
theorem dX6_profit_26 : decode cX6_profit 26 = .ok (.getfield 12, 3) := by decide +kernel
theorem dX6_profit_29 : decode cX6_profit 29 = .ok (.iload_n 1, 1) := by decide +kernel
theorem dX6_profit_30 : decode cX6_profit 30 = .ok (.iconst 5, 1) := by decide +kernel
theorem dX6_profit_31 : decode cX6_profit 31 = .ok (.invokevirtual 176, 3) := by decide +kernel
theorem dX6_profit_34 : decode cX6_profit 34 = .ok (.invokevirtual 179, 3) := by decide +kernel
theorem dX6_profit_37 : decode cX6_profit 37 = .ok (.ireturn, 1) := by decide +kernel
theorem dX6_count_0 : decode cX6_count 0 = .ok (.iload_n 1, 1) := by decide +kernel
theorem dX6_count_1 : decode cX6_count 1 = .ok (.iconst 0, 1) := by decide +kernel
theorem dX6_count_2 : decode cX6_count 2 = .ok (.bipush 10, 2) := by decide +kernel
theorem dX6_count_4 : decode cX6_count 4 = .ok (.invokestatic 108, 3) := by decide +kernel
theorem dX6_count_7 : decode cX6_count 7 = .ok (.invokestatic 47, 3) := by decide +kernel
theorem dX6_count_10 : decode cX6_count 10 = .ok (.iload_n 1, 1) := by decide +kernel
theorem dX6_count_11 : decode cX6_count 11 = .ok (.tableswitch 138 0 9 #[53, 61, 69, 77, 85, 95, 104, 113, 122, 130], 53) := by decide +kernel
theorem dX6_count_64 : decode cX6_count 64 = .ok (.aload_n 0, 1) := by decide +kernel
theorem dX6_count_65 : decode cX6_count 65 = .ok (.getfield 12, 3) := by decide +kernel
theorem dX6_count_68 : decode cX6_count 68 = .ok (.getfield 51, 3) := by decide +kernel
theorem dX6_count_71 : decode cX6_count 71 = .ok (.ireturn, 1) := by decide +kernel
theorem dX6_count_72 : decode cX6_count 72 = .ok (.aload_n 0, 1) := by decide +kernel
theorem dX6_count_73 : decode cX6_count 73 = .ok (.getfield 12, 3) := by decide +kernel
theorem dX6_count_76 : decode cX6_count 76 = .ok (.getfield 160, 3) := by decide +kernel
theorem dX6_count_79 : decode cX6_count 79 = .ok (.ireturn, 1) := by decide +kernel
theorem dX6_count_80 : decode cX6_count 80 = .ok (.aload_n 0, 1) := by decide +kernel
theorem dX6_count_81 : decode cX6_count 81 = .ok (.getfield 12, 3) := by decide +kernel
theorem dX6_count_84 : decode cX6_count 84 = .ok (.getfield 126, 3) := by decide +kernel
theorem dX6_count_87 : decode cX6_count 87 = .ok (.ireturn, 1) := by decide +kernel
theorem dX6_count_88 : decode cX6_count 88 = .ok (.aload_n 0, 1) := by decide +kernel
theorem dX6_count_89 : decode cX6_count 89 = .ok (.getfield 12, 3) := by decide +kernel
theorem dX6_count_92 : decode cX6_count 92 = .ok (.invokevirtual 182, 3) := by decide +kernel
theorem dX6_count_95 : decode cX6_count 95 = .ok (.ireturn, 1) := by decide +kernel
theorem dX6_count_96 : decode cX6_count 96 = .ok (.aload_n 0, 1) := by decide +kernel
theorem dX6_count_97 : decode cX6_count 97 = .ok (.getfield 12, 3) := by decide +kernel
theorem dX6_count_100 : decode cX6_count 100 = .ok (.bipush 8, 2) := by decide +kernel
theorem dX6_count_102 : decode cX6_count 102 = .ok (.invokevirtual 185, 3) := by decide +kernel
theorem dX6_count_105 : decode cX6_count 105 = .ok (.ireturn, 1) := by decide +kernel
theorem dX6_count_106 : decode cX6_count 106 = .ok (.aload_n 0, 1) := by decide +kernel
theorem dX6_count_107 : decode cX6_count 107 = .ok (.getfield 12, 3) := by decide +kernel
theorem dX6_count_110 : decode cX6_count 110 = .ok (.iconst 3, 1) := by decide +kernel
theorem dX6_count_111 : decode cX6_count 111 = .ok (.invokevirtual 185, 3) := by decide +kernel
theorem dX6_count_114 : decode cX6_count 114 = .ok (.ireturn, 1) := by decide +kernel
theorem dX6_count_115 : decode cX6_count 115 = .ok (.aload_n 0, 1) := by decide +kernel
theorem dX6_count_116 : decode cX6_count 116 = .ok (.getfield 12, 3) := by decide +kernel
theorem dX6_count_119 : decode cX6_count 119 = .ok (.iconst 4, 1) := by decide +kernel
theorem dX6_count_120 : decode cX6_count 120 = .ok (.invokevirtual 185, 3) := by decide +kernel
theorem dX6_count_123 : decode cX6_count 123 = .ok (.ireturn, 1) := by decide +kernel
theorem dX6_count_124 : decode cX6_count 124 = .ok (.aload_n 0, 1) := by decide +kernel
theorem dX6_count_125 : decode cX6_count 125 = .ok (.getfield 12, 3) := by decide +kernel
theorem dX6_count_128 : decode cX6_count 128 = .ok (.iconst 5, 1) := by decide +kernel
theorem dX6_count_129 : decode cX6_count 129 = .ok (.invokevirtual 185, 3) := by decide +kernel
theorem dX6_count_132 : decode cX6_count 132 = .ok (.ireturn, 1) := by decide +kernel
theorem dX6_count_133 : decode cX6_count 133 = .ok (.aload_n 0, 1) := by decide +kernel
theorem dX6_count_134 : decode cX6_count 134 = .ok (.getfield 12, 3) := by decide +kernel
theorem dX6_count_137 : decode cX6_count 137 = .ok (.invokevirtual 188, 3) := by decide +kernel
theorem dX6_count_140 : decode cX6_count 140 = .ok (.ireturn, 1) := by decide +kernel
theorem dX6_count_141 : decode cX6_count 141 = .ok (.aload_n 0, 1) := by decide +kernel
theorem dX6_count_142 : decode cX6_count 142 = .ok (.getfield 12, 3) := by decide +kernel
theorem dX6_count_145 : decode cX6_count 145 = .ok (.invokevirtual 191, 3) := by decide +kernel
theorem dX6_count_148 : decode cX6_count 148 = .ok (.ireturn, 1) := by decide +kernel
theorem dX6_count_149 : decode cX6_count 149 = .ok (.aload_n 0, 1) := by decide +kernel
theorem dX6_count_150 : decode cX6_count 150 = .ok (.getfield 19, 3) := by decide +kernel
theorem dX6_count_153 : decode cX6_count 153 = .ok (.getfield 151, 3) := by decide +kernel
theorem dX6_count_156 : decode cX6_count 156 = .ok (.ireturn, 1) := by decide +kernel
theorem dX6_worth_0 : decode cX6_worth 0 = .ok (.iload_n 1, 1) := by decide +kernel
theorem dX6_worth_1 : decode cX6_worth 1 = .ok (.invokestatic 37, 3) := by decide +kernel
theorem dX6_worth_4 : decode cX6_worth 4 = .ok (.ifCond .eq 24, 3) := by decide +kernel
theorem dX6_worth_7 : decode cX6_worth 7 = .ok (.iload_n 2, 1) := by decide +kernel
theorem dX6_worth_8 : decode cX6_worth 8 = .ok (.iconst 0, 1) := by decide +kernel
theorem dX6_worth_9 : decode cX6_worth 9 = .ok (.bipush 60, 2) := by decide +kernel
theorem dX6_worth_11 : decode cX6_worth 11 = .ok (.invokestatic 108, 3) := by decide +kernel
theorem dX6_worth_14 : decode cX6_worth 14 = .ok (.ifCond .eq 14, 3) := by decide +kernel
theorem dX6_worth_17 : decode cX6_worth 17 = .ok (.iload_n 3, 1) := by decide +kernel
theorem dX6_worth_18 : decode cX6_worth 18 = .ok (.invokestatic 44, 3) := by decide +kernel
theorem dX6_worth_21 : decode cX6_worth 21 = .ok (.ifCond .eq 7, 3) := by decide +kernel
theorem dX6_worth_24 : decode cX6_worth 24 = .ok (.iconst 1, 1) := by decide +kernel
theorem dX6_worth_25 : decode cX6_worth 25 = .ok (.goto 4, 3) := by decide +kernel
theorem dX6_worth_28 : decode cX6_worth 28 = .ok (.iconst 0, 1) := by decide +kernel
theorem dX6_worth_29 : decode cX6_worth 29 = .ok (.invokestatic 47, 3) := by decide +kernel
theorem dX6_worth_32 : decode cX6_worth 32 = .ok (.iload_n 1, 1) := by decide +kernel
theorem dX6_worth_33 : decode cX6_worth 33 = .ok (.iload_n 2, 1) := by decide +kernel
theorem dX6_worth_34 : decode cX6_worth 34 = .ok (.iload_n 3, 1) := by decide +kernel
theorem dX6_worth_35 : decode cX6_worth 35 = .ok (.invokestatic 194, 3) := by decide +kernel
theorem dX6_worth_38 : decode cX6_worth 38 = .ok (.ireturn, 1) := by decide +kernel
theorem dX6_plan_0 : decode cX6_plan 0 = .ok (.aload_n 0, 1) := by decide +kernel
theorem dX6_plan_1 : decode cX6_plan 1 = .ok (.iload_n 1, 1) := by decide +kernel
theorem dX6_plan_2 : decode cX6_plan 2 = .ok (.invokevirtual 66, 3) := by decide +kernel
theorem dX6_plan_5 : decode cX6_plan 5 = .ok (.astore 4, 2) := by decide +kernel
theorem dX6_plan_7 : decode cX6_plan 7 = .ok (.iload_n 2, 1) := by decide +kernel
theorem dX6_plan_8 : decode cX6_plan 8 = .ok (.iconst 0, 1) := by decide +kernel
theorem dX6_plan_9 : decode cX6_plan 9 = .ok (.bipush 60, 2) := by decide +kernel
theorem dX6_plan_11 : decode cX6_plan 11 = .ok (.invokestatic 108, 3) := by decide +kernel
theorem dX6_plan_14 : decode cX6_plan 14 = .ok (.ifCond .eq 16, 3) := by decide +kernel
theorem dX6_plan_17 : decode cX6_plan 17 = .ok (.iload_n 3, 1) := by decide +kernel
theorem dX6_plan_18 : decode cX6_plan 18 = .ok (.iconst 0, 1) := by decide +kernel
theorem dX6_plan_19 : decode cX6_plan 19 = .ok (.iconst 3, 1) := by decide +kernel
theorem dX6_plan_20 : decode cX6_plan 20 = .ok (.invokestatic 108, 3) := by decide +kernel
theorem dX6_plan_23 : decode cX6_plan 23 = .ok (.ifCond .eq 7, 3) := by decide +kernel
theorem dX6_plan_26 : decode cX6_plan 26 = .ok (.iconst 1, 1) := by decide +kernel
theorem dX6_plan_27 : decode cX6_plan 27 = .ok (.goto 4, 3) := by decide +kernel
theorem dX6_plan_30 : decode cX6_plan 30 = .ok (.iconst 0, 1) := by decide +kernel
theorem dX6_plan_31 : decode cX6_plan 31 = .ok (.invokestatic 47, 3) := by decide +kernel
theorem dX6_plan_34 : decode cX6_plan 34 = .ok (.iload_n 3, 1) := by decide +kernel
theorem dX6_plan_35 : decode cX6_plan 35 = .ok (.tableswitch 49 0 2 #[25, 32, 39], 25) := by decide +kernel
theorem dX6_plan_60 : decode cX6_plan 60 = .ok (.aload 4, 2) := by decide +kernel
theorem dX6_plan_62 : decode cX6_plan 62 = .ok (.iload_n 2, 1) := by decide +kernel
theorem dX6_plan_63 : decode cX6_plan 63 = .ok (.invokevirtual 198, 3) := by decide +kernel
theorem dX6_plan_66 : decode cX6_plan 66 = .ok (.ireturn, 1) := by decide +kernel
theorem dX6_plan_67 : decode cX6_plan 67 = .ok (.aload 4, 2) := by decide +kernel
theorem dX6_plan_69 : decode cX6_plan 69 = .ok (.iload_n 2, 1) := by decide +kernel
theorem dX6_plan_70 : decode cX6_plan 70 = .ok (.invokevirtual 201, 3) := by decide +kernel
theorem dX6_plan_73 : decode cX6_plan 73 = .ok (.ireturn, 1) := by decide +kernel
theorem dX6_plan_74 : decode cX6_plan 74 = .ok (.aload_n 0, 1) := by decide +kernel
theorem dX6_plan_75 : decode cX6_plan 75 = .ok (.getfield 12, 3) := by decide +kernel
theorem dX6_plan_78 : decode cX6_plan 78 = .ok (.iload_n 1, 1) := by decide +kernel
theorem dX6_plan_79 : decode cX6_plan 79 = .ok (.iload_n 2, 1) := by decide +kernel
theorem dX6_plan_80 : decode cX6_plan 80 = .ok (.invokevirtual 204, 3) := by decide +kernel
theorem dX6_plan_83 : decode cX6_plan 83 = .ok (.ireturn, 1) := by decide +kernel
theorem dX6_plan_84 : decode cX6_plan 84 = .ok (.aload 4, 2) := by decide +kernel
theorem dX6_plan_86 : decode cX6_plan 86 = .ok (.iload_n 2, 1) := by decide +kernel
theorem dX6_plan_87 : decode cX6_plan 87 = .ok (.invokevirtual 207, 3) := by decide +kernel
theorem dX6_plan_90 : decode cX6_plan 90 = .ok (.ireturn, 1) := by decide +kernel
theorem dX6_ifMeasured_0 : decode cX6_ifMeasured 0 = .ok (.aload_n 0, 1) := by decide +kernel
theorem dX6_ifMeasured_1 : decode cX6_ifMeasured 1 = .ok (.iload_n 1, 1) := by decide +kernel
theorem dX6_ifMeasured_2 : decode cX6_ifMeasured 2 = .ok (.invokevirtual 66, 3) := by decide +kernel
theorem dX6_ifMeasured_5 : decode cX6_ifMeasured 5 = .ok (.astore 6, 2) := by decide +kernel
theorem dX6_ifMeasured_7 : decode cX6_ifMeasured 7 = .ok (.iload_n 2, 1) := by decide +kernel
theorem dX6_ifMeasured_8 : decode cX6_ifMeasured 8 = .ok (.invokestatic 37, 3) := by decide +kernel
theorem dX6_ifMeasured_11 : decode cX6_ifMeasured 11 = .ok (.ifCond .eq 32, 3) := by decide +kernel
theorem dX6_ifMeasured_14 : decode cX6_ifMeasured 14 = .ok (.iload_n 3, 1) := by decide +kernel
theorem dX6_ifMeasured_15 : decode cX6_ifMeasured 15 = .ok (.invokestatic 41, 3) := by decide +kernel
theorem dX6_ifMeasured_18 : decode cX6_ifMeasured 18 = .ok (.ifCond .eq 25, 3) := by decide +kernel
theorem dX6_ifMeasured_21 : decode cX6_ifMeasured 21 = .ok (.iload 4, 2) := by decide +kernel
theorem dX6_ifMeasured_23 : decode cX6_ifMeasured 23 = .ok (.invokestatic 44, 3) := by decide +kernel
theorem dX6_ifMeasured_26 : decode cX6_ifMeasured 26 = .ok (.ifCond .eq 17, 3) := by decide +kernel
theorem dX6_ifMeasured_29 : decode cX6_ifMeasured 29 = .ok (.iload 5, 2) := by decide +kernel
theorem dX6_ifMeasured_31 : decode cX6_ifMeasured 31 = .ok (.iconst 0, 1) := by decide +kernel
theorem dX6_ifMeasured_32 : decode cX6_ifMeasured 32 = .ok (.iconst 2, 1) := by decide +kernel
theorem dX6_ifMeasured_33 : decode cX6_ifMeasured 33 = .ok (.invokestatic 108, 3) := by decide +kernel
theorem dX6_ifMeasured_36 : decode cX6_ifMeasured 36 = .ok (.ifCond .eq 7, 3) := by decide +kernel
theorem dX6_ifMeasured_39 : decode cX6_ifMeasured 39 = .ok (.iconst 1, 1) := by decide +kernel
theorem dX6_ifMeasured_40 : decode cX6_ifMeasured 40 = .ok (.goto 4, 3) := by decide +kernel
theorem dX6_ifMeasured_43 : decode cX6_ifMeasured 43 = .ok (.iconst 0, 1) := by decide +kernel
theorem dX6_ifMeasured_44 : decode cX6_ifMeasured 44 = .ok (.invokestatic 47, 3) := by decide +kernel
theorem dX6_ifMeasured_47 : decode cX6_ifMeasured 47 = .ok (.aload 6, 2) := by decide +kernel
theorem dX6_ifMeasured_49 : decode cX6_ifMeasured 49 = .ok (.invokevirtual 70, 3) := by decide +kernel
theorem dX6_ifMeasured_52 : decode cX6_ifMeasured 52 = .ok (.ifCond .ne 5, 3) := by decide +kernel
theorem dX6_ifMeasured_55 : decode cX6_ifMeasured 55 = .ok (.iconst (-1), 1) := by decide +kernel
theorem dX6_ifMeasured_56 : decode cX6_ifMeasured 56 = .ok (.ireturn, 1) := by decide +kernel
theorem dX6_ifMeasured_57 : decode cX6_ifMeasured 57 = .ok (.iload_n 2, 1) := by decide +kernel
theorem dX6_ifMeasured_58 : decode cX6_ifMeasured 58 = .ok (.iload_n 3, 1) := by decide +kernel
theorem dX6_ifMeasured_59 : decode cX6_ifMeasured 59 = .ok (.iload 4, 2) := by decide +kernel
theorem dX6_ifMeasured_61 : decode cX6_ifMeasured 61 = .ok (.invokestatic 194, 3) := by decide +kernel
theorem dX6_ifMeasured_64 : decode cX6_ifMeasured 64 = .ok (.istore 7, 2) := by decide +kernel
theorem dX6_ifMeasured_66 : decode cX6_ifMeasured 66 = .ok (.aload 6, 2) := by decide +kernel
theorem dX6_ifMeasured_68 : decode cX6_ifMeasured 68 = .ok (.iload 7, 2) := by decide +kernel
theorem dX6_ifMeasured_70 : decode cX6_ifMeasured 70 = .ok (.invokevirtual 210, 3) := by decide +kernel
theorem dX6_ifMeasured_73 : decode cX6_ifMeasured 73 = .ok (.istore 8, 2) := by decide +kernel
theorem dX6_ifMeasured_75 : decode cX6_ifMeasured 75 = .ok (.iload 5, 2) := by decide +kernel
theorem dX6_ifMeasured_77 : decode cX6_ifMeasured 77 = .ok (.lookupswitch 33 #[(0, 27), (1, 30)], 27) := by decide +kernel
theorem dX6_ifMeasured_104 : decode cX6_ifMeasured 104 = .ok (.iload 7, 2) := by decide +kernel
theorem dX6_ifMeasured_106 : decode cX6_ifMeasured 106 = .ok (.ireturn, 1) := by decide +kernel
theorem dX6_ifMeasured_107 : decode cX6_ifMeasured 107 = .ok (.iload 8, 2) := by decide +kernel
theorem dX6_ifMeasured_109 : decode cX6_ifMeasured 109 = .ok (.ireturn, 1) := by decide +kernel
theorem dX6_ifMeasured_110 : decode cX6_ifMeasured 110 = .ok (.aload 6, 2) := by decide +kernel
theorem dX6_ifMeasured_112 : decode cX6_ifMeasured 112 = .ok (.getfield 87, 3) := by decide +kernel
theorem dX6_ifMeasured_115 : decode cX6_ifMeasured 115 = .ok (.iload 7, 2) := by decide +kernel
theorem dX6_ifMeasured_117 : decode cX6_ifMeasured 117 = .ok (.isub, 1) := by decide +kernel
theorem dX6_ifMeasured_118 : decode cX6_ifMeasured 118 = .ok (.iload 8, 2) := by decide +kernel
theorem dX6_ifMeasured_120 : decode cX6_ifMeasured 120 = .ok (.iadd, 1) := by decide +kernel
theorem dX6_ifMeasured_121 : decode cX6_ifMeasured 121 = .ok (.aload 6, 2) := by decide +kernel
theorem dX6_ifMeasured_123 : decode cX6_ifMeasured 123 = .ok (.getfield 112, 3) := by decide +kernel
theorem dX6_ifMeasured_126 : decode cX6_ifMeasured 126 = .ok (.isub, 1) := by decide +kernel
theorem dX6_ifMeasured_127 : decode cX6_ifMeasured 127 = .ok (.aload_n 0, 1) := by decide +kernel
theorem dX6_ifMeasured_128 : decode cX6_ifMeasured 128 = .ok (.getfield 12, 3) := by decide +kernel
theorem dX6_ifMeasured_131 : decode cX6_ifMeasured 131 = .ok (.iload_n 1, 1) := by decide +kernel
theorem dX6_ifMeasured_132 : decode cX6_ifMeasured 132 = .ok (.iload_n 3, 1) := by decide +kernel
theorem dX6_ifMeasured_133 : decode cX6_ifMeasured 133 = .ok (.invokevirtual 213, 3) := by decide +kernel
theorem dX6_ifMeasured_136 : decode cX6_ifMeasured 136 = .ok (.isub, 1) := by decide +kernel
theorem dX6_ifMeasured_137 : decode cX6_ifMeasured 137 = .ok (.ireturn, 1) := by decide +kernel
theorem dX6_paymentFor_0 : decode cX6_paymentFor 0 = .ok (.aload_n 0, 1) := by decide +kernel
theorem dX6_paymentFor_1 : decode cX6_paymentFor 1 = .ok (.iload_n 1, 1) := by decide +kernel
theorem dX6_paymentFor_2 : decode cX6_paymentFor 2 = .ok (.invokevirtual 66, 3) := by decide +kernel
theorem dX6_paymentFor_5 : decode cX6_paymentFor 5 = .ok (.astore_n 3, 1) := by decide +kernel
theorem dX6_paymentFor_6 : decode cX6_paymentFor 6 = .ok (.iload_n 2, 1) := by decide +kernel
theorem dX6_paymentFor_7 : decode cX6_paymentFor 7 = .ok (.iconst 0, 1) := by decide +kernel
theorem dX6_paymentFor_8 : decode cX6_paymentFor 8 = .ok (.ldc 216, 2) := by decide +kernel
theorem dX6_paymentFor_10 : decode cX6_paymentFor 10 = .ok (.invokestatic 108, 3) := by decide +kernel
theorem dX6_paymentFor_13 : decode cX6_paymentFor 13 = .ok (.invokestatic 47, 3) := by decide +kernel
theorem dX6_paymentFor_16 : decode cX6_paymentFor 16 = .ok (.aload_n 3, 1) := by decide +kernel
theorem dX6_paymentFor_17 : decode cX6_paymentFor 17 = .ok (.invokevirtual 70, 3) := by decide +kernel
theorem dX6_paymentFor_20 : decode cX6_paymentFor 20 = .ok (.ifCond .eq 18, 3) := by decide +kernel
theorem dX6_paymentFor_23 : decode cX6_paymentFor 23 = .ok (.iload_n 2, 1) := by decide +kernel
theorem dX6_paymentFor_24 : decode cX6_paymentFor 24 = .ok (.aload_n 3, 1) := by decide +kernel
theorem dX6_paymentFor_25 : decode cX6_paymentFor 25 = .ok (.getfield 90, 3) := by decide +kernel
theorem dX6_paymentFor_28 : decode cX6_paymentFor 28 = .ok (.aload_n 3, 1) := by decide +kernel
theorem dX6_paymentFor_29 : decode cX6_paymentFor 29 = .ok (.getfield 93, 3) := by decide +kernel
theorem dX6_paymentFor_32 : decode cX6_paymentFor 32 = .ok (.invokestatic 217, 3) := by decide +kernel
theorem dX6_paymentFor_35 : decode cX6_paymentFor 35 = .ok (.goto 4, 3) := by decide +kernel
theorem dX6_paymentFor_38 : decode cX6_paymentFor 38 = .ok (.iconst (-1), 1) := by decide +kernel
theorem dX6_paymentFor_39 : decode cX6_paymentFor 39 = .ok (.ireturn, 1) := by decide +kernel
theorem dX6_rateWithin_0 : decode cX6_rateWithin 0 = .ok (.aload_n 0, 1) := by decide +kernel
theorem dX6_rateWithin_1 : decode cX6_rateWithin 1 = .ok (.iload_n 1, 1) := by decide +kernel
theorem dX6_rateWithin_2 : decode cX6_rateWithin 2 = .ok (.invokevirtual 66, 3) := by decide +kernel
theorem dX6_rateWithin_5 : decode cX6_rateWithin 5 = .ok (.astore_n 2, 1) := by decide +kernel
theorem dX6_rateWithin_6 : decode cX6_rateWithin 6 = .ok (.aload_n 2, 1) := by decide +kernel
theorem dX6_rateWithin_7 : decode cX6_rateWithin 7 = .ok (.invokevirtual 70, 3) := by decide +kernel
theorem dX6_rateWithin_10 : decode cX6_rateWithin 10 = .ok (.ifCond .eq 10, 3) := by decide +kernel
theorem dX6_rateWithin_13 : decode cX6_rateWithin 13 = .ok (.aload_n 2, 1) := by decide +kernel
theorem dX6_rateWithin_14 : decode cX6_rateWithin 14 = .ok (.invokevirtual 220, 3) := by decide +kernel
theorem dX6_rateWithin_17 : decode cX6_rateWithin 17 = .ok (.goto 4, 3) := by decide +kernel
theorem dX6_rateWithin_20 : decode cX6_rateWithin 20 = .ok (.iconst (-1), 1) := by decide +kernel
theorem dX6_rateWithin_21 : decode cX6_rateWithin 21 = .ok (.ireturn, 1) := by decide +kernel
theorem dX6_fairReceipt_0 : decode cX6_fairReceipt 0 = .ok (.aload_n 0, 1) := by decide +kernel
theorem dX6_fairReceipt_1 : decode cX6_fairReceipt 1 = .ok (.iload_n 1, 1) := by decide +kernel
theorem dX6_fairReceipt_2 : decode cX6_fairReceipt 2 = .ok (.invokevirtual 66, 3) := by decide +kernel
theorem dX6_fairReceipt_5 : decode cX6_fairReceipt 5 = .ok (.astore 4, 2) := by decide +kernel
theorem dX6_fairReceipt_7 : decode cX6_fairReceipt 7 = .ok (.iload_n 2, 1) := by decide +kernel
theorem dX6_fairReceipt_8 : decode cX6_fairReceipt 8 = .ok (.invokestatic 96, 3) := by decide +kernel
theorem dX6_fairReceipt_11 : decode cX6_fairReceipt 11 = .ok (.ifCond .eq 14, 3) := by decide +kernel
theorem dX6_fairReceipt_14 : decode cX6_fairReceipt 14 = .ok (.iload_n 3, 1) := by decide +kernel
theorem dX6_fairReceipt_15 : decode cX6_fairReceipt 15 = .ok (.invokestatic 41, 3) := by decide +kernel
theorem dX6_fairReceipt_18 : decode cX6_fairReceipt 18 = .ok (.ifCond .eq 7, 3) := by decide +kernel
theorem dX6_fairReceipt_21 : decode cX6_fairReceipt 21 = .ok (.iconst 1, 1) := by decide +kernel
theorem dX6_fairReceipt_22 : decode cX6_fairReceipt 22 = .ok (.goto 4, 3) := by decide +kernel
theorem dX6_fairReceipt_25 : decode cX6_fairReceipt 25 = .ok (.iconst 0, 1) := by decide +kernel
theorem dX6_fairReceipt_26 : decode cX6_fairReceipt 26 = .ok (.invokestatic 47, 3) := by decide +kernel
theorem dX6_fairReceipt_29 : decode cX6_fairReceipt 29 = .ok (.aload_n 0, 1) := by decide +kernel
theorem dX6_fairReceipt_30 : decode cX6_fairReceipt 30 = .ok (.getfield 12, 3) := by decide +kernel
theorem dX6_fairReceipt_33 : decode cX6_fairReceipt 33 = .ok (.iload_n 1, 1) := by decide +kernel
theorem dX6_fairReceipt_34 : decode cX6_fairReceipt 34 = .ok (.iload_n 2, 1) := by decide +kernel
theorem dX6_fairReceipt_35 : decode cX6_fairReceipt 35 = .ok (.iload_n 3, 1) := by decide +kernel
theorem dX6_fairReceipt_36 : decode cX6_fairReceipt 36 = .ok (.invokevirtual 119, 3) := by decide +kernel
theorem dX6_fairReceipt_39 : decode cX6_fairReceipt 39 = .ok (.ifCond .ne 5, 3) := by decide +kernel
theorem dX6_fairReceipt_42 : decode cX6_fairReceipt 42 = .ok (.iconst (-1), 1) := by decide +kernel
theorem dX6_fairReceipt_43 : decode cX6_fairReceipt 43 = .ok (.ireturn, 1) := by decide +kernel
theorem dX6_fairReceipt_44 : decode cX6_fairReceipt 44 = .ok (.aload 4, 2) := by decide +kernel
theorem dX6_fairReceipt_46 : decode cX6_fairReceipt 46 = .ok (.getfield 112, 3) := by decide +kernel
theorem dX6_fairReceipt_49 : decode cX6_fairReceipt 49 = .ok (.iload_n 2, 1) := by decide +kernel
theorem dX6_fairReceipt_50 : decode cX6_fairReceipt 50 = .ok (.invokestatic 223, 3) := by decide +kernel
theorem dX6_fairReceipt_53 : decode cX6_fairReceipt 53 = .ok (.iload_n 3, 1) := by decide +kernel
theorem dX6_fairReceipt_54 : decode cX6_fairReceipt 54 = .ok (.aload 4, 2) := by decide +kernel
theorem dX6_fairReceipt_56 : decode cX6_fairReceipt 56 = .ok (.getfield 93, 3) := by decide +kernel
theorem dX6_fairReceipt_59 : decode cX6_fairReceipt 59 = .ok (.invokestatic 226, 3) := by decide +kernel
theorem dX6_fairReceipt_62 : decode cX6_fairReceipt 62 = .ok (.ireturn, 1) := by decide +kernel
theorem dX6_offShare_0 : decode cX6_offShare 0 = .ok (.aload_n 0, 1) := by decide +kernel
theorem dX6_offShare_1 : decode cX6_offShare 1 = .ok (.getfield 12, 3) := by decide +kernel
theorem dX6_offShare_4 : decode cX6_offShare 4 = .ok (.iconst 3, 1) := by decide +kernel
theorem dX6_offShare_5 : decode cX6_offShare 5 = .ok (.invokevirtual 185, 3) := by decide +kernel
theorem dX6_offShare_8 : decode cX6_offShare 8 = .ok (.istore_n 1, 1) := by decide +kernel
theorem dX6_offShare_9 : decode cX6_offShare 9 = .ok (.aload_n 0, 1) := by decide +kernel
theorem dX6_offShare_10 : decode cX6_offShare 10 = .ok (.getfield 12, 3) := by decide +kernel
theorem dX6_offShare_13 : decode cX6_offShare 13 = .ok (.iconst 5, 1) := by decide +kernel
theorem dX6_offShare_14 : decode cX6_offShare 14 = .ok (.invokevirtual 185, 3) := by decide +kernel
theorem dX6_offShare_17 : decode cX6_offShare 17 = .ok (.istore_n 2, 1) := by decide +kernel
theorem dX6_offShare_18 : decode cX6_offShare 18 = .ok (.iload_n 1, 1) := by decide +kernel
theorem dX6_offShare_19 : decode cX6_offShare 19 = .ok (.ifCond .le 11, 3) := by decide +kernel
theorem dX6_offShare_22 : decode cX6_offShare 22 = .ok (.iload_n 2, 1) := by decide +kernel
theorem dX6_offShare_23 : decode cX6_offShare 23 = .ok (.i2d, 1) := by decide +kernel
theorem dX6_offShare_24 : decode cX6_offShare 24 = .ok (.iload_n 1, 1) := by decide +kernel
theorem dX6_offShare_25 : decode cX6_offShare 25 = .ok (.i2d, 1) := by decide +kernel
theorem dX6_offShare_26 : decode cX6_offShare 26 = .ok (.ddiv, 1) := by decide +kernel
theorem dX6_offShare_27 : decode cX6_offShare 27 = .ok (.goto 4, 3) := by decide +kernel
theorem dX6_offShare_30 : decode cX6_offShare 30 = .ok (.dconst 0, 1) := by decide +kernel
theorem dX6_offShare_31 : decode cX6_offShare 31 = .ok (.dreturn, 1) := by decide +kernel
theorem dX6_digest_0 : decode cX6_digest 0 = .ok (.ldc2_w 229, 3) := by decide +kernel
theorem dX6_digest_3 : decode cX6_digest 3 = .ok (.lstore_n 1, 1) := by decide +kernel
theorem dX6_digest_4 : decode cX6_digest 4 = .ok (.iconst 0, 1) := by decide +kernel
theorem dX6_digest_5 : decode cX6_digest 5 = .ok (.istore_n 3, 1) := by decide +kernel
theorem dX6_digest_6 : decode cX6_digest 6 = .ok (.iload_n 3, 1) := by decide +kernel
theorem dX6_digest_7 : decode cX6_digest 7 = .ok (.bipush 10, 2) := by decide +kernel
theorem dX6_digest_9 : decode cX6_digest 9 = .ok (.if_icmp .gt 22, 3) := by decide +kernel
theorem dX6_digest_12 : decode cX6_digest 12 = .ok (.ldc2_w 231, 3) := by decide +kernel
theorem dX6_digest_15 : decode cX6_digest 15 = .ok (.lload_n 1, 1) := by decide +kernel
theorem dX6_digest_16 : decode cX6_digest 16 = .ok (.lmul, 1) := by decide +kernel
theorem dX6_digest_17 : decode cX6_digest 17 = .ok (.aload_n 0, 1) := by decide +kernel
theorem dX6_digest_18 : decode cX6_digest 18 = .ok (.iload_n 3, 1) := by decide +kernel
theorem dX6_digest_19 : decode cX6_digest 19 = .ok (.invokevirtual 233, 3) := by decide +kernel
theorem dX6_digest_22 : decode cX6_digest 22 = .ok (.i2l, 1) := by decide +kernel
theorem dX6_digest_23 : decode cX6_digest 23 = .ok (.ladd, 1) := by decide +kernel
theorem dX6_digest_24 : decode cX6_digest 24 = .ok (.lstore_n 1, 1) := by decide +kernel
theorem dX6_digest_25 : decode cX6_digest 25 = .ok (.iinc 3 1, 3) := by decide +kernel
theorem dX6_digest_28 : decode cX6_digest 28 = .ok (.goto (-22), 3) := by decide +kernel
theorem dX6_digest_31 : decode cX6_digest 31 = .ok (.iconst 0, 1) := by decide +kernel
theorem dX6_digest_32 : decode cX6_digest 32 = .ok (.istore_n 3, 1) := by decide +kernel
theorem dX6_digest_33 : decode cX6_digest 33 = .ok (.iload_n 3, 1) := by decide +kernel
theorem dX6_digest_34 : decode cX6_digest 34 = .ok (.aload_n 0, 1) := by decide +kernel
theorem dX6_digest_35 : decode cX6_digest 35 = .ok (.getfield 12, 3) := by decide +kernel
theorem dX6_digest_38 : decode cX6_digest 38 = .ok (.getfield 51, 3) := by decide +kernel
theorem dX6_digest_41 : decode cX6_digest 41 = .ok (.if_icmp .ge 21, 3) := by decide +kernel
theorem dX6_digest_44 : decode cX6_digest 44 = .ok (.aload_n 0, 1) := by decide +kernel
theorem dX6_digest_45 : decode cX6_digest 45 = .ok (.aload_n 0, 1) := by decide +kernel
theorem dX6_digest_46 : decode cX6_digest 46 = .ok (.lload_n 1, 1) := by decide +kernel
theorem dX6_digest_47 : decode cX6_digest 47 = .ok (.iload_n 3, 1) := by decide +kernel
theorem dX6_digest_48 : decode cX6_digest 48 = .ok (.invokevirtual 236, 3) := by decide +kernel
theorem dX6_digest_51 : decode cX6_digest 51 = .ok (.iload_n 3, 1) := by decide +kernel
theorem dX6_digest_52 : decode cX6_digest 52 = .ok (.invokevirtual 240, 3) := by decide +kernel
theorem dX6_digest_55 : decode cX6_digest 55 = .ok (.lstore_n 1, 1) := by decide +kernel
theorem dX6_digest_56 : decode cX6_digest 56 = .ok (.iinc 3 1, 3) := by decide +kernel
theorem dX6_digest_59 : decode cX6_digest 59 = .ok (.goto (-26), 3) := by decide +kernel
theorem dX6_digest_62 : decode cX6_digest 62 = .ok (.iconst 0, 1) := by decide +kernel
theorem dX6_digest_63 : decode cX6_digest 63 = .ok (.istore_n 3, 1) := by decide +kernel
theorem dX6_digest_64 : decode cX6_digest 64 = .ok (.iload_n 3, 1) := by decide +kernel
theorem dX6_digest_65 : decode cX6_digest 65 = .ok (.aload_n 0, 1) := by decide +kernel
theorem dX6_digest_66 : decode cX6_digest 66 = .ok (.getfield 12, 3) := by decide +kernel
theorem dX6_digest_69 : decode cX6_digest 69 = .ok (.getfield 160, 3) := by decide +kernel
theorem dX6_digest_72 : decode cX6_digest 72 = .ok (.if_icmp .ge 42, 3) := by decide +kernel
theorem dX6_digest_75 : decode cX6_digest 75 = .ok (.iconst 0, 1) := by decide +kernel
theorem dX6_digest_76 : decode cX6_digest 76 = .ok (.istore 4, 2) := by decide +kernel
theorem dX6_digest_78 : decode cX6_digest 78 = .ok (.iload 4, 2) := by decide +kernel
theorem dX6_digest_80 : decode cX6_digest 80 = .ok (.iconst 5, 1) := by decide +kernel
theorem dX6_digest_81 : decode cX6_digest 81 = .ok (.if_icmp .gt 27, 3) := by decide +kernel
theorem dX6_digest_84 : decode cX6_digest 84 = .ok (.ldc2_w 231, 3) := by decide +kernel
theorem dX6_digest_87 : decode cX6_digest 87 = .ok (.lload_n 1, 1) := by decide +kernel
theorem dX6_digest_88 : decode cX6_digest 88 = .ok (.lmul, 1) := by decide +kernel
theorem dX6_digest_89 : decode cX6_digest 89 = .ok (.aload_n 0, 1) := by decide +kernel
theorem dX6_digest_90 : decode cX6_digest 90 = .ok (.getfield 12, 3) := by decide +kernel
theorem dX6_digest_93 : decode cX6_digest 93 = .ok (.iload_n 3, 1) := by decide +kernel
theorem dX6_digest_94 : decode cX6_digest 94 = .ok (.iload 4, 2) := by decide +kernel
theorem dX6_digest_96 : decode cX6_digest 96 = .ok (.invokevirtual 166, 3) := by decide +kernel
theorem dX6_digest_99 : decode cX6_digest 99 = .ok (.i2l, 1) := by decide +kernel
theorem dX6_digest_100 : decode cX6_digest 100 = .ok (.ladd, 1) := by decide +kernel
theorem dX6_digest_101 : decode cX6_digest 101 = .ok (.lstore_n 1, 1) := by decide +kernel
theorem dX6_digest_102 : decode cX6_digest 102 = .ok (.iinc 4 1, 3) := by decide +kernel
theorem dX6_digest_105 : decode cX6_digest 105 = .ok (.goto (-27), 3) := by decide +kernel
theorem dX6_digest_108 : decode cX6_digest 108 = .ok (.iinc 3 1, 3) := by decide +kernel
theorem dX6_digest_111 : decode cX6_digest 111 = .ok (.goto (-47), 3) := by decide +kernel
theorem dX6_digest_114 : decode cX6_digest 114 = .ok (.ldc2_w 231, 3) := by decide +kernel
theorem dX6_digest_117 : decode cX6_digest 117 = .ok (.lload_n 1, 1) := by decide +kernel
theorem dX6_digest_118 : decode cX6_digest 118 = .ok (.lmul, 1) := by decide +kernel
theorem dX6_digest_119 : decode cX6_digest 119 = .ok (.aload_n 0, 1) := by decide +kernel
theorem dX6_digest_120 : decode cX6_digest 120 = .ok (.invokevirtual 243, 3) := by decide +kernel
theorem dX6_digest_123 : decode cX6_digest 123 = .ok (.invokestatic 247, 3) := by decide +kernel
theorem dX6_digest_126 : decode cX6_digest 126 = .ok (.ladd, 1) := by decide +kernel
theorem dX6_digest_127 : decode cX6_digest 127 = .ok (.lstore_n 1, 1) := by decide +kernel
theorem dX6_digest_128 : decode cX6_digest 128 = .ok (.ldc2_w 231, 3) := by decide +kernel
theorem dX6_digest_131 : decode cX6_digest 131 = .ok (.lload_n 1, 1) := by decide +kernel
theorem dX6_digest_132 : decode cX6_digest 132 = .ok (.lmul, 1) := by decide +kernel
theorem dX6_digest_133 : decode cX6_digest 133 = .ok (.aload_n 0, 1) := by decide +kernel
theorem dX6_digest_134 : decode cX6_digest 134 = .ok (.getfield 26, 3) := by decide +kernel
theorem dX6_digest_137 : decode cX6_digest 137 = .ok (.getfield 132, 3) := by decide +kernel
theorem dX6_digest_140 : decode cX6_digest 140 = .ok (.i2l, 1) := by decide +kernel
theorem dX6_digest_141 : decode cX6_digest 141 = .ok (.ladd, 1) := by decide +kernel
theorem dX6_digest_142 : decode cX6_digest 142 = .ok (.lstore_n 1, 1) := by decide +kernel
theorem dX6_digest_143 : decode cX6_digest 143 = .ok (.iconst 0, 1) := by decide +kernel
theorem dX6_digest_144 : decode cX6_digest 144 = .ok (.istore_n 3, 1) := by decide +kernel
theorem dX6_digest_145 : decode cX6_digest 145 = .ok (.iload_n 3, 1) := by decide +kernel
theorem dX6_digest_146 : decode cX6_digest 146 = .ok (.aload_n 0, 1) := by decide +kernel
theorem dX6_digest_147 : decode cX6_digest 147 = .ok (.getfield 26, 3) := by decide +kernel
theorem dX6_digest_150 : decode cX6_digest 150 = .ok (.getfield 132, 3) := by decide +kernel
theorem dX6_digest_153 : decode cX6_digest 153 = .ok (.if_icmp .ge 25, 3) := by decide +kernel
theorem dX6_digest_156 : decode cX6_digest 156 = .ok (.ldc2_w 231, 3) := by decide +kernel
theorem dX6_digest_159 : decode cX6_digest 159 = .ok (.lload_n 1, 1) := by decide +kernel
theorem dX6_digest_160 : decode cX6_digest 160 = .ok (.lmul, 1) := by decide +kernel
theorem dX6_digest_161 : decode cX6_digest 161 = .ok (.aload_n 0, 1) := by decide +kernel
theorem dX6_digest_162 : decode cX6_digest 162 = .ok (.getfield 26, 3) := by decide +kernel
theorem dX6_digest_165 : decode cX6_digest 165 = .ok (.iload_n 3, 1) := by decide +kernel
theorem dX6_digest_166 : decode cX6_digest 166 = .ok (.invokevirtual 251, 3) := by decide +kernel
theorem dX6_digest_169 : decode cX6_digest 169 = .ok (.i2l, 1) := by decide +kernel
theorem dX6_digest_170 : decode cX6_digest 170 = .ok (.ladd, 1) := by decide +kernel
theorem dX6_digest_171 : decode cX6_digest 171 = .ok (.lstore_n 1, 1) := by decide +kernel
theorem dX6_digest_172 : decode cX6_digest 172 = .ok (.iinc 3 1, 3) := by decide +kernel
theorem dX6_digest_175 : decode cX6_digest 175 = .ok (.goto (-30), 3) := by decide +kernel
theorem dX6_digest_178 : decode cX6_digest 178 = .ok (.lload_n 1, 1) := by decide +kernel
theorem dX6_digest_179 : decode cX6_digest 179 = .ok (.lreturn, 1) := by decide +kernel
theorem dX6_hashOfLooks_0 : decode cX6_hashOfLooks 0 = .ok (.lload_n 1, 1) := by decide +kernel
theorem dX6_hashOfLooks_1 : decode cX6_hashOfLooks 1 = .ok (.lstore 4, 2) := by decide +kernel
theorem dX6_hashOfLooks_3 : decode cX6_hashOfLooks 3 = .ok (.iconst 0, 1) := by decide +kernel
theorem dX6_hashOfLooks_4 : decode cX6_hashOfLooks 4 = .ok (.istore 6, 2) := by decide +kernel
theorem dX6_hashOfLooks_6 : decode cX6_hashOfLooks 6 = .ok (.iload 6, 2) := by decide +kernel
theorem dX6_hashOfLooks_8 : decode cX6_hashOfLooks 8 = .ok (.bipush 8, 2) := by decide +kernel
theorem dX6_hashOfLooks_10 : decode cX6_hashOfLooks 10 = .ok (.if_icmp .gt 26, 3) := by decide +kernel
theorem dX6_hashOfLooks_13 : decode cX6_hashOfLooks 13 = .ok (.ldc2_w 231, 3) := by decide +kernel
theorem dX6_hashOfLooks_16 : decode cX6_hashOfLooks 16 = .ok (.lload 4, 2) := by decide +kernel
theorem dX6_hashOfLooks_18 : decode cX6_hashOfLooks 18 = .ok (.lmul, 1) := by decide +kernel
theorem dX6_hashOfLooks_19 : decode cX6_hashOfLooks 19 = .ok (.aload_n 0, 1) := by decide +kernel
theorem dX6_hashOfLooks_20 : decode cX6_hashOfLooks 20 = .ok (.iload_n 3, 1) := by decide +kernel
theorem dX6_hashOfLooks_21 : decode cX6_hashOfLooks 21 = .ok (.iload 6, 2) := by decide +kernel
theorem dX6_hashOfLooks_23 : decode cX6_hashOfLooks 23 = .ok (.invokevirtual 254, 3) := by decide +kernel
theorem dX6_hashOfLooks_26 : decode cX6_hashOfLooks 26 = .ok (.i2l, 1) := by decide +kernel
theorem dX6_hashOfLooks_27 : decode cX6_hashOfLooks 27 = .ok (.ladd, 1) := by decide +kernel
theorem dX6_hashOfLooks_28 : decode cX6_hashOfLooks 28 = .ok (.lstore 4, 2) := by decide +kernel
theorem dX6_hashOfLooks_30 : decode cX6_hashOfLooks 30 = .ok (.iinc 6 1, 3) := by decide +kernel
theorem dX6_hashOfLooks_33 : decode cX6_hashOfLooks 33 = .ok (.goto (-27), 3) := by decide +kernel
theorem dX6_hashOfLooks_36 : decode cX6_hashOfLooks 36 = .ok (.iconst 0, 1) := by decide +kernel
theorem dX6_hashOfLooks_37 : decode cX6_hashOfLooks 37 = .ok (.istore 6, 2) := by decide +kernel
theorem dX6_hashOfLooks_39 : decode cX6_hashOfLooks 39 = .ok (.iload 6, 2) := by decide +kernel
theorem dX6_hashOfLooks_41 : decode cX6_hashOfLooks 41 = .ok (.bipush 17, 2) := by decide +kernel
theorem dX6_hashOfLooks_43 : decode cX6_hashOfLooks 43 = .ok (.if_icmp .ge 26, 3) := by decide +kernel
theorem dX6_hashOfLooks_46 : decode cX6_hashOfLooks 46 = .ok (.ldc2_w 231, 3) := by decide +kernel
theorem dX6_hashOfLooks_49 : decode cX6_hashOfLooks 49 = .ok (.lload 4, 2) := by decide +kernel
theorem dX6_hashOfLooks_51 : decode cX6_hashOfLooks 51 = .ok (.lmul, 1) := by decide +kernel
theorem dX6_hashOfLooks_52 : decode cX6_hashOfLooks 52 = .ok (.aload_n 0, 1) := by decide +kernel
theorem dX6_hashOfLooks_53 : decode cX6_hashOfLooks 53 = .ok (.iload_n 3, 1) := by decide +kernel
theorem dX6_hashOfLooks_54 : decode cX6_hashOfLooks 54 = .ok (.iload 6, 2) := by decide +kernel
theorem dX6_hashOfLooks_56 : decode cX6_hashOfLooks 56 = .ok (.invokevirtual 257, 3) := by decide +kernel
theorem dX6_hashOfLooks_59 : decode cX6_hashOfLooks 59 = .ok (.i2l, 1) := by decide +kernel
theorem dX6_hashOfLooks_60 : decode cX6_hashOfLooks 60 = .ok (.ladd, 1) := by decide +kernel
theorem dX6_hashOfLooks_61 : decode cX6_hashOfLooks 61 = .ok (.lstore 4, 2) := by decide +kernel
theorem dX6_hashOfLooks_63 : decode cX6_hashOfLooks 63 = .ok (.iinc 6 1, 3) := by decide +kernel
theorem dX6_hashOfLooks_66 : decode cX6_hashOfLooks 66 = .ok (.goto (-27), 3) := by decide +kernel
theorem dX6_hashOfLooks_69 : decode cX6_hashOfLooks 69 = .ok (.ldc2_w 231, 3) := by decide +kernel
theorem dX6_hashOfLooks_72 : decode cX6_hashOfLooks 72 = .ok (.lload 4, 2) := by decide +kernel
theorem dX6_hashOfLooks_74 : decode cX6_hashOfLooks 74 = .ok (.lmul, 1) := by decide +kernel
theorem dX6_hashOfLooks_75 : decode cX6_hashOfLooks 75 = .ok (.aload_n 0, 1) := by decide +kernel
theorem dX6_hashOfLooks_76 : decode cX6_hashOfLooks 76 = .ok (.iload_n 3, 1) := by decide +kernel
theorem dX6_hashOfLooks_77 : decode cX6_hashOfLooks 77 = .ok (.iconst 0, 1) := by decide +kernel
theorem dX6_hashOfLooks_78 : decode cX6_hashOfLooks 78 = .ok (.invokevirtual 260, 3) := by decide +kernel
theorem dX6_hashOfLooks_81 : decode cX6_hashOfLooks 81 = .ok (.i2l, 1) := by decide +kernel
theorem dX6_hashOfLooks_82 : decode cX6_hashOfLooks 82 = .ok (.ladd, 1) := by decide +kernel
theorem dX6_hashOfLooks_83 : decode cX6_hashOfLooks 83 = .ok (.lstore 4, 2) := by decide +kernel
theorem dX6_hashOfLooks_85 : decode cX6_hashOfLooks 85 = .ok (.ldc2_w 231, 3) := by decide +kernel
theorem dX6_hashOfLooks_88 : decode cX6_hashOfLooks 88 = .ok (.lload 4, 2) := by decide +kernel
theorem dX6_hashOfLooks_90 : decode cX6_hashOfLooks 90 = .ok (.lmul, 1) := by decide +kernel
theorem dX6_hashOfLooks_91 : decode cX6_hashOfLooks 91 = .ok (.aload_n 0, 1) := by decide +kernel
theorem dX6_hashOfLooks_92 : decode cX6_hashOfLooks 92 = .ok (.iload_n 3, 1) := by decide +kernel
theorem dX6_hashOfLooks_93 : decode cX6_hashOfLooks 93 = .ok (.iconst 1, 1) := by decide +kernel
theorem dX6_hashOfLooks_94 : decode cX6_hashOfLooks 94 = .ok (.invokevirtual 260, 3) := by decide +kernel
theorem dX6_hashOfLooks_97 : decode cX6_hashOfLooks 97 = .ok (.i2l, 1) := by decide +kernel
theorem dX6_hashOfLooks_98 : decode cX6_hashOfLooks 98 = .ok (.ladd, 1) := by decide +kernel
theorem dX6_hashOfLooks_99 : decode cX6_hashOfLooks 99 = .ok (.lreturn, 1) := by decide +kernel
theorem dX6_hashOfForecasts_0 : decode cX6_hashOfForecasts 0 = .ok (.lload_n 1, 1) := by decide +kernel
theorem dX6_hashOfForecasts_1 : decode cX6_hashOfForecasts 1 = .ok (.lstore 4, 2) := by decide +kernel
theorem dX6_hashOfForecasts_3 : decode cX6_hashOfForecasts 3 = .ok (.iconst 0, 1) := by decide +kernel
theorem dX6_hashOfForecasts_4 : decode cX6_hashOfForecasts 4 = .ok (.istore 6, 2) := by decide +kernel
theorem dX6_hashOfForecasts_6 : decode cX6_hashOfForecasts 6 = .ok (.iload 6, 2) := by decide +kernel
theorem dX6_hashOfForecasts_8 : decode cX6_hashOfForecasts 8 = .ok (.iconst 3, 1) := by decide +kernel
theorem dX6_hashOfForecasts_9 : decode cX6_hashOfForecasts 9 = .ok (.if_icmp .gt 27, 3) := by decide +kernel
theorem dX6_hashOfForecasts_12 : decode cX6_hashOfForecasts 12 = .ok (.ldc2_w 231, 3) := by decide +kernel
theorem dX6_hashOfForecasts_15 : decode cX6_hashOfForecasts 15 = .ok (.lload 4, 2) := by decide +kernel
theorem dX6_hashOfForecasts_17 : decode cX6_hashOfForecasts 17 = .ok (.lmul, 1) := by decide +kernel
theorem dX6_hashOfForecasts_18 : decode cX6_hashOfForecasts 18 = .ok (.aload_n 0, 1) := by decide +kernel
theorem dX6_hashOfForecasts_19 : decode cX6_hashOfForecasts 19 = .ok (.iload_n 3, 1) := by decide +kernel
theorem dX6_hashOfForecasts_20 : decode cX6_hashOfForecasts 20 = .ok (.iconst 3, 1) := by decide +kernel
theorem dX6_hashOfForecasts_21 : decode cX6_hashOfForecasts 21 = .ok (.iload 6, 2) := by decide +kernel
theorem dX6_hashOfForecasts_23 : decode cX6_hashOfForecasts 23 = .ok (.invokevirtual 263, 3) := by decide +kernel
theorem dX6_hashOfForecasts_26 : decode cX6_hashOfForecasts 26 = .ok (.i2l, 1) := by decide +kernel
theorem dX6_hashOfForecasts_27 : decode cX6_hashOfForecasts 27 = .ok (.ladd, 1) := by decide +kernel
theorem dX6_hashOfForecasts_28 : decode cX6_hashOfForecasts 28 = .ok (.lstore 4, 2) := by decide +kernel
theorem dX6_hashOfForecasts_30 : decode cX6_hashOfForecasts 30 = .ok (.iinc 6 1, 3) := by decide +kernel
theorem dX6_hashOfForecasts_33 : decode cX6_hashOfForecasts 33 = .ok (.goto (-27), 3) := by decide +kernel
theorem dX6_hashOfForecasts_36 : decode cX6_hashOfForecasts 36 = .ok (.aload_n 0, 1) := by decide +kernel
theorem dX6_hashOfForecasts_37 : decode cX6_hashOfForecasts 37 = .ok (.iload_n 3, 1) := by decide +kernel
theorem dX6_hashOfForecasts_38 : decode cX6_hashOfForecasts 38 = .ok (.iconst 0, 1) := by decide +kernel
theorem dX6_hashOfForecasts_39 : decode cX6_hashOfForecasts 39 = .ok (.invokevirtual 254, 3) := by decide +kernel
theorem dX6_hashOfForecasts_42 : decode cX6_hashOfForecasts 42 = .ok (.istore 6, 2) := by decide +kernel
theorem dX6_hashOfForecasts_44 : decode cX6_hashOfForecasts 44 = .ok (.aload_n 0, 1) := by decide +kernel
theorem dX6_hashOfForecasts_45 : decode cX6_hashOfForecasts 45 = .ok (.iload_n 3, 1) := by decide +kernel
theorem dX6_hashOfForecasts_46 : decode cX6_hashOfForecasts 46 = .ok (.iconst 2, 1) := by decide +kernel
theorem dX6_hashOfForecasts_47 : decode cX6_hashOfForecasts 47 = .ok (.invokevirtual 254, 3) := by decide +kernel
theorem dX6_hashOfForecasts_50 : decode cX6_hashOfForecasts 50 = .ok (.istore 7, 2) := by decide +kernel
theorem dX6_hashOfForecasts_52 : decode cX6_hashOfForecasts 52 = .ok (.iconst 0, 1) := by decide +kernel
theorem dX6_hashOfForecasts_53 : decode cX6_hashOfForecasts 53 = .ok (.istore 8, 2) := by decide +kernel
theorem dX6_hashOfForecasts_55 : decode cX6_hashOfForecasts 55 = .ok (.iload 8, 2) := by decide +kernel
theorem dX6_hashOfForecasts_57 : decode cX6_hashOfForecasts 57 = .ok (.iconst 2, 1) := by decide +kernel
theorem dX6_hashOfForecasts_58 : decode cX6_hashOfForecasts 58 = .ok (.if_icmp .gt 32, 3) := by decide +kernel
theorem dX6_hashOfForecasts_61 : decode cX6_hashOfForecasts 61 = .ok (.ldc2_w 231, 3) := by decide +kernel
theorem dX6_hashOfForecasts_64 : decode cX6_hashOfForecasts 64 = .ok (.lload 4, 2) := by decide +kernel
theorem dX6_hashOfForecasts_66 : decode cX6_hashOfForecasts 66 = .ok (.lmul, 1) := by decide +kernel
theorem dX6_hashOfForecasts_67 : decode cX6_hashOfForecasts 67 = .ok (.aload_n 0, 1) := by decide +kernel
theorem dX6_hashOfForecasts_68 : decode cX6_hashOfForecasts 68 = .ok (.iload_n 3, 1) := by decide +kernel
theorem dX6_hashOfForecasts_69 : decode cX6_hashOfForecasts 69 = .ok (.iload 6, 2) := by decide +kernel
theorem dX6_hashOfForecasts_71 : decode cX6_hashOfForecasts 71 = .ok (.bipush 12, 2) := by decide +kernel
theorem dX6_hashOfForecasts_73 : decode cX6_hashOfForecasts 73 = .ok (.iload 7, 2) := by decide +kernel
theorem dX6_hashOfForecasts_75 : decode cX6_hashOfForecasts 75 = .ok (.iload 8, 2) := by decide +kernel
theorem dX6_hashOfForecasts_77 : decode cX6_hashOfForecasts 77 = .ok (.invokevirtual 266, 3) := by decide +kernel
theorem dX6_hashOfForecasts_80 : decode cX6_hashOfForecasts 80 = .ok (.i2l, 1) := by decide +kernel
theorem dX6_hashOfForecasts_81 : decode cX6_hashOfForecasts 81 = .ok (.ladd, 1) := by decide +kernel
theorem dX6_hashOfForecasts_82 : decode cX6_hashOfForecasts 82 = .ok (.lstore 4, 2) := by decide +kernel
theorem dX6_hashOfForecasts_84 : decode cX6_hashOfForecasts 84 = .ok (.iinc 8 1, 3) := by decide +kernel
theorem dX6_hashOfForecasts_87 : decode cX6_hashOfForecasts 87 = .ok (.goto (-32), 3) := by decide +kernel
theorem dX6_hashOfForecasts_90 : decode cX6_hashOfForecasts 90 = .ok (.ldc2_w 231, 3) := by decide +kernel
theorem dX6_hashOfForecasts_93 : decode cX6_hashOfForecasts 93 = .ok (.lload 4, 2) := by decide +kernel
theorem dX6_hashOfForecasts_95 : decode cX6_hashOfForecasts 95 = .ok (.lmul, 1) := by decide +kernel
theorem dX6_hashOfForecasts_96 : decode cX6_hashOfForecasts 96 = .ok (.aload_n 0, 1) := by decide +kernel
theorem dX6_hashOfForecasts_97 : decode cX6_hashOfForecasts 97 = .ok (.iload_n 3, 1) := by decide +kernel
theorem dX6_hashOfForecasts_98 : decode cX6_hashOfForecasts 98 = .ok (.ldc_w 270, 3) := by decide +kernel
theorem dX6_hashOfForecasts_101 : decode cX6_hashOfForecasts 101 = .ok (.invokevirtual 271, 3) := by decide +kernel
theorem dX6_hashOfForecasts_104 : decode cX6_hashOfForecasts 104 = .ok (.i2l, 1) := by decide +kernel
theorem dX6_hashOfForecasts_105 : decode cX6_hashOfForecasts 105 = .ok (.ladd, 1) := by decide +kernel
theorem dX6_hashOfForecasts_106 : decode cX6_hashOfForecasts 106 = .ok (.lstore 4, 2) := by decide +kernel
theorem dX6_hashOfForecasts_108 : decode cX6_hashOfForecasts 108 = .ok (.ldc2_w 231, 3) := by decide +kernel
theorem dX6_hashOfForecasts_111 : decode cX6_hashOfForecasts 111 = .ok (.lload 4, 2) := by decide +kernel
theorem dX6_hashOfForecasts_113 : decode cX6_hashOfForecasts 113 = .ok (.lmul, 1) := by decide +kernel
theorem dX6_hashOfForecasts_114 : decode cX6_hashOfForecasts 114 = .ok (.aload_n 0, 1) := by decide +kernel
theorem dX6_hashOfForecasts_115 : decode cX6_hashOfForecasts 115 = .ok (.iload_n 3, 1) := by decide +kernel
theorem dX6_hashOfForecasts_116 : decode cX6_hashOfForecasts 116 = .ok (.invokevirtual 274, 3) := by decide +kernel
theorem dX6_hashOfForecasts_119 : decode cX6_hashOfForecasts 119 = .ok (.i2l, 1) := by decide +kernel
theorem dX6_hashOfForecasts_120 : decode cX6_hashOfForecasts 120 = .ok (.ladd, 1) := by decide +kernel
theorem dX6_hashOfForecasts_121 : decode cX6_hashOfForecasts 121 = .ok (.lstore 4, 2) := by decide +kernel
theorem dX6_hashOfForecasts_123 : decode cX6_hashOfForecasts 123 = .ok (.ldc2_w 231, 3) := by decide +kernel
theorem dX6_hashOfForecasts_126 : decode cX6_hashOfForecasts 126 = .ok (.lload 4, 2) := by decide +kernel
theorem dX6_hashOfForecasts_128 : decode cX6_hashOfForecasts 128 = .ok (.lmul, 1) := by decide +kernel
theorem dX6_hashOfForecasts_129 : decode cX6_hashOfForecasts 129 = .ok (.aload_n 0, 1) := by decide +kernel
theorem dX6_hashOfForecasts_130 : decode cX6_hashOfForecasts 130 = .ok (.iload_n 3, 1) := by decide +kernel
theorem dX6_hashOfForecasts_131 : decode cX6_hashOfForecasts 131 = .ok (.bipush 100, 2) := by decide +kernel
theorem dX6_hashOfForecasts_133 : decode cX6_hashOfForecasts 133 = .ok (.iconst 1, 1) := by decide +kernel
theorem dX6_hashOfForecasts_134 : decode cX6_hashOfForecasts 134 = .ok (.invokevirtual 277, 3) := by decide +kernel
theorem dX6_hashOfForecasts_137 : decode cX6_hashOfForecasts 137 = .ok (.i2l, 1) := by decide +kernel
theorem dX6_hashOfForecasts_138 : decode cX6_hashOfForecasts 138 = .ok (.ladd, 1) := by decide +kernel
theorem dX6_hashOfForecasts_139 : decode cX6_hashOfForecasts 139 = .ok (.lreturn, 1) := by decide +kernel
theorem dX6_openTexts_0 : decode cX6_openTexts 0 = .ok (.aload_n 0, 1) := by decide +kernel
theorem dX6_openTexts_1 : decode cX6_openTexts 1 = .ok (.getfield 33, 3) := by decide +kernel
theorem dX6_openTexts_4 : decode cX6_openTexts 4 = .ok (.invokevirtual 280, 3) := by decide +kernel
theorem dX6_openTexts_7 : decode cX6_openTexts 7 = .ok (.iconst 0, 1) := by decide +kernel
theorem dX6_openTexts_8 : decode cX6_openTexts 8 = .ok (.istore_n 1, 1) := by decide +kernel
theorem dX6_openTexts_9 : decode cX6_openTexts 9 = .ok (.iload_n 1, 1) := by decide +kernel
theorem dX6_openTexts_10 : decode cX6_openTexts 10 = .ok (.aload_n 0, 1) := by decide +kernel
theorem dX6_openTexts_11 : decode cX6_openTexts 11 = .ok (.getfield 26, 3) := by decide +kernel
theorem dX6_openTexts_14 : decode cX6_openTexts 14 = .ok (.getfield 132, 3) := by decide +kernel
theorem dX6_openTexts_17 : decode cX6_openTexts 17 = .ok (.if_icmp .ge 37, 3) := by decide +kernel
theorem dX6_openTexts_20 : decode cX6_openTexts 20 = .ok (.aload_n 0, 1) := by decide +kernel
theorem dX6_openTexts_21 : decode cX6_openTexts 21 = .ok (.getfield 26, 3) := by decide +kernel
theorem dX6_openTexts_24 : decode cX6_openTexts 24 = .ok (.iload_n 1, 1) := by decide +kernel
theorem dX6_openTexts_25 : decode cX6_openTexts 25 = .ok (.invokevirtual 251, 3) := by decide +kernel
theorem dX6_openTexts_28 : decode cX6_openTexts 28 = .ok (.istore_n 2, 1) := by decide +kernel
theorem dX6_openTexts_29 : decode cX6_openTexts 29 = .ok (.iload_n 2, 1) := by decide +kernel
theorem dX6_openTexts_30 : decode cX6_openTexts 30 = .ok (.bipush 59, 2) := by decide +kernel
theorem dX6_openTexts_32 : decode cX6_openTexts 32 = .ok (.if_icmp .ne 7, 3) := by decide +kernel
theorem dX6_openTexts_35 : decode cX6_openTexts 35 = .ok (.aload_n 0, 1) := by decide +kernel
theorem dX6_openTexts_36 : decode cX6_openTexts 36 = .ok (.invokevirtual 283, 3) := by decide +kernel
theorem dX6_openTexts_39 : decode cX6_openTexts 39 = .ok (.aload_n 0, 1) := by decide +kernel
theorem dX6_openTexts_40 : decode cX6_openTexts 40 = .ok (.getfield 33, 3) := by decide +kernel
theorem dX6_openTexts_43 : decode cX6_openTexts 43 = .ok (.iload_n 2, 1) := by decide +kernel
theorem dX6_openTexts_44 : decode cX6_openTexts 44 = .ok (.invokevirtual 286, 3) := by decide +kernel
theorem dX6_openTexts_47 : decode cX6_openTexts 47 = .ok (.pop, 1) := by decide +kernel
theorem dX6_openTexts_48 : decode cX6_openTexts 48 = .ok (.iinc 1 1, 3) := by decide +kernel
theorem dX6_openTexts_51 : decode cX6_openTexts 51 = .ok (.goto (-42), 3) := by decide +kernel
theorem dX6_openTexts_54 : decode cX6_openTexts 54 = .ok (.aload_n 0, 1) := by decide +kernel
theorem dX6_openTexts_55 : decode cX6_openTexts 55 = .ok (.invokevirtual 283, 3) := by decide +kernel
theorem dX6_openTexts_58 : decode cX6_openTexts 58 = .ok (.return_, 1) := by decide +kernel
theorem dX6_openRead_0 : decode cX6_openRead 0 = .ok (.aload_n 0, 1) := by decide +kernel
theorem dX6_openRead_1 : decode cX6_openRead 1 = .ok (.getfield 12, 3) := by decide +kernel
theorem dX6_openRead_4 : decode cX6_openRead 4 = .ok (.aload_n 0, 1) := by decide +kernel
theorem dX6_openRead_5 : decode cX6_openRead 5 = .ok (.getfield 33, 3) := by decide +kernel
theorem dX6_openRead_8 : decode cX6_openRead 8 = .ok (.iconst 0, 1) := by decide +kernel
theorem dX6_openRead_9 : decode cX6_openRead 9 = .ok (.invokevirtual 289, 3) := by decide +kernel
theorem dX6_openRead_12 : decode cX6_openRead 12 = .ok (.aload_n 0, 1) := by decide +kernel
theorem dX6_openRead_13 : decode cX6_openRead 13 = .ok (.getfield 33, 3) := by decide +kernel
theorem dX6_openRead_16 : decode cX6_openRead 16 = .ok (.iconst 1, 1) := by decide +kernel
theorem dX6_openRead_17 : decode cX6_openRead 17 = .ok (.invokevirtual 289, 3) := by decide +kernel
theorem dX6_openRead_20 : decode cX6_openRead 20 = .ok (.aload_n 0, 1) := by decide +kernel
theorem dX6_openRead_21 : decode cX6_openRead 21 = .ok (.getfield 33, 3) := by decide +kernel
theorem dX6_openRead_24 : decode cX6_openRead 24 = .ok (.iconst 2, 1) := by decide +kernel
theorem dX6_openRead_25 : decode cX6_openRead 25 = .ok (.invokevirtual 289, 3) := by decide +kernel
theorem dX6_openRead_28 : decode cX6_openRead 28 = .ok (.aload_n 0, 1) := by decide +kernel
theorem dX6_openRead_29 : decode cX6_openRead 29 = .ok (.getfield 33, 3) := by decide +kernel
theorem dX6_openRead_32 : decode cX6_openRead 32 = .ok (.iconst 3, 1) := by decide +kernel
theorem dX6_openRead_33 : decode cX6_openRead 33 = .ok (.invokevirtual 289, 3) := by decide +kernel
theorem dX6_openRead_36 : decode cX6_openRead 36 = .ok (.invokevirtual 62, 3) := by decide +kernel
theorem dX6_openRead_39 : decode cX6_openRead 39 = .ok (.pop, 1) := by decide +kernel
theorem dX6_openRead_40 : decode cX6_openRead 40 = .ok (.return_, 1) := by decide +kernel
theorem dX6_demandLease_0 : decode cX6_demandLease 0 = .ok (.aload_n 0, 1) := by decide +kernel
theorem dX6_demandLease_1 : decode cX6_demandLease 1 = .ok (.getfield 12, 3) := by decide +kernel
theorem dX6_demandLease_4 : decode cX6_demandLease 4 = .ok (.iload_n 1, 1) := by decide +kernel
theorem dX6_demandLease_5 : decode cX6_demandLease 5 = .ok (.invokevirtual 292, 3) := by decide +kernel
theorem dX6_demandLease_8 : decode cX6_demandLease 8 = .ok (.astore_n 2, 1) := by decide +kernel
theorem dX6_demandLease_9 : decode cX6_demandLease 9 = .ok (.aload_n 2, 1) := by decide +kernel
theorem dX6_demandLease_10 : decode cX6_demandLease 10 = .ok (.ifnonnull 14, 3) := by decide +kernel
theorem dX6_demandLease_13 : decode cX6_demandLease 13 = .ok (.new 295, 3) := by decide +kernel
theorem dX6_demandLease_16 : decode cX6_demandLease 16 = .ok (.dup, 1) := by decide +kernel
theorem dX6_demandLease_17 : decode cX6_demandLease 17 = .ok (.ldc_w 297, 3) := by decide +kernel
theorem dX6_demandLease_20 : decode cX6_demandLease 20 = .ok (.invokespecial 299, 3) := by decide +kernel
theorem dX6_demandLease_23 : decode cX6_demandLease 23 = .ok (.athrow, 1) := by decide +kernel
theorem dX6_demandLease_24 : decode cX6_demandLease 24 = .ok (.aload_n 2, 1) := by decide +kernel
theorem dX6_demandLease_25 : decode cX6_demandLease 25 = .ok (.areturn, 1) := by decide +kernel
theorem dX6_demandIndex_0 : decode cX6_demandIndex 0 = .ok (.iload_n 0, 1) := by decide +kernel
theorem dX6_demandIndex_1 : decode cX6_demandIndex 1 = .ok (.ifCond .ne 14, 3) := by decide +kernel
theorem dX6_demandIndex_4 : decode cX6_demandIndex 4 = .ok (.new 295, 3) := by decide +kernel
theorem dX6_demandIndex_7 : decode cX6_demandIndex 7 = .ok (.dup, 1) := by decide +kernel
theorem dX6_demandIndex_8 : decode cX6_demandIndex 8 = .ok (.ldc_w 302, 3) := by decide +kernel
theorem dX6_demandIndex_11 : decode cX6_demandIndex 11 = .ok (.invokespecial 299, 3) := by decide +kernel
theorem dX6_demandIndex_14 : decode cX6_demandIndex 14 = .ok (.athrow, 1) := by decide +kernel
theorem dX6_demandIndex_15 : decode cX6_demandIndex 15 = .ok (.return_, 1) := by decide +kernel
theorem dX6_demandArguments_0 : decode cX6_demandArguments 0 = .ok (.iload_n 0, 1) := by decide +kernel
theorem dX6_demandArguments_1 : decode cX6_demandArguments 1 = .ok (.ifCond .ne 14, 3) := by decide +kernel
theorem dX6_demandArguments_4 : decode cX6_demandArguments 4 = .ok (.new 304, 3) := by decide +kernel
theorem dX6_demandArguments_7 : decode cX6_demandArguments 7 = .ok (.dup, 1) := by decide +kernel
theorem dX6_demandArguments_8 : decode cX6_demandArguments 8 = .ok (.ldc_w 306, 3) := by decide +kernel
theorem dX6_demandArguments_11 : decode cX6_demandArguments 11 = .ok (.invokespecial 308, 3) := by decide +kernel
theorem dX6_demandArguments_14 : decode cX6_demandArguments 14 = .ok (.athrow, 1) := by decide +kernel
theorem dX6_demandArguments_15 : decode cX6_demandArguments 15 = .ok (.return_, 1) := by decide +kernel
theorem dX6_demandState_0 : decode cX6_demandState 0 = .ok (.iload_n 0, 1) := by decide +kernel
theorem dX6_demandState_1 : decode cX6_demandState 1 = .ok (.ifCond .ne 14, 3) := by decide +kernel
theorem dX6_demandState_4 : decode cX6_demandState 4 = .ok (.new 309, 3) := by decide +kernel
theorem dX6_demandState_7 : decode cX6_demandState 7 = .ok (.dup, 1) := by decide +kernel
theorem dX6_demandState_8 : decode cX6_demandState 8 = .ok (.ldc_w 311, 3) := by decide +kernel
theorem dX6_demandState_11 : decode cX6_demandState 11 = .ok (.invokespecial 313, 3) := by decide +kernel
theorem dX6_demandState_14 : decode cX6_demandState 14 = .ok (.athrow, 1) := by decide +kernel
theorem dX6_demandState_15 : decode cX6_demandState 15 = .ok (.return_, 1) := by decide +kernel
theorem dX6_isWithin_0 : decode cX6_isWithin 0 = .ok (.iload_n 0, 1) := by decide +kernel
theorem dX6_isWithin_1 : decode cX6_isWithin 1 = .ok (.iload_n 1, 1) := by decide +kernel
theorem dX6_isWithin_2 : decode cX6_isWithin 2 = .ok (.if_icmp .lt 12, 3) := by decide +kernel
theorem dX6_isWithin_5 : decode cX6_isWithin 5 = .ok (.iload_n 0, 1) := by decide +kernel
theorem dX6_isWithin_6 : decode cX6_isWithin 6 = .ok (.iload_n 2, 1) := by decide +kernel
theorem dX6_isWithin_7 : decode cX6_isWithin 7 = .ok (.if_icmp .gt 7, 3) := by decide +kernel
theorem dX6_isWithin_10 : decode cX6_isWithin 10 = .ok (.iconst 1, 1) := by decide +kernel
theorem dX6_isWithin_11 : decode cX6_isWithin 11 = .ok (.goto 4, 3) := by decide +kernel
theorem dX6_isWithin_14 : decode cX6_isWithin 14 = .ok (.iconst 0, 1) := by decide +kernel
theorem dX6_isWithin_15 : decode cX6_isWithin 15 = .ok (.ireturn, 1) := by decide +kernel
theorem dX6_isMoney_0 : decode cX6_isMoney 0 = .ok (.iload_n 0, 1) := by decide +kernel
theorem dX6_isMoney_1 : decode cX6_isMoney 1 = .ok (.iconst 0, 1) := by decide +kernel
theorem dX6_isMoney_2 : decode cX6_isMoney 2 = .ok (.ldc_w 314, 3) := by decide +kernel
theorem dX6_isMoney_5 : decode cX6_isMoney 5 = .ok (.invokestatic 108, 3) := by decide +kernel
theorem dX6_isMoney_8 : decode cX6_isMoney 8 = .ok (.ireturn, 1) := by decide +kernel
theorem dX6_isPeriods_0 : decode cX6_isPeriods 0 = .ok (.iload_n 0, 1) := by decide +kernel
theorem dX6_isPeriods_1 : decode cX6_isPeriods 1 = .ok (.iconst 1, 1) := by decide +kernel
theorem dX6_isPeriods_2 : decode cX6_isPeriods 2 = .ok (.bipush 60, 2) := by decide +kernel
theorem dX6_isPeriods_4 : decode cX6_isPeriods 4 = .ok (.invokestatic 108, 3) := by decide +kernel
theorem dX6_isPeriods_7 : decode cX6_isPeriods 7 = .ok (.ireturn, 1) := by decide +kernel
theorem dX6_isRate_0 : decode cX6_isRate 0 = .ok (.iload_n 0, 1) := by decide +kernel
theorem dX6_isRate_1 : decode cX6_isRate 1 = .ok (.iconst 0, 1) := by decide +kernel
theorem dX6_isRate_2 : decode cX6_isRate 2 = .ok (.sipush 2000, 3) := by decide +kernel
theorem dX6_isRate_5 : decode cX6_isRate 5 = .ok (.invokestatic 108, 3) := by decide +kernel
theorem dX6_isRate_8 : decode cX6_isRate 8 = .ok (.ireturn, 1) := by decide +kernel
theorem dX6_isThousandths_0 : decode cX6_isThousandths 0 = .ok (.iload_n 0, 1) := by decide +kernel
theorem dX6_isThousandths_1 : decode cX6_isThousandths 1 = .ok (.iconst 1, 1) := by decide +kernel
theorem dX6_isThousandths_2 : decode cX6_isThousandths 2 = .ok (.sipush 1000, 3) := by decide +kernel
theorem dX6_isThousandths_5 : decode cX6_isThousandths 5 = .ok (.invokestatic 108, 3) := by decide +kernel
theorem dX6_isThousandths_8 : decode cX6_isThousandths 8 = .ok (.ireturn, 1) := by decide +kernel
theorem dX6_presentWorth_0 : decode cX6_presentWorth 0 = .ok (.sipush 10000, 3) := by decide +kernel
theorem dX6_presentWorth_3 : decode cX6_presentWorth 3 = .ok (.iload_n 2, 1) := by decide +kernel
theorem dX6_presentWorth_4 : decode cX6_presentWorth 4 = .ok (.iadd, 1) := by decide +kernel
theorem dX6_presentWorth_5 : decode cX6_presentWorth 5 = .ok (.i2l, 1) := by decide +kernel
theorem dX6_presentWorth_6 : decode cX6_presentWorth 6 = .ok (.lstore_n 3, 1) := by decide +kernel
theorem dX6_presentWorth_7 : decode cX6_presentWorth 7 = .ok (.lload_n 3, 1) := by decide +kernel
theorem dX6_presentWorth_8 : decode cX6_presentWorth 8 = .ok (.lconst 0, 1) := by decide +kernel
theorem dX6_presentWorth_9 : decode cX6_presentWorth 9 = .ok (.lcmp, 1) := by decide +kernel
theorem dX6_presentWorth_10 : decode cX6_presentWorth 10 = .ok (.ifCond .gt 5, 3) := by decide +kernel
theorem dX6_presentWorth_13 : decode cX6_presentWorth 13 = .ok (.iconst 0, 1) := by decide +kernel
theorem dX6_presentWorth_14 : decode cX6_presentWorth 14 = .ok (.ireturn, 1) := by decide +kernel
theorem dX6_presentWorth_15 : decode cX6_presentWorth 15 = .ok (.lconst 0, 1) := by decide +kernel
theorem dX6_presentWorth_16 : decode cX6_presentWorth 16 = .ok (.lstore 5, 2) := by decide +kernel
theorem dX6_presentWorth_18 : decode cX6_presentWorth 18 = .ok (.iconst 0, 1) := by decide +kernel
theorem dX6_presentWorth_19 : decode cX6_presentWorth 19 = .ok (.istore 7, 2) := by decide +kernel
theorem dX6_presentWorth_21 : decode cX6_presentWorth 21 = .ok (.iload 7, 2) := by decide +kernel
theorem dX6_presentWorth_23 : decode cX6_presentWorth 23 = .ok (.iload_n 1, 1) := by decide +kernel
theorem dX6_presentWorth_24 : decode cX6_presentWorth 24 = .ok (.if_icmp .ge 28, 3) := by decide +kernel
theorem dX6_presentWorth_27 : decode cX6_presentWorth 27 = .ok (.ldc2_w 315, 3) := by decide +kernel
theorem dX6_presentWorth_30 : decode cX6_presentWorth 30 = .ok (.lload 5, 2) := by decide +kernel
theorem dX6_presentWorth_32 : decode cX6_presentWorth 32 = .ok (.iload_n 0, 1) := by decide +kernel
theorem dX6_presentWorth_33 : decode cX6_presentWorth 33 = .ok (.i2l, 1) := by decide +kernel
theorem dX6_presentWorth_34 : decode cX6_presentWorth 34 = .ok (.ladd, 1) := by decide +kernel
theorem dX6_presentWorth_35 : decode cX6_presentWorth 35 = .ok (.lmul, 1) := by decide +kernel
theorem dX6_presentWorth_36 : decode cX6_presentWorth 36 = .ok (.lload_n 3, 1) := by decide +kernel
theorem dX6_presentWorth_37 : decode cX6_presentWorth 37 = .ok (.ladd, 1) := by decide +kernel
theorem dX6_presentWorth_38 : decode cX6_presentWorth 38 = .ok (.ldc2_w 317, 3) := by decide +kernel
theorem dX6_presentWorth_41 : decode cX6_presentWorth 41 = .ok (.lload_n 3, 1) := by decide +kernel
theorem dX6_presentWorth_42 : decode cX6_presentWorth 42 = .ok (.lmul, 1) := by decide +kernel
theorem dX6_presentWorth_43 : decode cX6_presentWorth 43 = .ok (.ldiv, 1) := by decide +kernel
theorem dX6_presentWorth_44 : decode cX6_presentWorth 44 = .ok (.lstore 5, 2) := by decide +kernel
theorem dX6_presentWorth_46 : decode cX6_presentWorth 46 = .ok (.iinc 7 1, 3) := by decide +kernel
theorem dX6_presentWorth_49 : decode cX6_presentWorth 49 = .ok (.goto (-28), 3) := by decide +kernel
theorem dX6_presentWorth_52 : decode cX6_presentWorth 52 = .ok (.lload 5, 2) := by decide +kernel
theorem dX6_presentWorth_54 : decode cX6_presentWorth 54 = .ok (.l2i, 1) := by decide +kernel
theorem dX6_presentWorth_55 : decode cX6_presentWorth 55 = .ok (.ireturn, 1) := by decide +kernel
theorem dX6_thousandthsOf_0 : decode cX6_thousandthsOf 0 = .ok (.iload_n 0, 1) := by decide +kernel
theorem dX6_thousandthsOf_1 : decode cX6_thousandthsOf 1 = .ok (.i2l, 1) := by decide +kernel
theorem dX6_thousandthsOf_2 : decode cX6_thousandthsOf 2 = .ok (.iload_n 1, 1) := by decide +kernel
theorem dX6_thousandthsOf_3 : decode cX6_thousandthsOf 3 = .ok (.i2l, 1) := by decide +kernel
theorem dX6_thousandthsOf_4 : decode cX6_thousandthsOf 4 = .ok (.lmul, 1) := by decide +kernel
theorem dX6_thousandthsOf_5 : decode cX6_thousandthsOf 5 = .ok (.ldc2_w 319, 3) := by decide +kernel
theorem dX6_thousandthsOf_8 : decode cX6_thousandthsOf 8 = .ok (.ldiv, 1) := by decide +kernel
theorem dX6_thousandthsOf_9 : decode cX6_thousandthsOf 9 = .ok (.l2i, 1) := by decide +kernel
theorem dX6_thousandthsOf_10 : decode cX6_thousandthsOf 10 = .ok (.ireturn, 1) := by decide +kernel
theorem dX6_greatestPayment_0 : decode cX6_greatestPayment 0 = .ok (.iconst 0, 1) := by decide +kernel
theorem dX6_greatestPayment_1 : decode cX6_greatestPayment 1 = .ok (.istore_n 3, 1) := by decide +kernel
theorem dX6_greatestPayment_2 : decode cX6_greatestPayment 2 = .ok (.bipush 16, 2) := by decide +kernel
theorem dX6_greatestPayment_4 : decode cX6_greatestPayment 4 = .ok (.istore 4, 2) := by decide +kernel
theorem dX6_greatestPayment_6 : decode cX6_greatestPayment 6 = .ok (.iload 4, 2) := by decide +kernel
theorem dX6_greatestPayment_8 : decode cX6_greatestPayment 8 = .ok (.ifCond .lt 39, 3) := by decide +kernel
theorem dX6_greatestPayment_11 : decode cX6_greatestPayment 11 = .ok (.iload_n 3, 1) := by decide +kernel
theorem dX6_greatestPayment_12 : decode cX6_greatestPayment 12 = .ok (.iconst 1, 1) := by decide +kernel
theorem dX6_greatestPayment_13 : decode cX6_greatestPayment 13 = .ok (.iload 4, 2) := by decide +kernel
theorem dX6_greatestPayment_15 : decode cX6_greatestPayment 15 = .ok (.ishl, 1) := by decide +kernel
theorem dX6_greatestPayment_16 : decode cX6_greatestPayment 16 = .ok (.iadd, 1) := by decide +kernel
theorem dX6_greatestPayment_17 : decode cX6_greatestPayment 17 = .ok (.istore 5, 2) := by decide +kernel
theorem dX6_greatestPayment_19 : decode cX6_greatestPayment 19 = .ok (.iload 5, 2) := by decide +kernel
theorem dX6_greatestPayment_21 : decode cX6_greatestPayment 21 = .ok (.ldc_w 314, 3) := by decide +kernel
theorem dX6_greatestPayment_24 : decode cX6_greatestPayment 24 = .ok (.if_icmp .gt 17, 3) := by decide +kernel
theorem dX6_greatestPayment_27 : decode cX6_greatestPayment 27 = .ok (.iload 5, 2) := by decide +kernel
theorem dX6_greatestPayment_29 : decode cX6_greatestPayment 29 = .ok (.iload_n 1, 1) := by decide +kernel
theorem dX6_greatestPayment_30 : decode cX6_greatestPayment 30 = .ok (.iload_n 2, 1) := by decide +kernel
theorem dX6_greatestPayment_31 : decode cX6_greatestPayment 31 = .ok (.invokestatic 194, 3) := by decide +kernel
theorem dX6_greatestPayment_34 : decode cX6_greatestPayment 34 = .ok (.iload_n 0, 1) := by decide +kernel
theorem dX6_greatestPayment_35 : decode cX6_greatestPayment 35 = .ok (.if_icmp .gt 6, 3) := by decide +kernel
theorem dX6_greatestPayment_38 : decode cX6_greatestPayment 38 = .ok (.iload 5, 2) := by decide +kernel
theorem dX6_greatestPayment_40 : decode cX6_greatestPayment 40 = .ok (.istore_n 3, 1) := by decide +kernel
theorem dX6_greatestPayment_41 : decode cX6_greatestPayment 41 = .ok (.iinc 4 (-1), 3) := by decide +kernel
theorem dX6_greatestPayment_44 : decode cX6_greatestPayment 44 = .ok (.goto (-38), 3) := by decide +kernel
theorem dX6_greatestPayment_47 : decode cX6_greatestPayment 47 = .ok (.iload_n 3, 1) := by decide +kernel
theorem dX6_greatestPayment_48 : decode cX6_greatestPayment 48 = .ok (.ireturn, 1) := by decide +kernel
theorem dX6_leastReceipt_0 : decode cX6_leastReceipt 0 = .ok (.iload_n 0, 1) := by decide +kernel
theorem dX6_leastReceipt_1 : decode cX6_leastReceipt 1 = .ok (.ifCond .gt 5, 3) := by decide +kernel
theorem dX6_leastReceipt_4 : decode cX6_leastReceipt 4 = .ok (.iconst 0, 1) := by decide +kernel
theorem dX6_leastReceipt_5 : decode cX6_leastReceipt 5 = .ok (.ireturn, 1) := by decide +kernel
theorem dX6_leastReceipt_6 : decode cX6_leastReceipt 6 = .ok (.iload_n 0, 1) := by decide +kernel
theorem dX6_leastReceipt_7 : decode cX6_leastReceipt 7 = .ok (.iconst 1, 1) := by decide +kernel
theorem dX6_leastReceipt_8 : decode cX6_leastReceipt 8 = .ok (.isub, 1) := by decide +kernel
theorem dX6_leastReceipt_9 : decode cX6_leastReceipt 9 = .ok (.iload_n 1, 1) := by decide +kernel
theorem dX6_leastReceipt_10 : decode cX6_leastReceipt 10 = .ok (.iload_n 2, 1) := by decide +kernel
theorem dX6_leastReceipt_11 : decode cX6_leastReceipt 11 = .ok (.invokestatic 217, 3) := by decide +kernel
theorem dX6_leastReceipt_14 : decode cX6_leastReceipt 14 = .ok (.iconst 1, 1) := by decide +kernel
theorem dX6_leastReceipt_15 : decode cX6_leastReceipt 15 = .ok (.iadd, 1) := by decide +kernel
theorem dX6_leastReceipt_16 : decode cX6_leastReceipt 16 = .ok (.istore_n 3, 1) := by decide +kernel
theorem dX6_leastReceipt_17 : decode cX6_leastReceipt 17 = .ok (.iload_n 3, 1) := by decide +kernel
theorem dX6_leastReceipt_18 : decode cX6_leastReceipt 18 = .ok (.ldc_w 314, 3) := by decide +kernel
theorem dX6_leastReceipt_21 : decode cX6_leastReceipt 21 = .ok (.if_icmp .gt 7, 3) := by decide +kernel
theorem dX6_leastReceipt_24 : decode cX6_leastReceipt 24 = .ok (.iload_n 3, 1) := by decide +kernel
theorem dX6_leastReceipt_25 : decode cX6_leastReceipt 25 = .ok (.goto 4, 3) := by decide +kernel
theorem dX6_leastReceipt_28 : decode cX6_leastReceipt 28 = .ok (.iconst (-1), 1) := by decide +kernel
theorem dX6_leastReceipt_29 : decode cX6_leastReceipt 29 = .ok (.ireturn, 1) := by decide +kernel
theorem dX6_bitsOf_0 : decode cX6_bitsOf 0 = .ok (.dload_n 0, 1) := by decide +kernel
theorem dX6_bitsOf_1 : decode cX6_bitsOf 1 = .ok (.dconst 0, 1) := by decide +kernel
theorem dX6_bitsOf_2 : decode cX6_bitsOf 2 = .ok (.dcmp .l, 1) := by decide +kernel
theorem dX6_bitsOf_3 : decode cX6_bitsOf 3 = .ok (.ifCond .gt 5, 3) := by decide +kernel
theorem dX6_bitsOf_6 : decode cX6_bitsOf 6 = .ok (.lconst 0, 1) := by decide +kernel
theorem dX6_bitsOf_7 : decode cX6_bitsOf 7 = .ok (.lreturn, 1) := by decide +kernel
theorem dX6_bitsOf_8 : decode cX6_bitsOf 8 = .ok (.dload_n 0, 1) := by decide +kernel
theorem dX6_bitsOf_9 : decode cX6_bitsOf 9 = .ok (.dstore_n 2, 1) := by decide +kernel
theorem dX6_bitsOf_10 : decode cX6_bitsOf 10 = .ok (.sipush 1023, 3) := by decide +kernel
theorem dX6_bitsOf_13 : decode cX6_bitsOf 13 = .ok (.istore 4, 2) := by decide +kernel
theorem dX6_bitsOf_15 : decode cX6_bitsOf 15 = .ok (.dload_n 2, 1) := by decide +kernel
theorem dX6_bitsOf_16 : decode cX6_bitsOf 16 = .ok (.ldc2_w 321, 3) := by decide +kernel
theorem dX6_bitsOf_19 : decode cX6_bitsOf 19 = .ok (.dcmp .l, 1) := by decide +kernel
theorem dX6_bitsOf_20 : decode cX6_bitsOf 20 = .ok (.ifCond .lt 23, 3) := by decide +kernel
theorem dX6_bitsOf_23 : decode cX6_bitsOf 23 = .ok (.iload 4, 2) := by decide +kernel
theorem dX6_bitsOf_25 : decode cX6_bitsOf 25 = .ok (.sipush 2046, 3) := by decide +kernel
theorem dX6_bitsOf_28 : decode cX6_bitsOf 28 = .ok (.if_icmp .ge 15, 3) := by decide +kernel
theorem dX6_bitsOf_31 : decode cX6_bitsOf 31 = .ok (.dload_n 2, 1) := by decide +kernel
theorem dX6_bitsOf_32 : decode cX6_bitsOf 32 = .ok (.ldc2_w 321, 3) := by decide +kernel
theorem dX6_bitsOf_35 : decode cX6_bitsOf 35 = .ok (.ddiv, 1) := by decide +kernel
theorem dX6_bitsOf_36 : decode cX6_bitsOf 36 = .ok (.dstore_n 2, 1) := by decide +kernel
theorem dX6_bitsOf_37 : decode cX6_bitsOf 37 = .ok (.iinc 4 1, 3) := by decide +kernel
theorem dX6_bitsOf_40 : decode cX6_bitsOf 40 = .ok (.goto (-25), 3) := by decide +kernel
theorem dX6_bitsOf_43 : decode cX6_bitsOf 43 = .ok (.dload_n 2, 1) := by decide +kernel
theorem dX6_bitsOf_44 : decode cX6_bitsOf 44 = .ok (.dconst 1, 1) := by decide +kernel
theorem dX6_bitsOf_45 : decode cX6_bitsOf 45 = .ok (.dcmp .g, 1) := by decide +kernel
theorem dX6_bitsOf_46 : decode cX6_bitsOf 46 = .ok (.ifCond .ge 21, 3) := by decide +kernel
theorem dX6_bitsOf_49 : decode cX6_bitsOf 49 = .ok (.iload 4, 2) := by decide +kernel
theorem dX6_bitsOf_51 : decode cX6_bitsOf 51 = .ok (.iconst 1, 1) := by decide +kernel
theorem dX6_bitsOf_52 : decode cX6_bitsOf 52 = .ok (.if_icmp .le 15, 3) := by decide +kernel
theorem dX6_bitsOf_55 : decode cX6_bitsOf 55 = .ok (.dload_n 2, 1) := by decide +kernel
theorem dX6_bitsOf_56 : decode cX6_bitsOf 56 = .ok (.ldc2_w 321, 3) := by decide +kernel
theorem dX6_bitsOf_59 : decode cX6_bitsOf 59 = .ok (.dmul, 1) := by decide +kernel
theorem dX6_bitsOf_60 : decode cX6_bitsOf 60 = .ok (.dstore_n 2, 1) := by decide +kernel
theorem dX6_bitsOf_61 : decode cX6_bitsOf 61 = .ok (.iinc 4 (-1), 3) := by decide +kernel
theorem dX6_bitsOf_64 : decode cX6_bitsOf 64 = .ok (.goto (-21), 3) := by decide +kernel
theorem dX6_bitsOf_67 : decode cX6_bitsOf 67 = .ok (.iload 4, 2) := by decide +kernel
theorem dX6_bitsOf_69 : decode cX6_bitsOf 69 = .ok (.i2l, 1) := by decide +kernel
theorem dX6_bitsOf_70 : decode cX6_bitsOf 70 = .ok (.bipush 52, 2) := by decide +kernel
theorem dX6_bitsOf_72 : decode cX6_bitsOf 72 = .ok (.lshl, 1) := by decide +kernel
theorem dX6_bitsOf_73 : decode cX6_bitsOf 73 = .ok (.dload_n 2, 1) := by decide +kernel
theorem dX6_bitsOf_74 : decode cX6_bitsOf 74 = .ok (.dconst 1, 1) := by decide +kernel
theorem dX6_bitsOf_75 : decode cX6_bitsOf 75 = .ok (.dsub, 1) := by decide +kernel
theorem dX6_bitsOf_76 : decode cX6_bitsOf 76 = .ok (.ldc2_w 323, 3) := by decide +kernel
theorem dX6_bitsOf_79 : decode cX6_bitsOf 79 = .ok (.dmul, 1) := by decide +kernel
theorem dX6_bitsOf_80 : decode cX6_bitsOf 80 = .ok (.d2l, 1) := by decide +kernel
theorem dX6_bitsOf_81 : decode cX6_bitsOf 81 = .ok (.ladd, 1) := by decide +kernel
theorem dX6_bitsOf_82 : decode cX6_bitsOf 82 = .ok (.lreturn, 1) := by decide +kernel
theorem dX7_init_0 : decode cX7_init 0 = .ok (.aload_n 0, 1) := by decide +kernel
theorem dX7_init_1 : decode cX7_init 1 = .ok (.invokespecial 1, 3) := by decide +kernel
theorem dX7_init_4 : decode cX7_init 4 = .ok (.aload_n 0, 1) := by decide +kernel
theorem dX7_init_5 : decode cX7_init 5 = .ok (.sipush 251, 3) := by decide +kernel
theorem dX7_init_8 : decode cX7_init 8 = .ok (.newarray .int, 2) := by decide +kernel
theorem dX7_init_10 : decode cX7_init 10 = .ok (.putfield 7, 3) := by decide +kernel
theorem dX7_init_13 : decode cX7_init 13 = .ok (.aload_n 0, 1) := by decide +kernel
theorem dX7_init_14 : decode cX7_init 14 = .ok (.sipush 1506, 3) := by decide +kernel
theorem dX7_init_17 : decode cX7_init 17 = .ok (.newarray .int, 2) := by decide +kernel
theorem dX7_init_19 : decode cX7_init 19 = .ok (.putfield 13, 3) := by decide +kernel
theorem dX7_init_22 : decode cX7_init 22 = .ok (.aload_n 0, 1) := by decide +kernel
theorem dX7_init_23 : decode cX7_init 23 = .ok (.sipush 251, 3) := by decide +kernel
theorem dX7_init_26 : decode cX7_init 26 = .ok (.newarray .int, 2) := by decide +kernel
theorem dX7_init_28 : decode cX7_init 28 = .ok (.putfield 16, 3) := by decide +kernel
theorem dX7_init_31 : decode cX7_init 31 = .ok (.aload_n 0, 1) := by decide +kernel
theorem dX7_init_32 : decode cX7_init 32 = .ok (.bipush 60, 2) := by decide +kernel
theorem dX7_init_34 : decode cX7_init 34 = .ok (.newarray .int, 2) := by decide +kernel
theorem dX7_init_36 : decode cX7_init 36 = .ok (.putfield 19, 3) := by decide +kernel
theorem dX7_init_39 : decode cX7_init 39 = .ok (.aload_n 0, 1) := by decide +kernel
theorem dX7_init_40 : decode cX7_init 40 = .ok (.bipush 60, 2) := by decide +kernel
theorem dX7_init_42 : decode cX7_init 42 = .ok (.newarray .int, 2) := by decide +kernel
theorem dX7_init_44 : decode cX7_init 44 = .ok (.putfield 22, 3) := by decide +kernel
theorem dX7_init_47 : decode cX7_init 47 = .ok (.return_, 1) := by decide +kernel
theorem dX7_thrown_0 : decode cX7_thrown 0 = .ok (.aload_n 0, 1) := by decide +kernel
theorem dX7_thrown_1 : decode cX7_thrown 1 = .ok (.getfield 25, 3) := by decide +kernel
theorem dX7_thrown_4 : decode cX7_thrown 4 = .ok (.ireturn, 1) := by decide +kernel
theorem dX7_fails_0 : decode cX7_fails 0 = .ok (.aload_n 0, 1) := by decide +kernel
theorem dX7_fails_1 : decode cX7_fails 1 = .ok (.iload_n 1, 1) := by decide +kernel
theorem dX7_fails_2 : decode cX7_fails 2 = .ok (.putfield 25, 3) := by decide +kernel
theorem dX7_fails_5 : decode cX7_fails 5 = .ok (.iconst 0, 1) := by decide +kernel
theorem dX7_fails_6 : decode cX7_fails 6 = .ok (.ireturn, 1) := by decide +kernel
theorem dX7_in_0 : decode cX7_in 0 = .ok (.iload_n 0, 1) := by decide +kernel
theorem dX7_in_1 : decode cX7_in 1 = .ok (.iload_n 1, 1) := by decide +kernel
theorem dX7_in_2 : decode cX7_in 2 = .ok (.if_icmp .lt 12, 3) := by decide +kernel
theorem dX7_in_5 : decode cX7_in 5 = .ok (.iload_n 0, 1) := by decide +kernel
theorem dX7_in_6 : decode cX7_in 6 = .ok (.iload_n 2, 1) := by decide +kernel
theorem dX7_in_7 : decode cX7_in 7 = .ok (.if_icmp .gt 7, 3) := by decide +kernel
theorem dX7_in_10 : decode cX7_in 10 = .ok (.iconst 1, 1) := by decide +kernel
theorem dX7_in_11 : decode cX7_in 11 = .ok (.goto 4, 3) := by decide +kernel
theorem dX7_in_14 : decode cX7_in 14 = .ok (.iconst 0, 1) := by decide +kernel
theorem dX7_in_15 : decode cX7_in 15 = .ok (.ireturn, 1) := by decide +kernel
theorem dX7_save_0 : decode cX7_save 0 = .ok (.aload_n 0, 1) := by decide +kernel
theorem dX7_save_1 : decode cX7_save 1 = .ok (.getfield 29, 3) := by decide +kernel
theorem dX7_save_4 : decode cX7_save 4 = .ok (.bipush 6, 2) := by decide +kernel
theorem dX7_save_6 : decode cX7_save 6 = .ok (.if_icmp .ne 44, 3) := by decide +kernel
theorem dX7_save_9 : decode cX7_save 9 = .ok (.iconst 0, 1) := by decide +kernel
theorem dX7_save_10 : decode cX7_save 10 = .ok (.istore_n 1, 1) := by decide +kernel
theorem dX7_save_11 : decode cX7_save 11 = .ok (.iload_n 1, 1) := by decide +kernel
theorem dX7_save_12 : decode cX7_save 12 = .ok (.sipush 1255, 3) := by decide +kernel
theorem dX7_save_15 : decode cX7_save 15 = .ok (.if_icmp .ge 25, 3) := by decide +kernel
theorem dX7_save_18 : decode cX7_save 18 = .ok (.aload_n 0, 1) := by decide +kernel
theorem dX7_save_19 : decode cX7_save 19 = .ok (.getfield 13, 3) := by decide +kernel
theorem dX7_save_22 : decode cX7_save 22 = .ok (.iload_n 1, 1) := by decide +kernel
theorem dX7_save_23 : decode cX7_save 23 = .ok (.aload_n 0, 1) := by decide +kernel
theorem dX7_save_24 : decode cX7_save 24 = .ok (.getfield 13, 3) := by decide +kernel
theorem dX7_save_27 : decode cX7_save 27 = .ok (.iload_n 1, 1) := by decide +kernel
theorem dX7_save_28 : decode cX7_save 28 = .ok (.sipush 251, 3) := by decide +kernel
theorem dX7_save_31 : decode cX7_save 31 = .ok (.iadd, 1) := by decide +kernel
theorem dX7_save_32 : decode cX7_save 32 = .ok (.iaload, 1) := by decide +kernel
theorem dX7_save_33 : decode cX7_save 33 = .ok (.iastore, 1) := by decide +kernel
theorem dX7_save_34 : decode cX7_save 34 = .ok (.iinc 1 1, 3) := by decide +kernel
theorem dX7_save_37 : decode cX7_save 37 = .ok (.goto (-26), 3) := by decide +kernel
theorem dX7_save_40 : decode cX7_save 40 = .ok (.aload_n 0, 1) := by decide +kernel
theorem dX7_save_41 : decode cX7_save 41 = .ok (.dup, 1) := by decide +kernel
theorem dX7_save_42 : decode cX7_save 42 = .ok (.getfield 29, 3) := by decide +kernel
theorem dX7_save_45 : decode cX7_save 45 = .ok (.iconst 1, 1) := by decide +kernel
theorem dX7_save_46 : decode cX7_save 46 = .ok (.isub, 1) := by decide +kernel
theorem dX7_save_47 : decode cX7_save 47 = .ok (.putfield 29, 3) := by decide +kernel
theorem dX7_save_50 : decode cX7_save 50 = .ok (.iconst 0, 1) := by decide +kernel
theorem dX7_save_51 : decode cX7_save 51 = .ok (.istore_n 1, 1) := by decide +kernel
theorem dX7_save_52 : decode cX7_save 52 = .ok (.iload_n 1, 1) := by decide +kernel
theorem dX7_save_53 : decode cX7_save 53 = .ok (.sipush 251, 3) := by decide +kernel
theorem dX7_save_56 : decode cX7_save 56 = .ok (.if_icmp .ge 30, 3) := by decide +kernel
theorem dX7_save_59 : decode cX7_save 59 = .ok (.aload_n 0, 1) := by decide +kernel
theorem dX7_save_60 : decode cX7_save 60 = .ok (.getfield 13, 3) := by decide +kernel
theorem dX7_save_63 : decode cX7_save 63 = .ok (.sipush 251, 3) := by decide +kernel
theorem dX7_save_66 : decode cX7_save 66 = .ok (.aload_n 0, 1) := by decide +kernel
theorem dX7_save_67 : decode cX7_save 67 = .ok (.getfield 29, 3) := by decide +kernel
theorem dX7_save_70 : decode cX7_save 70 = .ok (.imul, 1) := by decide +kernel
theorem dX7_save_71 : decode cX7_save 71 = .ok (.iload_n 1, 1) := by decide +kernel
theorem dX7_save_72 : decode cX7_save 72 = .ok (.iadd, 1) := by decide +kernel
theorem dX7_save_73 : decode cX7_save 73 = .ok (.aload_n 0, 1) := by decide +kernel
theorem dX7_save_74 : decode cX7_save 74 = .ok (.getfield 7, 3) := by decide +kernel
theorem dX7_save_77 : decode cX7_save 77 = .ok (.iload_n 1, 1) := by decide +kernel
theorem dX7_save_78 : decode cX7_save 78 = .ok (.iaload, 1) := by decide +kernel
theorem dX7_save_79 : decode cX7_save 79 = .ok (.iastore, 1) := by decide +kernel
theorem dX7_save_80 : decode cX7_save 80 = .ok (.iinc 1 1, 3) := by decide +kernel
theorem dX7_save_83 : decode cX7_save 83 = .ok (.goto (-31), 3) := by decide +kernel
theorem dX7_save_86 : decode cX7_save 86 = .ok (.aload_n 0, 1) := by decide +kernel
theorem dX7_save_87 : decode cX7_save 87 = .ok (.dup, 1) := by decide +kernel
theorem dX7_save_88 : decode cX7_save 88 = .ok (.getfield 29, 3) := by decide +kernel
theorem dX7_save_91 : decode cX7_save 91 = .ok (.iconst 1, 1) := by decide +kernel
theorem dX7_save_92 : decode cX7_save 92 = .ok (.iadd, 1) := by decide +kernel
theorem dX7_save_93 : decode cX7_save 93 = .ok (.putfield 29, 3) := by decide +kernel
theorem dX7_save_96 : decode cX7_save 96 = .ok (.return_, 1) := by decide +kernel
theorem dX7_putAside_0 : decode cX7_putAside 0 = .ok (.iconst 0, 1) := by decide +kernel
theorem dX7_putAside_1 : decode cX7_putAside 1 = .ok (.istore_n 1, 1) := by decide +kernel
theorem dX7_putAside_2 : decode cX7_putAside 2 = .ok (.iload_n 1, 1) := by decide +kernel
theorem dX7_putAside_3 : decode cX7_putAside 3 = .ok (.sipush 251, 3) := by decide +kernel
theorem dX7_putAside_6 : decode cX7_putAside 6 = .ok (.if_icmp .ge 21, 3) := by decide +kernel
theorem dX7_putAside_9 : decode cX7_putAside 9 = .ok (.aload_n 0, 1) := by decide +kernel
theorem dX7_putAside_10 : decode cX7_putAside 10 = .ok (.getfield 16, 3) := by decide +kernel
theorem dX7_putAside_13 : decode cX7_putAside 13 = .ok (.iload_n 1, 1) := by decide +kernel
theorem dX7_putAside_14 : decode cX7_putAside 14 = .ok (.aload_n 0, 1) := by decide +kernel
theorem dX7_putAside_15 : decode cX7_putAside 15 = .ok (.getfield 7, 3) := by decide +kernel
theorem dX7_putAside_18 : decode cX7_putAside 18 = .ok (.iload_n 1, 1) := by decide +kernel
theorem dX7_putAside_19 : decode cX7_putAside 19 = .ok (.iaload, 1) := by decide +kernel
theorem dX7_putAside_20 : decode cX7_putAside 20 = .ok (.iastore, 1) := by decide +kernel
theorem dX7_putAside_21 : decode cX7_putAside 21 = .ok (.iinc 1 1, 3) := by decide +kernel
theorem dX7_putAside_24 : decode cX7_putAside 24 = .ok (.goto (-22), 3) := by decide +kernel
theorem dX7_putAside_27 : decode cX7_putAside 27 = .ok (.return_, 1) := by decide +kernel
theorem dX7_putBack_0 : decode cX7_putBack 0 = .ok (.iconst 0, 1) := by decide +kernel
theorem dX7_putBack_1 : decode cX7_putBack 1 = .ok (.istore_n 1, 1) := by decide +kernel
theorem dX7_putBack_2 : decode cX7_putBack 2 = .ok (.iload_n 1, 1) := by decide +kernel
theorem dX7_putBack_3 : decode cX7_putBack 3 = .ok (.sipush 251, 3) := by decide +kernel
theorem dX7_putBack_6 : decode cX7_putBack 6 = .ok (.if_icmp .ge 21, 3) := by decide +kernel
theorem dX7_putBack_9 : decode cX7_putBack 9 = .ok (.aload_n 0, 1) := by decide +kernel
theorem dX7_putBack_10 : decode cX7_putBack 10 = .ok (.getfield 7, 3) := by decide +kernel
theorem dX7_putBack_13 : decode cX7_putBack 13 = .ok (.iload_n 1, 1) := by decide +kernel
theorem dX7_putBack_14 : decode cX7_putBack 14 = .ok (.aload_n 0, 1) := by decide +kernel
theorem dX7_putBack_15 : decode cX7_putBack 15 = .ok (.getfield 16, 3) := by decide +kernel
theorem dX7_putBack_18 : decode cX7_putBack 18 = .ok (.iload_n 1, 1) := by decide +kernel
theorem dX7_putBack_19 : decode cX7_putBack 19 = .ok (.iaload, 1) := by decide +kernel
theorem dX7_putBack_20 : decode cX7_putBack 20 = .ok (.iastore, 1) := by decide +kernel
theorem dX7_putBack_21 : decode cX7_putBack 21 = .ok (.iinc 1 1, 3) := by decide +kernel
theorem dX7_putBack_24 : decode cX7_putBack 24 = .ok (.goto (-22), 3) := by decide +kernel
theorem dX7_putBack_27 : decode cX7_putBack 27 = .ok (.return_, 1) := by decide +kernel
theorem dX7_at_0 : decode cX7_at 0 = .ok (.iconst 3, 1) := by decide +kernel
theorem dX7_at_1 : decode cX7_at 1 = .ok (.bipush 22, 2) := by decide +kernel
theorem dX7_at_3 : decode cX7_at 3 = .ok (.iload_n 0, 1) := by decide +kernel
theorem dX7_at_4 : decode cX7_at 4 = .ok (.imul, 1) := by decide +kernel
theorem dX7_at_5 : decode cX7_at 5 = .ok (.iadd, 1) := by decide +kernel
theorem dX7_at_6 : decode cX7_at 6 = .ok (.ireturn, 1) := by decide +kernel
theorem dX7_sub_0 : decode cX7_sub 0 = .ok (.sipush 179, 3) := by decide +kernel
theorem dX7_sub_3 : decode cX7_sub 3 = .ok (.bipush 6, 2) := by decide +kernel
theorem dX7_sub_5 : decode cX7_sub 5 = .ok (.iload_n 0, 1) := by decide +kernel
theorem dX7_sub_6 : decode cX7_sub 6 = .ok (.imul, 1) := by decide +kernel
theorem dX7_sub_7 : decode cX7_sub 7 = .ok (.iadd, 1) := by decide +kernel
theorem dX7_sub_8 : decode cX7_sub 8 = .ok (.ireturn, 1) := by decide +kernel
theorem dX7_move_0 : decode cX7_move 0 = .ok (.aload_n 0, 1) := by decide +kernel
theorem dX7_move_1 : decode cX7_move 1 = .ok (.getfield 7, 3) := by decide +kernel
theorem dX7_move_4 : decode cX7_move 4 = .ok (.iload_n 1, 1) := by decide +kernel
theorem dX7_move_5 : decode cX7_move 5 = .ok (.invokestatic 32, 3) := by decide +kernel
theorem dX7_move_8 : decode cX7_move 8 = .ok (.iconst 5, 1) := by decide +kernel
theorem dX7_move_9 : decode cX7_move 9 = .ok (.iadd, 1) := by decide +kernel
theorem dX7_move_10 : decode cX7_move 10 = .ok (.iload_n 2, 1) := by decide +kernel
theorem dX7_move_11 : decode cX7_move 11 = .ok (.iadd, 1) := by decide +kernel
theorem dX7_move_12 : decode cX7_move 12 = .ok (.dup2, 1) := by decide +kernel
theorem dX7_move_13 : decode cX7_move 13 = .ok (.iaload, 1) := by decide +kernel
theorem dX7_move_14 : decode cX7_move 14 = .ok (.iload_n 3, 1) := by decide +kernel
theorem dX7_move_15 : decode cX7_move 15 = .ok (.iadd, 1) := by decide +kernel
theorem dX7_move_16 : decode cX7_move 16 = .ok (.iastore, 1) := by decide +kernel
theorem dX7_move_17 : decode cX7_move 17 = .ok (.return_, 1) := by decide +kernel
theorem dX7_worthOf_0 : decode cX7_worthOf 0 = .ok (.lconst 0, 1) := by decide +kernel
theorem dX7_worthOf_1 : decode cX7_worthOf 1 = .ok (.lstore_n 3, 1) := by decide +kernel
theorem dX7_worthOf_2 : decode cX7_worthOf 2 = .ok (.ldc2_w 36, 3) := by decide +kernel
theorem dX7_worthOf_5 : decode cX7_worthOf 5 = .ok (.iload_n 2, 1) := by decide +kernel
theorem dX7_worthOf_6 : decode cX7_worthOf 6 = .ok (.i2l, 1) := by decide +kernel
theorem dX7_worthOf_7 : decode cX7_worthOf 7 = .ok (.ladd, 1) := by decide +kernel
theorem dX7_worthOf_8 : decode cX7_worthOf 8 = .ok (.lstore 5, 2) := by decide +kernel
theorem dX7_worthOf_10 : decode cX7_worthOf 10 = .ok (.iconst 0, 1) := by decide +kernel
theorem dX7_worthOf_11 : decode cX7_worthOf 11 = .ok (.istore 7, 2) := by decide +kernel
theorem dX7_worthOf_13 : decode cX7_worthOf 13 = .ok (.iload 7, 2) := by decide +kernel
theorem dX7_worthOf_15 : decode cX7_worthOf 15 = .ok (.iload_n 1, 1) := by decide +kernel
theorem dX7_worthOf_16 : decode cX7_worthOf 16 = .ok (.if_icmp .ge 28, 3) := by decide +kernel
theorem dX7_worthOf_19 : decode cX7_worthOf 19 = .ok (.lload_n 3, 1) := by decide +kernel
theorem dX7_worthOf_20 : decode cX7_worthOf 20 = .ok (.iload_n 0, 1) := by decide +kernel
theorem dX7_worthOf_21 : decode cX7_worthOf 21 = .ok (.i2l, 1) := by decide +kernel
theorem dX7_worthOf_22 : decode cX7_worthOf 22 = .ok (.ladd, 1) := by decide +kernel
theorem dX7_worthOf_23 : decode cX7_worthOf 23 = .ok (.ldc2_w 38, 3) := by decide +kernel
theorem dX7_worthOf_26 : decode cX7_worthOf 26 = .ok (.lmul, 1) := by decide +kernel
theorem dX7_worthOf_27 : decode cX7_worthOf 27 = .ok (.lload 5, 2) := by decide +kernel
theorem dX7_worthOf_29 : decode cX7_worthOf 29 = .ok (.ladd, 1) := by decide +kernel
theorem dX7_worthOf_30 : decode cX7_worthOf 30 = .ok (.ldc2_w 40, 3) := by decide +kernel
theorem dX7_worthOf_33 : decode cX7_worthOf 33 = .ok (.lload 5, 2) := by decide +kernel
theorem dX7_worthOf_35 : decode cX7_worthOf 35 = .ok (.lmul, 1) := by decide +kernel
theorem dX7_worthOf_36 : decode cX7_worthOf 36 = .ok (.ldiv, 1) := by decide +kernel
theorem dX7_worthOf_37 : decode cX7_worthOf 37 = .ok (.lstore_n 3, 1) := by decide +kernel
theorem dX7_worthOf_38 : decode cX7_worthOf 38 = .ok (.iinc 7 1, 3) := by decide +kernel
theorem dX7_worthOf_41 : decode cX7_worthOf 41 = .ok (.goto (-28), 3) := by decide +kernel
theorem dX7_worthOf_44 : decode cX7_worthOf 44 = .ok (.lload_n 3, 1) := by decide +kernel
theorem dX7_worthOf_45 : decode cX7_worthOf 45 = .ok (.l2i, 1) := by decide +kernel
theorem dX7_worthOf_46 : decode cX7_worthOf 46 = .ok (.ireturn, 1) := by decide +kernel
theorem dX7_isLease_0 : decode cX7_isLease 0 = .ok (.iload_n 1, 1) := by decide +kernel
theorem dX7_isLease_1 : decode cX7_isLease 1 = .ok (.iconst 0, 1) := by decide +kernel
theorem dX7_isLease_2 : decode cX7_isLease 2 = .ok (.aload_n 0, 1) := by decide +kernel
theorem dX7_isLease_3 : decode cX7_isLease 3 = .ok (.getfield 7, 3) := by decide +kernel
theorem dX7_isLease_6 : decode cX7_isLease 6 = .ok (.iconst 0, 1) := by decide +kernel
theorem dX7_isLease_7 : decode cX7_isLease 7 = .ok (.iaload, 1) := by decide +kernel
theorem dX7_isLease_8 : decode cX7_isLease 8 = .ok (.iconst 1, 1) := by decide +kernel
theorem dX7_isLease_9 : decode cX7_isLease 9 = .ok (.isub, 1) := by decide +kernel
theorem dX7_isLease_10 : decode cX7_isLease 10 = .ok (.invokestatic 42, 3) := by decide +kernel
theorem dX7_isLease_13 : decode cX7_isLease 13 = .ok (.ireturn, 1) := by decide +kernel
theorem dX7_runs_0 : decode cX7_runs 0 = .ok (.aload_n 0, 1) := by decide +kernel
theorem dX7_runs_1 : decode cX7_runs 1 = .ok (.getfield 7, 3) := by decide +kernel
theorem dX7_runs_4 : decode cX7_runs 4 = .ok (.iload_n 1, 1) := by decide +kernel
theorem dX7_runs_5 : decode cX7_runs 5 = .ok (.invokestatic 32, 3) := by decide +kernel
theorem dX7_runs_8 : decode cX7_runs 8 = .ok (.iconst 1, 1) := by decide +kernel
theorem dX7_runs_9 : decode cX7_runs 9 = .ok (.iadd, 1) := by decide +kernel
theorem dX7_runs_10 : decode cX7_runs 10 = .ok (.iaload, 1) := by decide +kernel
theorem dX7_runs_11 : decode cX7_runs 11 = .ok (.ifCond .le 7, 3) := by decide +kernel
theorem dX7_runs_14 : decode cX7_runs 14 = .ok (.iconst 1, 1) := by decide +kernel
theorem dX7_runs_15 : decode cX7_runs 15 = .ok (.goto 4, 3) := by decide +kernel
theorem dX7_runs_18 : decode cX7_runs 18 = .ok (.iconst 0, 1) := by decide +kernel
theorem dX7_runs_19 : decode cX7_runs 19 = .ok (.ireturn, 1) := by decide +kernel
theorem dX7_isMoney_0 : decode cX7_isMoney 0 = .ok (.iload_n 0, 1) := by decide +kernel
theorem dX7_isMoney_1 : decode cX7_isMoney 1 = .ok (.iconst 0, 1) := by decide +kernel
theorem dX7_isMoney_2 : decode cX7_isMoney 2 = .ok (.ldc 46, 2) := by decide +kernel
theorem dX7_isMoney_4 : decode cX7_isMoney 4 = .ok (.invokestatic 42, 3) := by decide +kernel
theorem dX7_isMoney_7 : decode cX7_isMoney 7 = .ok (.ireturn, 1) := by decide +kernel
theorem dX7_isTerm_0 : decode cX7_isTerm 0 = .ok (.iload_n 0, 1) := by decide +kernel
theorem dX7_isTerm_1 : decode cX7_isTerm 1 = .ok (.iconst 1, 1) := by decide +kernel
theorem dX7_isTerm_2 : decode cX7_isTerm 2 = .ok (.bipush 60, 2) := by decide +kernel
theorem dX7_isTerm_4 : decode cX7_isTerm 4 = .ok (.invokestatic 42, 3) := by decide +kernel
theorem dX7_isTerm_7 : decode cX7_isTerm 7 = .ok (.ireturn, 1) := by decide +kernel
theorem dX7_isRate_0 : decode cX7_isRate 0 = .ok (.iload_n 0, 1) := by decide +kernel
theorem dX7_isRate_1 : decode cX7_isRate 1 = .ok (.iconst 0, 1) := by decide +kernel
theorem dX7_isRate_2 : decode cX7_isRate 2 = .ok (.sipush 2000, 3) := by decide +kernel
theorem dX7_isRate_5 : decode cX7_isRate 5 = .ok (.invokestatic 42, 3) := by decide +kernel
theorem dX7_isRate_8 : decode cX7_isRate 8 = .ok (.ireturn, 1) := by decide +kernel
theorem dX7_isPart_0 : decode cX7_isPart 0 = .ok (.iload_n 0, 1) := by decide +kernel
theorem dX7_isPart_1 : decode cX7_isPart 1 = .ok (.iconst 1, 1) := by decide +kernel
theorem dX7_isPart_2 : decode cX7_isPart 2 = .ok (.sipush 1000, 3) := by decide +kernel
theorem dX7_isPart_5 : decode cX7_isPart 5 = .ok (.invokestatic 42, 3) := by decide +kernel
theorem dX7_isPart_8 : decode cX7_isPart 8 = .ok (.ireturn, 1) := by decide +kernel
theorem dX7_partOf_0 : decode cX7_partOf 0 = .ok (.iload_n 0, 1) := by decide +kernel
theorem dX7_partOf_1 : decode cX7_partOf 1 = .ok (.i2l, 1) := by decide +kernel
theorem dX7_partOf_2 : decode cX7_partOf 2 = .ok (.iload_n 1, 1) := by decide +kernel
theorem dX7_partOf_3 : decode cX7_partOf 3 = .ok (.i2l, 1) := by decide +kernel
theorem dX7_partOf_4 : decode cX7_partOf 4 = .ok (.lmul, 1) := by decide +kernel
theorem dX7_partOf_5 : decode cX7_partOf 5 = .ok (.ldc2_w 47, 3) := by decide +kernel
theorem dX7_partOf_8 : decode cX7_partOf 8 = .ok (.ldiv, 1) := by decide +kernel
theorem dX7_partOf_9 : decode cX7_partOf 9 = .ok (.l2i, 1) := by decide +kernel
theorem dX7_partOf_10 : decode cX7_partOf 10 = .ok (.ireturn, 1) := by decide +kernel
theorem dX7_openNow_0 : decode cX7_openNow 0 = .ok (.aload_n 0, 1) := by decide +kernel
theorem dX7_openNow_1 : decode cX7_openNow 1 = .ok (.getfield 7, 3) := by decide +kernel
theorem dX7_openNow_4 : decode cX7_openNow 4 = .ok (.iconst 0, 1) := by decide +kernel
theorem dX7_openNow_5 : decode cX7_openNow 5 = .ok (.iaload, 1) := by decide +kernel
theorem dX7_openNow_6 : decode cX7_openNow 6 = .ok (.istore 5, 2) := by decide +kernel
theorem dX7_openNow_8 : decode cX7_openNow 8 = .ok (.iload 5, 2) := by decide +kernel
theorem dX7_openNow_10 : decode cX7_openNow 10 = .ok (.invokestatic 32, 3) := by decide +kernel
theorem dX7_openNow_13 : decode cX7_openNow 13 = .ok (.istore 6, 2) := by decide +kernel
theorem dX7_openNow_15 : decode cX7_openNow 15 = .ok (.aload_n 0, 1) := by decide +kernel
theorem dX7_openNow_16 : decode cX7_openNow 16 = .ok (.getfield 7, 3) := by decide +kernel
theorem dX7_openNow_19 : decode cX7_openNow 19 = .ok (.iconst 0, 1) := by decide +kernel
theorem dX7_openNow_20 : decode cX7_openNow 20 = .ok (.dup2, 1) := by decide +kernel
theorem dX7_openNow_21 : decode cX7_openNow 21 = .ok (.iaload, 1) := by decide +kernel
theorem dX7_openNow_22 : decode cX7_openNow 22 = .ok (.iconst 1, 1) := by decide +kernel
theorem dX7_openNow_23 : decode cX7_openNow 23 = .ok (.iadd, 1) := by decide +kernel
theorem dX7_openNow_24 : decode cX7_openNow 24 = .ok (.iastore, 1) := by decide +kernel
theorem dX7_openNow_25 : decode cX7_openNow 25 = .ok (.iconst 0, 1) := by decide +kernel
theorem dX7_openNow_26 : decode cX7_openNow 26 = .ok (.istore 7, 2) := by decide +kernel
theorem dX7_openNow_28 : decode cX7_openNow 28 = .ok (.iload 7, 2) := by decide +kernel
theorem dX7_openNow_30 : decode cX7_openNow 30 = .ok (.bipush 22, 2) := by decide +kernel
theorem dX7_openNow_32 : decode cX7_openNow 32 = .ok (.if_icmp .ge 20, 3) := by decide +kernel
theorem dX7_openNow_35 : decode cX7_openNow 35 = .ok (.aload_n 0, 1) := by decide +kernel
theorem dX7_openNow_36 : decode cX7_openNow 36 = .ok (.getfield 7, 3) := by decide +kernel
theorem dX7_openNow_39 : decode cX7_openNow 39 = .ok (.iload 6, 2) := by decide +kernel
theorem dX7_openNow_41 : decode cX7_openNow 41 = .ok (.iload 7, 2) := by decide +kernel
theorem dX7_openNow_43 : decode cX7_openNow 43 = .ok (.iadd, 1) := by decide +kernel
theorem dX7_openNow_44 : decode cX7_openNow 44 = .ok (.iconst 0, 1) := by decide +kernel
theorem dX7_openNow_45 : decode cX7_openNow 45 = .ok (.iastore, 1) := by decide +kernel
theorem dX7_openNow_46 : decode cX7_openNow 46 = .ok (.iinc 7 1, 3) := by decide +kernel
theorem dX7_openNow_49 : decode cX7_openNow 49 = .ok (.goto (-21), 3) := by decide +kernel
theorem dX7_openNow_52 : decode cX7_openNow 52 = .ok (.aload_n 0, 1) := by decide +kernel
theorem dX7_openNow_53 : decode cX7_openNow 53 = .ok (.getfield 7, 3) := by decide +kernel
theorem dX7_openNow_56 : decode cX7_openNow 56 = .ok (.iload 6, 2) := by decide +kernel
theorem dX7_openNow_58 : decode cX7_openNow 58 = .ok (.iload_n 1, 1) := by decide +kernel
theorem dX7_openNow_59 : decode cX7_openNow 59 = .ok (.iastore, 1) := by decide +kernel
theorem dX7_openNow_60 : decode cX7_openNow 60 = .ok (.aload_n 0, 1) := by decide +kernel
theorem dX7_openNow_61 : decode cX7_openNow 61 = .ok (.getfield 7, 3) := by decide +kernel
theorem dX7_openNow_64 : decode cX7_openNow 64 = .ok (.iload 6, 2) := by decide +kernel
theorem dX7_openNow_66 : decode cX7_openNow 66 = .ok (.iconst 1, 1) := by decide +kernel
theorem dX7_openNow_67 : decode cX7_openNow 67 = .ok (.iadd, 1) := by decide +kernel
theorem dX7_openNow_68 : decode cX7_openNow 68 = .ok (.iload_n 2, 1) := by decide +kernel
theorem dX7_openNow_69 : decode cX7_openNow 69 = .ok (.iastore, 1) := by decide +kernel
theorem dX7_openNow_70 : decode cX7_openNow 70 = .ok (.aload_n 0, 1) := by decide +kernel
theorem dX7_openNow_71 : decode cX7_openNow 71 = .ok (.getfield 7, 3) := by decide +kernel
theorem dX7_openNow_74 : decode cX7_openNow 74 = .ok (.iload 6, 2) := by decide +kernel
theorem dX7_openNow_76 : decode cX7_openNow 76 = .ok (.iconst 2, 1) := by decide +kernel
theorem dX7_openNow_77 : decode cX7_openNow 77 = .ok (.iadd, 1) := by decide +kernel
theorem dX7_openNow_78 : decode cX7_openNow 78 = .ok (.iload_n 3, 1) := by decide +kernel
theorem dX7_openNow_79 : decode cX7_openNow 79 = .ok (.iastore, 1) := by decide +kernel
theorem dX7_openNow_80 : decode cX7_openNow 80 = .ok (.aload_n 0, 1) := by decide +kernel
theorem dX7_openNow_81 : decode cX7_openNow 81 = .ok (.getfield 7, 3) := by decide +kernel
theorem dX7_openNow_84 : decode cX7_openNow 84 = .ok (.iload 6, 2) := by decide +kernel
theorem dX7_openNow_86 : decode cX7_openNow 86 = .ok (.iconst 3, 1) := by decide +kernel
theorem dX7_openNow_87 : decode cX7_openNow 87 = .ok (.iadd, 1) := by decide +kernel
theorem dX7_openNow_88 : decode cX7_openNow 88 = .ok (.iload_n 1, 1) := by decide +kernel
theorem dX7_openNow_89 : decode cX7_openNow 89 = .ok (.iload_n 2, 1) := by decide +kernel
theorem dX7_openNow_90 : decode cX7_openNow 90 = .ok (.iload_n 3, 1) := by decide +kernel
theorem dX7_openNow_91 : decode cX7_openNow 91 = .ok (.invokestatic 49, 3) := by decide +kernel
theorem dX7_openNow_94 : decode cX7_openNow 94 = .ok (.iastore, 1) := by decide +kernel
theorem dX7_openNow_95 : decode cX7_openNow 95 = .ok (.aload_n 0, 1) := by decide +kernel
theorem dX7_openNow_96 : decode cX7_openNow 96 = .ok (.getfield 7, 3) := by decide +kernel
theorem dX7_openNow_99 : decode cX7_openNow 99 = .ok (.iload 6, 2) := by decide +kernel
theorem dX7_openNow_101 : decode cX7_openNow 101 = .ok (.iconst 4, 1) := by decide +kernel
theorem dX7_openNow_102 : decode cX7_openNow 102 = .ok (.iadd, 1) := by decide +kernel
theorem dX7_openNow_103 : decode cX7_openNow 103 = .ok (.aload_n 0, 1) := by decide +kernel
theorem dX7_openNow_104 : decode cX7_openNow 104 = .ok (.getfield 7, 3) := by decide +kernel
theorem dX7_openNow_107 : decode cX7_openNow 107 = .ok (.iload 6, 2) := by decide +kernel
theorem dX7_openNow_109 : decode cX7_openNow 109 = .ok (.iconst 3, 1) := by decide +kernel
theorem dX7_openNow_110 : decode cX7_openNow 110 = .ok (.iadd, 1) := by decide +kernel
theorem dX7_openNow_111 : decode cX7_openNow 111 = .ok (.iaload, 1) := by decide +kernel
theorem dX7_openNow_112 : decode cX7_openNow 112 = .ok (.iload 4, 2) := by decide +kernel
theorem dX7_openNow_114 : decode cX7_openNow 114 = .ok (.iadd, 1) := by decide +kernel
theorem dX7_openNow_115 : decode cX7_openNow 115 = .ok (.iastore, 1) := by decide +kernel
theorem dX7_openNow_116 : decode cX7_openNow 116 = .ok (.aload_n 0, 1) := by decide +kernel
theorem dX7_openNow_117 : decode cX7_openNow 117 = .ok (.iload 5, 2) := by decide +kernel
theorem dX7_openNow_119 : decode cX7_openNow 119 = .ok (.iconst 0, 1) := by decide +kernel
theorem dX7_openNow_120 : decode cX7_openNow 120 = .ok (.aload_n 0, 1) := by decide +kernel
theorem dX7_openNow_121 : decode cX7_openNow 121 = .ok (.getfield 7, 3) := by decide +kernel
theorem dX7_openNow_124 : decode cX7_openNow 124 = .ok (.iload 6, 2) := by decide +kernel
theorem dX7_openNow_126 : decode cX7_openNow 126 = .ok (.iconst 3, 1) := by decide +kernel
theorem dX7_openNow_127 : decode cX7_openNow 127 = .ok (.iadd, 1) := by decide +kernel
theorem dX7_openNow_128 : decode cX7_openNow 128 = .ok (.iaload, 1) := by decide +kernel
theorem dX7_openNow_129 : decode cX7_openNow 129 = .ok (.invokevirtual 53, 3) := by decide +kernel
theorem dX7_openNow_132 : decode cX7_openNow 132 = .ok (.aload_n 0, 1) := by decide +kernel
theorem dX7_openNow_133 : decode cX7_openNow 133 = .ok (.iload 5, 2) := by decide +kernel
theorem dX7_openNow_135 : decode cX7_openNow 135 = .ok (.iconst 5, 1) := by decide +kernel
theorem dX7_openNow_136 : decode cX7_openNow 136 = .ok (.aload_n 0, 1) := by decide +kernel
theorem dX7_openNow_137 : decode cX7_openNow 137 = .ok (.getfield 7, 3) := by decide +kernel
theorem dX7_openNow_140 : decode cX7_openNow 140 = .ok (.iload 6, 2) := by decide +kernel
theorem dX7_openNow_142 : decode cX7_openNow 142 = .ok (.iconst 4, 1) := by decide +kernel
theorem dX7_openNow_143 : decode cX7_openNow 143 = .ok (.iadd, 1) := by decide +kernel
theorem dX7_openNow_144 : decode cX7_openNow 144 = .ok (.iaload, 1) := by decide +kernel
theorem dX7_openNow_145 : decode cX7_openNow 145 = .ok (.invokevirtual 53, 3) := by decide +kernel
theorem dX7_openNow_148 : decode cX7_openNow 148 = .ok (.aload_n 0, 1) := by decide +kernel
theorem dX7_openNow_149 : decode cX7_openNow 149 = .ok (.iload 5, 2) := by decide +kernel
theorem dX7_openNow_151 : decode cX7_openNow 151 = .ok (.bipush 15, 2) := by decide +kernel
theorem dX7_openNow_153 : decode cX7_openNow 153 = .ok (.iload 4, 2) := by decide +kernel
theorem dX7_openNow_155 : decode cX7_openNow 155 = .ok (.invokevirtual 53, 3) := by decide +kernel
theorem dX7_openNow_158 : decode cX7_openNow 158 = .ok (.return_, 1) := by decide +kernel
theorem dX7_open_0 : decode cX7_open 0 = .ok (.aload_n 0, 1) := by decide +kernel
theorem dX7_open_1 : decode cX7_open 1 = .ok (.iconst 0, 1) := by decide +kernel
theorem dX7_open_2 : decode cX7_open 2 = .ok (.putfield 25, 3) := by decide +kernel
theorem dX7_open_5 : decode cX7_open 5 = .ok (.iload_n 1, 1) := by decide +kernel
theorem dX7_open_6 : decode cX7_open 6 = .ok (.invokestatic 57, 3) := by decide +kernel
theorem dX7_open_9 : decode cX7_open 9 = .ok (.ifCond .eq 25, 3) := by decide +kernel
theorem dX7_open_12 : decode cX7_open 12 = .ok (.iload_n 2, 1) := by decide +kernel
theorem dX7_open_13 : decode cX7_open 13 = .ok (.invokestatic 61, 3) := by decide +kernel
theorem dX7_open_16 : decode cX7_open 16 = .ok (.ifCond .eq 18, 3) := by decide +kernel
theorem dX7_open_19 : decode cX7_open 19 = .ok (.iload_n 3, 1) := by decide +kernel
theorem dX7_open_20 : decode cX7_open 20 = .ok (.invokestatic 64, 3) := by decide +kernel
theorem dX7_open_23 : decode cX7_open 23 = .ok (.ifCond .eq 11, 3) := by decide +kernel
theorem dX7_open_26 : decode cX7_open 26 = .ok (.iload 4, 2) := by decide +kernel
theorem dX7_open_28 : decode cX7_open 28 = .ok (.invokestatic 57, 3) := by decide +kernel
theorem dX7_open_31 : decode cX7_open 31 = .ok (.ifCond .ne 9, 3) := by decide +kernel
theorem dX7_open_34 : decode cX7_open 34 = .ok (.aload_n 0, 1) := by decide +kernel
theorem dX7_open_35 : decode cX7_open 35 = .ok (.iconst 1, 1) := by decide +kernel
theorem dX7_open_36 : decode cX7_open 36 = .ok (.invokevirtual 67, 3) := by decide +kernel
theorem dX7_open_39 : decode cX7_open 39 = .ok (.ireturn, 1) := by decide +kernel
theorem dX7_open_40 : decode cX7_open 40 = .ok (.aload_n 0, 1) := by decide +kernel
theorem dX7_open_41 : decode cX7_open 41 = .ok (.getfield 7, 3) := by decide +kernel
theorem dX7_open_44 : decode cX7_open 44 = .ok (.iconst 0, 1) := by decide +kernel
theorem dX7_open_45 : decode cX7_open 45 = .ok (.iaload, 1) := by decide +kernel
theorem dX7_open_46 : decode cX7_open 46 = .ok (.bipush 8, 2) := by decide +kernel
theorem dX7_open_48 : decode cX7_open 48 = .ok (.if_icmp .ne 9, 3) := by decide +kernel
theorem dX7_open_51 : decode cX7_open 51 = .ok (.aload_n 0, 1) := by decide +kernel
theorem dX7_open_52 : decode cX7_open 52 = .ok (.iconst 2, 1) := by decide +kernel
theorem dX7_open_53 : decode cX7_open 53 = .ok (.invokevirtual 67, 3) := by decide +kernel
theorem dX7_open_56 : decode cX7_open 56 = .ok (.ireturn, 1) := by decide +kernel
theorem dX7_open_57 : decode cX7_open 57 = .ok (.aload_n 0, 1) := by decide +kernel
theorem dX7_open_58 : decode cX7_open 58 = .ok (.invokevirtual 70, 3) := by decide +kernel
theorem dX7_open_61 : decode cX7_open 61 = .ok (.aload_n 0, 1) := by decide +kernel
theorem dX7_open_62 : decode cX7_open 62 = .ok (.iload_n 1, 1) := by decide +kernel
theorem dX7_open_63 : decode cX7_open 63 = .ok (.iload_n 2, 1) := by decide +kernel
theorem dX7_open_64 : decode cX7_open 64 = .ok (.iload_n 3, 1) := by decide +kernel
theorem dX7_open_65 : decode cX7_open 65 = .ok (.iload 4, 2) := by decide +kernel
theorem dX7_open_67 : decode cX7_open 67 = .ok (.invokevirtual 73, 3) := by decide +kernel
theorem dX7_open_70 : decode cX7_open 70 = .ok (.aload_n 0, 1) := by decide +kernel
theorem dX7_open_71 : decode cX7_open 71 = .ok (.getfield 7, 3) := by decide +kernel
theorem dX7_open_74 : decode cX7_open 74 = .ok (.iconst 0, 1) := by decide +kernel
theorem dX7_open_75 : decode cX7_open 75 = .ok (.iaload, 1) := by decide +kernel
theorem dX7_open_76 : decode cX7_open 76 = .ok (.iconst 1, 1) := by decide +kernel
theorem dX7_open_77 : decode cX7_open 77 = .ok (.isub, 1) := by decide +kernel
theorem dX7_open_78 : decode cX7_open 78 = .ok (.ireturn, 1) := by decide +kernel
theorem dX7_cutOff_0 : decode cX7_cutOff 0 = .ok (.iconst 0, 1) := by decide +kernel
theorem dX7_cutOff_1 : decode cX7_cutOff 1 = .ok (.istore_n 3, 1) := by decide +kernel
theorem dX7_cutOff_2 : decode cX7_cutOff 2 = .ok (.iload_n 3, 1) := by decide +kernel
theorem dX7_cutOff_3 : decode cX7_cutOff 3 = .ok (.aload_n 0, 1) := by decide +kernel
theorem dX7_cutOff_4 : decode cX7_cutOff 4 = .ok (.getfield 7, 3) := by decide +kernel
theorem dX7_cutOff_7 : decode cX7_cutOff 7 = .ok (.iconst 1, 1) := by decide +kernel
theorem dX7_cutOff_8 : decode cX7_cutOff 8 = .ok (.iaload, 1) := by decide +kernel
theorem dX7_cutOff_9 : decode cX7_cutOff 9 = .ok (.if_icmp .ge 103, 3) := by decide +kernel
theorem dX7_cutOff_12 : decode cX7_cutOff 12 = .ok (.iload_n 3, 1) := by decide +kernel
theorem dX7_cutOff_13 : decode cX7_cutOff 13 = .ok (.invokestatic 77, 3) := by decide +kernel
theorem dX7_cutOff_16 : decode cX7_cutOff 16 = .ok (.istore 4, 2) := by decide +kernel
theorem dX7_cutOff_18 : decode cX7_cutOff 18 = .ok (.aload_n 0, 1) := by decide +kernel
theorem dX7_cutOff_19 : decode cX7_cutOff 19 = .ok (.getfield 7, 3) := by decide +kernel
theorem dX7_cutOff_22 : decode cX7_cutOff 22 = .ok (.iload 4, 2) := by decide +kernel
theorem dX7_cutOff_24 : decode cX7_cutOff 24 = .ok (.iaload, 1) := by decide +kernel
theorem dX7_cutOff_25 : decode cX7_cutOff 25 = .ok (.iload_n 1, 1) := by decide +kernel
theorem dX7_cutOff_26 : decode cX7_cutOff 26 = .ok (.if_icmp .ne 80, 3) := by decide +kernel
theorem dX7_cutOff_29 : decode cX7_cutOff 29 = .ok (.aload_n 0, 1) := by decide +kernel
theorem dX7_cutOff_30 : decode cX7_cutOff 30 = .ok (.getfield 7, 3) := by decide +kernel
theorem dX7_cutOff_33 : decode cX7_cutOff 33 = .ok (.iload 4, 2) := by decide +kernel
theorem dX7_cutOff_35 : decode cX7_cutOff 35 = .ok (.iconst 3, 1) := by decide +kernel
theorem dX7_cutOff_36 : decode cX7_cutOff 36 = .ok (.iadd, 1) := by decide +kernel
theorem dX7_cutOff_37 : decode cX7_cutOff 37 = .ok (.iaload, 1) := by decide +kernel
theorem dX7_cutOff_38 : decode cX7_cutOff 38 = .ok (.iload_n 2, 1) := by decide +kernel
theorem dX7_cutOff_39 : decode cX7_cutOff 39 = .ok (.if_icmp .le 67, 3) := by decide +kernel
theorem dX7_cutOff_42 : decode cX7_cutOff 42 = .ok (.aload_n 0, 1) := by decide +kernel
theorem dX7_cutOff_43 : decode cX7_cutOff 43 = .ok (.getfield 7, 3) := by decide +kernel
theorem dX7_cutOff_46 : decode cX7_cutOff 46 = .ok (.iload 4, 2) := by decide +kernel
theorem dX7_cutOff_48 : decode cX7_cutOff 48 = .ok (.iconst 2, 1) := by decide +kernel
theorem dX7_cutOff_49 : decode cX7_cutOff 49 = .ok (.iadd, 1) := by decide +kernel
theorem dX7_cutOff_50 : decode cX7_cutOff 50 = .ok (.iaload, 1) := by decide +kernel
theorem dX7_cutOff_51 : decode cX7_cutOff 51 = .ok (.iload_n 2, 1) := by decide +kernel
theorem dX7_cutOff_52 : decode cX7_cutOff 52 = .ok (.aload_n 0, 1) := by decide +kernel
theorem dX7_cutOff_53 : decode cX7_cutOff 53 = .ok (.getfield 7, 3) := by decide +kernel
theorem dX7_cutOff_56 : decode cX7_cutOff 56 = .ok (.iload 4, 2) := by decide +kernel
theorem dX7_cutOff_58 : decode cX7_cutOff 58 = .ok (.iconst 4, 1) := by decide +kernel
theorem dX7_cutOff_59 : decode cX7_cutOff 59 = .ok (.iadd, 1) := by decide +kernel
theorem dX7_cutOff_60 : decode cX7_cutOff 60 = .ok (.iaload, 1) := by decide +kernel
theorem dX7_cutOff_61 : decode cX7_cutOff 61 = .ok (.invokestatic 49, 3) := by decide +kernel
theorem dX7_cutOff_64 : decode cX7_cutOff 64 = .ok (.istore 5, 2) := by decide +kernel
theorem dX7_cutOff_66 : decode cX7_cutOff 66 = .ok (.aload_n 0, 1) := by decide +kernel
theorem dX7_cutOff_67 : decode cX7_cutOff 67 = .ok (.iload_n 1, 1) := by decide +kernel
theorem dX7_cutOff_68 : decode cX7_cutOff 68 = .ok (.bipush 14, 2) := by decide +kernel
theorem dX7_cutOff_70 : decode cX7_cutOff 70 = .ok (.aload_n 0, 1) := by decide +kernel
theorem dX7_cutOff_71 : decode cX7_cutOff 71 = .ok (.getfield 7, 3) := by decide +kernel
theorem dX7_cutOff_74 : decode cX7_cutOff 74 = .ok (.iload 4, 2) := by decide +kernel
theorem dX7_cutOff_76 : decode cX7_cutOff 76 = .ok (.iconst 5, 1) := by decide +kernel
theorem dX7_cutOff_77 : decode cX7_cutOff 77 = .ok (.iadd, 1) := by decide +kernel
theorem dX7_cutOff_78 : decode cX7_cutOff 78 = .ok (.iaload, 1) := by decide +kernel
theorem dX7_cutOff_79 : decode cX7_cutOff 79 = .ok (.iload 5, 2) := by decide +kernel
theorem dX7_cutOff_81 : decode cX7_cutOff 81 = .ok (.isub, 1) := by decide +kernel
theorem dX7_cutOff_82 : decode cX7_cutOff 82 = .ok (.invokevirtual 53, 3) := by decide +kernel
theorem dX7_cutOff_85 : decode cX7_cutOff 85 = .ok (.aload_n 0, 1) := by decide +kernel
theorem dX7_cutOff_86 : decode cX7_cutOff 86 = .ok (.getfield 7, 3) := by decide +kernel
theorem dX7_cutOff_89 : decode cX7_cutOff 89 = .ok (.iload 4, 2) := by decide +kernel
theorem dX7_cutOff_91 : decode cX7_cutOff 91 = .ok (.iconst 3, 1) := by decide +kernel
theorem dX7_cutOff_92 : decode cX7_cutOff 92 = .ok (.iadd, 1) := by decide +kernel
theorem dX7_cutOff_93 : decode cX7_cutOff 93 = .ok (.iload_n 2, 1) := by decide +kernel
theorem dX7_cutOff_94 : decode cX7_cutOff 94 = .ok (.iastore, 1) := by decide +kernel
theorem dX7_cutOff_95 : decode cX7_cutOff 95 = .ok (.aload_n 0, 1) := by decide +kernel
theorem dX7_cutOff_96 : decode cX7_cutOff 96 = .ok (.getfield 7, 3) := by decide +kernel
theorem dX7_cutOff_99 : decode cX7_cutOff 99 = .ok (.iload 4, 2) := by decide +kernel
theorem dX7_cutOff_101 : decode cX7_cutOff 101 = .ok (.iconst 5, 1) := by decide +kernel
theorem dX7_cutOff_102 : decode cX7_cutOff 102 = .ok (.iadd, 1) := by decide +kernel
theorem dX7_cutOff_103 : decode cX7_cutOff 103 = .ok (.iload 5, 2) := by decide +kernel
theorem dX7_cutOff_105 : decode cX7_cutOff 105 = .ok (.iastore, 1) := by decide +kernel
theorem dX7_cutOff_106 : decode cX7_cutOff 106 = .ok (.iinc 3 1, 3) := by decide +kernel
theorem dX7_cutOff_109 : decode cX7_cutOff 109 = .ok (.goto (-107), 3) := by decide +kernel
theorem dX7_cutOff_112 : decode cX7_cutOff 112 = .ok (.return_, 1) := by decide +kernel
theorem dX7_measure_0 : decode cX7_measure 0 = .ok (.iload_n 1, 1) := by decide +kernel
theorem dX7_measure_1 : decode cX7_measure 1 = .ok (.invokestatic 32, 3) := by decide +kernel
theorem dX7_measure_4 : decode cX7_measure 4 = .ok (.istore 5, 2) := by decide +kernel
theorem dX7_measure_6 : decode cX7_measure 6 = .ok (.iload_n 2, 1) := by decide +kernel
theorem dX7_measure_7 : decode cX7_measure 7 = .ok (.iload_n 3, 1) := by decide +kernel
theorem dX7_measure_8 : decode cX7_measure 8 = .ok (.iload 4, 2) := by decide +kernel
theorem dX7_measure_10 : decode cX7_measure 10 = .ok (.invokestatic 49, 3) := by decide +kernel
theorem dX7_measure_13 : decode cX7_measure 13 = .ok (.istore 6, 2) := by decide +kernel
theorem dX7_measure_15 : decode cX7_measure 15 = .ok (.iload 6, 2) := by decide +kernel
theorem dX7_measure_17 : decode cX7_measure 17 = .ok (.aload_n 0, 1) := by decide +kernel
theorem dX7_measure_18 : decode cX7_measure 18 = .ok (.getfield 7, 3) := by decide +kernel
theorem dX7_measure_21 : decode cX7_measure 21 = .ok (.iload 5, 2) := by decide +kernel
theorem dX7_measure_23 : decode cX7_measure 23 = .ok (.iconst 3, 1) := by decide +kernel
theorem dX7_measure_24 : decode cX7_measure 24 = .ok (.iadd, 1) := by decide +kernel
theorem dX7_measure_25 : decode cX7_measure 25 = .ok (.iaload, 1) := by decide +kernel
theorem dX7_measure_26 : decode cX7_measure 26 = .ok (.isub, 1) := by decide +kernel
theorem dX7_measure_27 : decode cX7_measure 27 = .ok (.istore 7, 2) := by decide +kernel
theorem dX7_measure_29 : decode cX7_measure 29 = .ok (.aload_n 0, 1) := by decide +kernel
theorem dX7_measure_30 : decode cX7_measure 30 = .ok (.getfield 7, 3) := by decide +kernel
theorem dX7_measure_33 : decode cX7_measure 33 = .ok (.iload 5, 2) := by decide +kernel
theorem dX7_measure_35 : decode cX7_measure 35 = .ok (.iconst 4, 1) := by decide +kernel
theorem dX7_measure_36 : decode cX7_measure 36 = .ok (.iadd, 1) := by decide +kernel
theorem dX7_measure_37 : decode cX7_measure 37 = .ok (.iaload, 1) := by decide +kernel
theorem dX7_measure_38 : decode cX7_measure 38 = .ok (.iload 7, 2) := by decide +kernel
theorem dX7_measure_40 : decode cX7_measure 40 = .ok (.iadd, 1) := by decide +kernel
theorem dX7_measure_41 : decode cX7_measure 41 = .ok (.ifCond .ge 7, 3) := by decide +kernel
theorem dX7_measure_44 : decode cX7_measure 44 = .ok (.iconst 0, 1) := by decide +kernel
theorem dX7_measure_45 : decode cX7_measure 45 = .ok (.goto 15, 3) := by decide +kernel
theorem dX7_measure_48 : decode cX7_measure 48 = .ok (.aload_n 0, 1) := by decide +kernel
theorem dX7_measure_49 : decode cX7_measure 49 = .ok (.getfield 7, 3) := by decide +kernel
theorem dX7_measure_52 : decode cX7_measure 52 = .ok (.iload 5, 2) := by decide +kernel
theorem dX7_measure_54 : decode cX7_measure 54 = .ok (.iconst 4, 1) := by decide +kernel
theorem dX7_measure_55 : decode cX7_measure 55 = .ok (.iadd, 1) := by decide +kernel
theorem dX7_measure_56 : decode cX7_measure 56 = .ok (.iaload, 1) := by decide +kernel
theorem dX7_measure_57 : decode cX7_measure 57 = .ok (.iload 7, 2) := by decide +kernel
theorem dX7_measure_59 : decode cX7_measure 59 = .ok (.iadd, 1) := by decide +kernel
theorem dX7_measure_60 : decode cX7_measure 60 = .ok (.istore 8, 2) := by decide +kernel
theorem dX7_measure_62 : decode cX7_measure 62 = .ok (.aload_n 0, 1) := by decide +kernel
theorem dX7_measure_63 : decode cX7_measure 63 = .ok (.iload_n 1, 1) := by decide +kernel
theorem dX7_measure_64 : decode cX7_measure 64 = .ok (.iconst 3, 1) := by decide +kernel
theorem dX7_measure_65 : decode cX7_measure 65 = .ok (.iload 7, 2) := by decide +kernel
theorem dX7_measure_67 : decode cX7_measure 67 = .ok (.invokevirtual 53, 3) := by decide +kernel
theorem dX7_measure_70 : decode cX7_measure 70 = .ok (.aload_n 0, 1) := by decide +kernel
theorem dX7_measure_71 : decode cX7_measure 71 = .ok (.iload_n 1, 1) := by decide +kernel
theorem dX7_measure_72 : decode cX7_measure 72 = .ok (.bipush 7, 2) := by decide +kernel
theorem dX7_measure_74 : decode cX7_measure 74 = .ok (.iload 8, 2) := by decide +kernel
theorem dX7_measure_76 : decode cX7_measure 76 = .ok (.aload_n 0, 1) := by decide +kernel
theorem dX7_measure_77 : decode cX7_measure 77 = .ok (.getfield 7, 3) := by decide +kernel
theorem dX7_measure_80 : decode cX7_measure 80 = .ok (.iload 5, 2) := by decide +kernel
theorem dX7_measure_82 : decode cX7_measure 82 = .ok (.iconst 4, 1) := by decide +kernel
theorem dX7_measure_83 : decode cX7_measure 83 = .ok (.iadd, 1) := by decide +kernel
theorem dX7_measure_84 : decode cX7_measure 84 = .ok (.iaload, 1) := by decide +kernel
theorem dX7_measure_85 : decode cX7_measure 85 = .ok (.isub, 1) := by decide +kernel
theorem dX7_measure_86 : decode cX7_measure 86 = .ok (.invokevirtual 53, 3) := by decide +kernel
theorem dX7_measure_89 : decode cX7_measure 89 = .ok (.aload_n 0, 1) := by decide +kernel
theorem dX7_measure_90 : decode cX7_measure 90 = .ok (.getfield 7, 3) := by decide +kernel
theorem dX7_measure_93 : decode cX7_measure 93 = .ok (.iload 5, 2) := by decide +kernel
theorem dX7_measure_95 : decode cX7_measure 95 = .ok (.iload_n 2, 1) := by decide +kernel
theorem dX7_measure_96 : decode cX7_measure 96 = .ok (.iastore, 1) := by decide +kernel
theorem dX7_measure_97 : decode cX7_measure 97 = .ok (.aload_n 0, 1) := by decide +kernel
theorem dX7_measure_98 : decode cX7_measure 98 = .ok (.getfield 7, 3) := by decide +kernel
theorem dX7_measure_101 : decode cX7_measure 101 = .ok (.iload 5, 2) := by decide +kernel
theorem dX7_measure_103 : decode cX7_measure 103 = .ok (.iconst 1, 1) := by decide +kernel
theorem dX7_measure_104 : decode cX7_measure 104 = .ok (.iadd, 1) := by decide +kernel
theorem dX7_measure_105 : decode cX7_measure 105 = .ok (.iload_n 3, 1) := by decide +kernel
theorem dX7_measure_106 : decode cX7_measure 106 = .ok (.iastore, 1) := by decide +kernel
theorem dX7_measure_107 : decode cX7_measure 107 = .ok (.aload_n 0, 1) := by decide +kernel
theorem dX7_measure_108 : decode cX7_measure 108 = .ok (.getfield 7, 3) := by decide +kernel
theorem dX7_measure_111 : decode cX7_measure 111 = .ok (.iload 5, 2) := by decide +kernel
theorem dX7_measure_113 : decode cX7_measure 113 = .ok (.iconst 2, 1) := by decide +kernel
theorem dX7_measure_114 : decode cX7_measure 114 = .ok (.iadd, 1) := by decide +kernel
theorem dX7_measure_115 : decode cX7_measure 115 = .ok (.iload 4, 2) := by decide +kernel
theorem dX7_measure_117 : decode cX7_measure 117 = .ok (.iastore, 1) := by decide +kernel
theorem dX7_measure_118 : decode cX7_measure 118 = .ok (.aload_n 0, 1) := by decide +kernel
theorem dX7_measure_119 : decode cX7_measure 119 = .ok (.getfield 7, 3) := by decide +kernel
theorem dX7_measure_122 : decode cX7_measure 122 = .ok (.iload 5, 2) := by decide +kernel
theorem dX7_measure_124 : decode cX7_measure 124 = .ok (.iconst 3, 1) := by decide +kernel
theorem dX7_measure_125 : decode cX7_measure 125 = .ok (.iadd, 1) := by decide +kernel
theorem dX7_measure_126 : decode cX7_measure 126 = .ok (.iload 6, 2) := by decide +kernel
theorem dX7_measure_128 : decode cX7_measure 128 = .ok (.iastore, 1) := by decide +kernel
theorem dX7_measure_129 : decode cX7_measure 129 = .ok (.aload_n 0, 1) := by decide +kernel
theorem dX7_measure_130 : decode cX7_measure 130 = .ok (.getfield 7, 3) := by decide +kernel
theorem dX7_measure_133 : decode cX7_measure 133 = .ok (.iload 5, 2) := by decide +kernel
theorem dX7_measure_135 : decode cX7_measure 135 = .ok (.iconst 4, 1) := by decide +kernel
theorem dX7_measure_136 : decode cX7_measure 136 = .ok (.iadd, 1) := by decide +kernel
theorem dX7_measure_137 : decode cX7_measure 137 = .ok (.iload 8, 2) := by decide +kernel
theorem dX7_measure_139 : decode cX7_measure 139 = .ok (.iastore, 1) := by decide +kernel
theorem dX7_measure_140 : decode cX7_measure 140 = .ok (.aload_n 0, 1) := by decide +kernel
theorem dX7_measure_141 : decode cX7_measure 141 = .ok (.iload_n 1, 1) := by decide +kernel
theorem dX7_measure_142 : decode cX7_measure 142 = .ok (.iload_n 3, 1) := by decide +kernel
theorem dX7_measure_143 : decode cX7_measure 143 = .ok (.invokevirtual 80, 3) := by decide +kernel
theorem dX7_measure_146 : decode cX7_measure 146 = .ok (.return_, 1) := by decide +kernel
theorem dX7_term_0 : decode cX7_term 0 = .ok (.aload_n 0, 1) := by decide +kernel
theorem dX7_term_1 : decode cX7_term 1 = .ok (.iconst 0, 1) := by decide +kernel
theorem dX7_term_2 : decode cX7_term 2 = .ok (.putfield 25, 3) := by decide +kernel
theorem dX7_term_5 : decode cX7_term 5 = .ok (.aload_n 0, 1) := by decide +kernel
theorem dX7_term_6 : decode cX7_term 6 = .ok (.iload_n 1, 1) := by decide +kernel
theorem dX7_term_7 : decode cX7_term 7 = .ok (.invokevirtual 84, 3) := by decide +kernel
theorem dX7_term_10 : decode cX7_term 10 = .ok (.ifCond .ne 9, 3) := by decide +kernel
theorem dX7_term_13 : decode cX7_term 13 = .ok (.aload_n 0, 1) := by decide +kernel
theorem dX7_term_14 : decode cX7_term 14 = .ok (.iconst 1, 1) := by decide +kernel
theorem dX7_term_15 : decode cX7_term 15 = .ok (.invokevirtual 67, 3) := by decide +kernel
theorem dX7_term_18 : decode cX7_term 18 = .ok (.ireturn, 1) := by decide +kernel
theorem dX7_term_19 : decode cX7_term 19 = .ok (.iload_n 2, 1) := by decide +kernel
theorem dX7_term_20 : decode cX7_term 20 = .ok (.invokestatic 61, 3) := by decide +kernel
theorem dX7_term_23 : decode cX7_term 23 = .ok (.ifCond .eq 10, 3) := by decide +kernel
theorem dX7_term_26 : decode cX7_term 26 = .ok (.iload_n 3, 1) := by decide +kernel
theorem dX7_term_27 : decode cX7_term 27 = .ok (.invokestatic 64, 3) := by decide +kernel
theorem dX7_term_30 : decode cX7_term 30 = .ok (.ifCond .ne 9, 3) := by decide +kernel
theorem dX7_term_33 : decode cX7_term 33 = .ok (.aload_n 0, 1) := by decide +kernel
theorem dX7_term_34 : decode cX7_term 34 = .ok (.iconst 2, 1) := by decide +kernel
theorem dX7_term_35 : decode cX7_term 35 = .ok (.invokevirtual 67, 3) := by decide +kernel
theorem dX7_term_38 : decode cX7_term 38 = .ok (.ireturn, 1) := by decide +kernel
theorem dX7_term_39 : decode cX7_term 39 = .ok (.aload_n 0, 1) := by decide +kernel
theorem dX7_term_40 : decode cX7_term 40 = .ok (.iload_n 1, 1) := by decide +kernel
theorem dX7_term_41 : decode cX7_term 41 = .ok (.invokevirtual 87, 3) := by decide +kernel
theorem dX7_term_44 : decode cX7_term 44 = .ok (.ifCond .ne 9, 3) := by decide +kernel
theorem dX7_term_47 : decode cX7_term 47 = .ok (.aload_n 0, 1) := by decide +kernel
theorem dX7_term_48 : decode cX7_term 48 = .ok (.iconst 3, 1) := by decide +kernel
theorem dX7_term_49 : decode cX7_term 49 = .ok (.invokevirtual 67, 3) := by decide +kernel
theorem dX7_term_52 : decode cX7_term 52 = .ok (.ireturn, 1) := by decide +kernel
theorem dX7_term_53 : decode cX7_term 53 = .ok (.aload_n 0, 1) := by decide +kernel
theorem dX7_term_54 : decode cX7_term 54 = .ok (.invokevirtual 70, 3) := by decide +kernel
theorem dX7_term_57 : decode cX7_term 57 = .ok (.aload_n 0, 1) := by decide +kernel
theorem dX7_term_58 : decode cX7_term 58 = .ok (.iload_n 1, 1) := by decide +kernel
theorem dX7_term_59 : decode cX7_term 59 = .ok (.aload_n 0, 1) := by decide +kernel
theorem dX7_term_60 : decode cX7_term 60 = .ok (.getfield 7, 3) := by decide +kernel
theorem dX7_term_63 : decode cX7_term 63 = .ok (.iload_n 1, 1) := by decide +kernel
theorem dX7_term_64 : decode cX7_term 64 = .ok (.invokestatic 32, 3) := by decide +kernel
theorem dX7_term_67 : decode cX7_term 67 = .ok (.iaload, 1) := by decide +kernel
theorem dX7_term_68 : decode cX7_term 68 = .ok (.iload_n 2, 1) := by decide +kernel
theorem dX7_term_69 : decode cX7_term 69 = .ok (.iload_n 3, 1) := by decide +kernel
theorem dX7_term_70 : decode cX7_term 70 = .ok (.invokevirtual 90, 3) := by decide +kernel
theorem dX7_term_73 : decode cX7_term 73 = .ok (.aload_n 0, 1) := by decide +kernel
theorem dX7_term_74 : decode cX7_term 74 = .ok (.getfield 7, 3) := by decide +kernel
theorem dX7_term_77 : decode cX7_term 77 = .ok (.iload_n 1, 1) := by decide +kernel
theorem dX7_term_78 : decode cX7_term 78 = .ok (.invokestatic 32, 3) := by decide +kernel
theorem dX7_term_81 : decode cX7_term 81 = .ok (.iconst 3, 1) := by decide +kernel
theorem dX7_term_82 : decode cX7_term 82 = .ok (.iadd, 1) := by decide +kernel
theorem dX7_term_83 : decode cX7_term 83 = .ok (.iaload, 1) := by decide +kernel
theorem dX7_term_84 : decode cX7_term 84 = .ok (.ireturn, 1) := by decide +kernel
theorem dX7_rent_0 : decode cX7_rent 0 = .ok (.aload_n 0, 1) := by decide +kernel
theorem dX7_rent_1 : decode cX7_rent 1 = .ok (.iconst 0, 1) := by decide +kernel
theorem dX7_rent_2 : decode cX7_rent 2 = .ok (.putfield 25, 3) := by decide +kernel
theorem dX7_rent_5 : decode cX7_rent 5 = .ok (.aload_n 0, 1) := by decide +kernel
theorem dX7_rent_6 : decode cX7_rent 6 = .ok (.iload_n 1, 1) := by decide +kernel
theorem dX7_rent_7 : decode cX7_rent 7 = .ok (.invokevirtual 84, 3) := by decide +kernel
theorem dX7_rent_10 : decode cX7_rent 10 = .ok (.ifCond .ne 9, 3) := by decide +kernel
theorem dX7_rent_13 : decode cX7_rent 13 = .ok (.aload_n 0, 1) := by decide +kernel
theorem dX7_rent_14 : decode cX7_rent 14 = .ok (.iconst 1, 1) := by decide +kernel
theorem dX7_rent_15 : decode cX7_rent 15 = .ok (.invokevirtual 67, 3) := by decide +kernel
theorem dX7_rent_18 : decode cX7_rent 18 = .ok (.ireturn, 1) := by decide +kernel
theorem dX7_rent_19 : decode cX7_rent 19 = .ok (.iload_n 2, 1) := by decide +kernel
theorem dX7_rent_20 : decode cX7_rent 20 = .ok (.invokestatic 57, 3) := by decide +kernel
theorem dX7_rent_23 : decode cX7_rent 23 = .ok (.ifCond .ne 9, 3) := by decide +kernel
theorem dX7_rent_26 : decode cX7_rent 26 = .ok (.aload_n 0, 1) := by decide +kernel
theorem dX7_rent_27 : decode cX7_rent 27 = .ok (.iconst 2, 1) := by decide +kernel
theorem dX7_rent_28 : decode cX7_rent 28 = .ok (.invokevirtual 67, 3) := by decide +kernel
theorem dX7_rent_31 : decode cX7_rent 31 = .ok (.ireturn, 1) := by decide +kernel
theorem dX7_rent_32 : decode cX7_rent 32 = .ok (.aload_n 0, 1) := by decide +kernel
theorem dX7_rent_33 : decode cX7_rent 33 = .ok (.iload_n 1, 1) := by decide +kernel
theorem dX7_rent_34 : decode cX7_rent 34 = .ok (.invokevirtual 87, 3) := by decide +kernel
theorem dX7_rent_37 : decode cX7_rent 37 = .ok (.ifCond .ne 9, 3) := by decide +kernel
theorem dX7_rent_40 : decode cX7_rent 40 = .ok (.aload_n 0, 1) := by decide +kernel
theorem dX7_rent_41 : decode cX7_rent 41 = .ok (.iconst 3, 1) := by decide +kernel
theorem dX7_rent_42 : decode cX7_rent 42 = .ok (.invokevirtual 67, 3) := by decide +kernel
theorem dX7_rent_45 : decode cX7_rent 45 = .ok (.ireturn, 1) := by decide +kernel
theorem dX7_rent_46 : decode cX7_rent 46 = .ok (.aload_n 0, 1) := by decide +kernel
theorem dX7_rent_47 : decode cX7_rent 47 = .ok (.invokevirtual 70, 3) := by decide +kernel
theorem dX7_rent_50 : decode cX7_rent 50 = .ok (.aload_n 0, 1) := by decide +kernel
theorem dX7_rent_51 : decode cX7_rent 51 = .ok (.iload_n 1, 1) := by decide +kernel
theorem dX7_rent_52 : decode cX7_rent 52 = .ok (.iload_n 2, 1) := by decide +kernel
theorem dX7_rent_53 : decode cX7_rent 53 = .ok (.aload_n 0, 1) := by decide +kernel
theorem dX7_rent_54 : decode cX7_rent 54 = .ok (.getfield 7, 3) := by decide +kernel
theorem dX7_rent_57 : decode cX7_rent 57 = .ok (.iload_n 1, 1) := by decide +kernel
theorem dX7_rent_58 : decode cX7_rent 58 = .ok (.invokestatic 32, 3) := by decide +kernel
theorem dX7_rent_61 : decode cX7_rent 61 = .ok (.iconst 1, 1) := by decide +kernel
theorem dX7_rent_62 : decode cX7_rent 62 = .ok (.iadd, 1) := by decide +kernel
theorem dX7_rent_63 : decode cX7_rent 63 = .ok (.iaload, 1) := by decide +kernel
theorem dX7_rent_64 : decode cX7_rent 64 = .ok (.aload_n 0, 1) := by decide +kernel
theorem dX7_rent_65 : decode cX7_rent 65 = .ok (.getfield 7, 3) := by decide +kernel
theorem dX7_rent_68 : decode cX7_rent 68 = .ok (.iload_n 1, 1) := by decide +kernel
theorem dX7_rent_69 : decode cX7_rent 69 = .ok (.invokestatic 32, 3) := by decide +kernel
theorem dX7_rent_72 : decode cX7_rent 72 = .ok (.iconst 2, 1) := by decide +kernel
theorem dX7_rent_73 : decode cX7_rent 73 = .ok (.iadd, 1) := by decide +kernel
theorem dX7_rent_74 : decode cX7_rent 74 = .ok (.iaload, 1) := by decide +kernel
theorem dX7_rent_75 : decode cX7_rent 75 = .ok (.invokevirtual 90, 3) := by decide +kernel
theorem dX7_rent_78 : decode cX7_rent 78 = .ok (.aload_n 0, 1) := by decide +kernel
theorem dX7_rent_79 : decode cX7_rent 79 = .ok (.getfield 7, 3) := by decide +kernel
theorem dX7_rent_82 : decode cX7_rent 82 = .ok (.iload_n 1, 1) := by decide +kernel
theorem dX7_rent_83 : decode cX7_rent 83 = .ok (.invokestatic 32, 3) := by decide +kernel
theorem dX7_rent_86 : decode cX7_rent 86 = .ok (.iconst 3, 1) := by decide +kernel
theorem dX7_rent_87 : decode cX7_rent 87 = .ok (.iadd, 1) := by decide +kernel
theorem dX7_rent_88 : decode cX7_rent 88 = .ok (.iaload, 1) := by decide +kernel
theorem dX7_rent_89 : decode cX7_rent 89 = .ok (.ireturn, 1) := by decide +kernel
theorem dX7_ofSubs_0 : decode cX7_ofSubs 0 = .ok (.iconst 0, 1) := by decide +kernel
theorem dX7_ofSubs_1 : decode cX7_ofSubs 1 = .ok (.istore_n 3, 1) := by decide +kernel
theorem dX7_ofSubs_2 : decode cX7_ofSubs 2 = .ok (.iconst 0, 1) := by decide +kernel
theorem dX7_ofSubs_3 : decode cX7_ofSubs 3 = .ok (.istore 4, 2) := by decide +kernel
theorem dX7_ofSubs_5 : decode cX7_ofSubs 5 = .ok (.iload 4, 2) := by decide +kernel
theorem dX7_ofSubs_7 : decode cX7_ofSubs 7 = .ok (.aload_n 0, 1) := by decide +kernel
theorem dX7_ofSubs_8 : decode cX7_ofSubs 8 = .ok (.getfield 7, 3) := by decide +kernel
theorem dX7_ofSubs_11 : decode cX7_ofSubs 11 = .ok (.iconst 1, 1) := by decide +kernel
theorem dX7_ofSubs_12 : decode cX7_ofSubs 12 = .ok (.iaload, 1) := by decide +kernel
theorem dX7_ofSubs_13 : decode cX7_ofSubs 13 = .ok (.if_icmp .ge 94, 3) := by decide +kernel
theorem dX7_ofSubs_16 : decode cX7_ofSubs 16 = .ok (.iload 4, 2) := by decide +kernel
theorem dX7_ofSubs_18 : decode cX7_ofSubs 18 = .ok (.invokestatic 77, 3) := by decide +kernel
theorem dX7_ofSubs_21 : decode cX7_ofSubs 21 = .ok (.istore 5, 2) := by decide +kernel
theorem dX7_ofSubs_23 : decode cX7_ofSubs 23 = .ok (.aload_n 0, 1) := by decide +kernel
theorem dX7_ofSubs_24 : decode cX7_ofSubs 24 = .ok (.getfield 7, 3) := by decide +kernel
theorem dX7_ofSubs_27 : decode cX7_ofSubs 27 = .ok (.iload 5, 2) := by decide +kernel
theorem dX7_ofSubs_29 : decode cX7_ofSubs 29 = .ok (.iconst 3, 1) := by decide +kernel
theorem dX7_ofSubs_30 : decode cX7_ofSubs 30 = .ok (.iadd, 1) := by decide +kernel
theorem dX7_ofSubs_31 : decode cX7_ofSubs 31 = .ok (.iaload, 1) := by decide +kernel
theorem dX7_ofSubs_32 : decode cX7_ofSubs 32 = .ok (.ifCond .le 7, 3) := by decide +kernel
theorem dX7_ofSubs_35 : decode cX7_ofSubs 35 = .ok (.iconst 1, 1) := by decide +kernel
theorem dX7_ofSubs_36 : decode cX7_ofSubs 36 = .ok (.goto 4, 3) := by decide +kernel
theorem dX7_ofSubs_39 : decode cX7_ofSubs 39 = .ok (.iconst 0, 1) := by decide +kernel
theorem dX7_ofSubs_40 : decode cX7_ofSubs 40 = .ok (.istore 6, 2) := by decide +kernel
theorem dX7_ofSubs_42 : decode cX7_ofSubs 42 = .ok (.aload_n 0, 1) := by decide +kernel
theorem dX7_ofSubs_43 : decode cX7_ofSubs 43 = .ok (.getfield 7, 3) := by decide +kernel
theorem dX7_ofSubs_46 : decode cX7_ofSubs 46 = .ok (.iload 5, 2) := by decide +kernel
theorem dX7_ofSubs_48 : decode cX7_ofSubs 48 = .ok (.iaload, 1) := by decide +kernel
theorem dX7_ofSubs_49 : decode cX7_ofSubs 49 = .ok (.iload_n 1, 1) := by decide +kernel
theorem dX7_ofSubs_50 : decode cX7_ofSubs 50 = .ok (.if_icmp .ne 51, 3) := by decide +kernel
theorem dX7_ofSubs_53 : decode cX7_ofSubs 53 = .ok (.iload_n 3, 1) := by decide +kernel
theorem dX7_ofSubs_54 : decode cX7_ofSubs 54 = .ok (.iload_n 2, 1) := by decide +kernel
theorem dX7_ofSubs_55 : decode cX7_ofSubs 55 = .ok (.iconst 5, 1) := by decide +kernel
theorem dX7_ofSubs_56 : decode cX7_ofSubs 56 = .ok (.if_icmp .ne 15, 3) := by decide +kernel
theorem dX7_ofSubs_59 : decode cX7_ofSubs 59 = .ok (.aload_n 0, 1) := by decide +kernel
theorem dX7_ofSubs_60 : decode cX7_ofSubs 60 = .ok (.getfield 7, 3) := by decide +kernel
theorem dX7_ofSubs_63 : decode cX7_ofSubs 63 = .ok (.iload 5, 2) := by decide +kernel
theorem dX7_ofSubs_65 : decode cX7_ofSubs 65 = .ok (.iconst 5, 1) := by decide +kernel
theorem dX7_ofSubs_66 : decode cX7_ofSubs 66 = .ok (.iadd, 1) := by decide +kernel
theorem dX7_ofSubs_67 : decode cX7_ofSubs 67 = .ok (.iaload, 1) := by decide +kernel
theorem dX7_ofSubs_68 : decode cX7_ofSubs 68 = .ok (.goto 31, 3) := by decide +kernel
theorem dX7_ofSubs_71 : decode cX7_ofSubs 71 = .ok (.iload 6, 2) := by decide +kernel
theorem dX7_ofSubs_73 : decode cX7_ofSubs 73 = .ok (.ifCond .ne 7, 3) := by decide +kernel
theorem dX7_ofSubs_76 : decode cX7_ofSubs 76 = .ok (.iconst 0, 1) := by decide +kernel
theorem dX7_ofSubs_77 : decode cX7_ofSubs 77 = .ok (.goto 22, 3) := by decide +kernel
theorem dX7_ofSubs_80 : decode cX7_ofSubs 80 = .ok (.iload_n 2, 1) := by decide +kernel
theorem dX7_ofSubs_81 : decode cX7_ofSubs 81 = .ok (.bipush 7, 2) := by decide +kernel
theorem dX7_ofSubs_83 : decode cX7_ofSubs 83 = .ok (.if_icmp .ne 15, 3) := by decide +kernel
theorem dX7_ofSubs_86 : decode cX7_ofSubs 86 = .ok (.aload_n 0, 1) := by decide +kernel
theorem dX7_ofSubs_87 : decode cX7_ofSubs 87 = .ok (.getfield 7, 3) := by decide +kernel
theorem dX7_ofSubs_90 : decode cX7_ofSubs 90 = .ok (.iload 5, 2) := by decide +kernel
theorem dX7_ofSubs_92 : decode cX7_ofSubs 92 = .ok (.iconst 1, 1) := by decide +kernel
theorem dX7_ofSubs_93 : decode cX7_ofSubs 93 = .ok (.iadd, 1) := by decide +kernel
theorem dX7_ofSubs_94 : decode cX7_ofSubs 94 = .ok (.iaload, 1) := by decide +kernel
theorem dX7_ofSubs_95 : decode cX7_ofSubs 95 = .ok (.goto 4, 3) := by decide +kernel
theorem dX7_ofSubs_98 : decode cX7_ofSubs 98 = .ok (.iconst 1, 1) := by decide +kernel
theorem dX7_ofSubs_99 : decode cX7_ofSubs 99 = .ok (.iadd, 1) := by decide +kernel
theorem dX7_ofSubs_100 : decode cX7_ofSubs 100 = .ok (.istore_n 3, 1) := by decide +kernel
theorem dX7_ofSubs_101 : decode cX7_ofSubs 101 = .ok (.iinc 4 1, 3) := by decide +kernel
theorem dX7_ofSubs_104 : decode cX7_ofSubs 104 = .ok (.goto (-99), 3) := by decide +kernel
theorem dX7_ofSubs_107 : decode cX7_ofSubs 107 = .ok (.iload_n 3, 1) := by decide +kernel
theorem dX7_ofSubs_108 : decode cX7_ofSubs 108 = .ok (.ireturn, 1) := by decide +kernel
theorem dX7_endPart_0 : decode cX7_endPart 0 = .ok (.aload_n 0, 1) := by decide +kernel
theorem dX7_endPart_1 : decode cX7_endPart 1 = .ok (.iconst 0, 1) := by decide +kernel
theorem dX7_endPart_2 : decode cX7_endPart 2 = .ok (.putfield 25, 3) := by decide +kernel
theorem dX7_endPart_5 : decode cX7_endPart 5 = .ok (.aload_n 0, 1) := by decide +kernel
theorem dX7_endPart_6 : decode cX7_endPart 6 = .ok (.iload_n 1, 1) := by decide +kernel
theorem dX7_endPart_7 : decode cX7_endPart 7 = .ok (.invokevirtual 84, 3) := by decide +kernel
theorem dX7_endPart_10 : decode cX7_endPart 10 = .ok (.ifCond .ne 9, 3) := by decide +kernel
theorem dX7_endPart_13 : decode cX7_endPart 13 = .ok (.aload_n 0, 1) := by decide +kernel
theorem dX7_endPart_14 : decode cX7_endPart 14 = .ok (.iconst 1, 1) := by decide +kernel
theorem dX7_endPart_15 : decode cX7_endPart 15 = .ok (.invokevirtual 67, 3) := by decide +kernel
theorem dX7_endPart_18 : decode cX7_endPart 18 = .ok (.ireturn, 1) := by decide +kernel
theorem dX7_endPart_19 : decode cX7_endPart 19 = .ok (.iload_n 2, 1) := by decide +kernel
theorem dX7_endPart_20 : decode cX7_endPart 20 = .ok (.invokestatic 93, 3) := by decide +kernel
theorem dX7_endPart_23 : decode cX7_endPart 23 = .ok (.ifCond .eq 10, 3) := by decide +kernel
theorem dX7_endPart_26 : decode cX7_endPart 26 = .ok (.iload_n 3, 1) := by decide +kernel
theorem dX7_endPart_27 : decode cX7_endPart 27 = .ok (.invokestatic 57, 3) := by decide +kernel
theorem dX7_endPart_30 : decode cX7_endPart 30 = .ok (.ifCond .ne 9, 3) := by decide +kernel
theorem dX7_endPart_33 : decode cX7_endPart 33 = .ok (.aload_n 0, 1) := by decide +kernel
theorem dX7_endPart_34 : decode cX7_endPart 34 = .ok (.iconst 2, 1) := by decide +kernel
theorem dX7_endPart_35 : decode cX7_endPart 35 = .ok (.invokevirtual 67, 3) := by decide +kernel
theorem dX7_endPart_38 : decode cX7_endPart 38 = .ok (.ireturn, 1) := by decide +kernel
theorem dX7_endPart_39 : decode cX7_endPart 39 = .ok (.aload_n 0, 1) := by decide +kernel
theorem dX7_endPart_40 : decode cX7_endPart 40 = .ok (.iload_n 1, 1) := by decide +kernel
theorem dX7_endPart_41 : decode cX7_endPart 41 = .ok (.invokevirtual 87, 3) := by decide +kernel
theorem dX7_endPart_44 : decode cX7_endPart 44 = .ok (.ifCond .eq 13, 3) := by decide +kernel
theorem dX7_endPart_47 : decode cX7_endPart 47 = .ok (.aload_n 0, 1) := by decide +kernel
theorem dX7_endPart_48 : decode cX7_endPart 48 = .ok (.iload_n 1, 1) := by decide +kernel
theorem dX7_endPart_49 : decode cX7_endPart 49 = .ok (.bipush 8, 2) := by decide +kernel
theorem dX7_endPart_51 : decode cX7_endPart 51 = .ok (.invokevirtual 96, 3) := by decide +kernel
theorem dX7_endPart_54 : decode cX7_endPart 54 = .ok (.ifCond .le 9, 3) := by decide +kernel
theorem dX7_endPart_57 : decode cX7_endPart 57 = .ok (.aload_n 0, 1) := by decide +kernel
theorem dX7_endPart_58 : decode cX7_endPart 58 = .ok (.iconst 3, 1) := by decide +kernel
theorem dX7_endPart_59 : decode cX7_endPart 59 = .ok (.invokevirtual 67, 3) := by decide +kernel
theorem dX7_endPart_62 : decode cX7_endPart 62 = .ok (.ireturn, 1) := by decide +kernel
theorem dX7_endPart_63 : decode cX7_endPart 63 = .ok (.aload_n 0, 1) := by decide +kernel
theorem dX7_endPart_64 : decode cX7_endPart 64 = .ok (.invokevirtual 70, 3) := by decide +kernel
theorem dX7_endPart_67 : decode cX7_endPart 67 = .ok (.iload_n 1, 1) := by decide +kernel
theorem dX7_endPart_68 : decode cX7_endPart 68 = .ok (.invokestatic 32, 3) := by decide +kernel
theorem dX7_endPart_71 : decode cX7_endPart 71 = .ok (.istore 4, 2) := by decide +kernel
theorem dX7_endPart_73 : decode cX7_endPart 73 = .ok (.aload_n 0, 1) := by decide +kernel
theorem dX7_endPart_74 : decode cX7_endPart 74 = .ok (.getfield 7, 3) := by decide +kernel
theorem dX7_endPart_77 : decode cX7_endPart 77 = .ok (.iload 4, 2) := by decide +kernel
theorem dX7_endPart_79 : decode cX7_endPart 79 = .ok (.iconst 4, 1) := by decide +kernel
theorem dX7_endPart_80 : decode cX7_endPart 80 = .ok (.iadd, 1) := by decide +kernel
theorem dX7_endPart_81 : decode cX7_endPart 81 = .ok (.iaload, 1) := by decide +kernel
theorem dX7_endPart_82 : decode cX7_endPart 82 = .ok (.iload_n 2, 1) := by decide +kernel
theorem dX7_endPart_83 : decode cX7_endPart 83 = .ok (.invokestatic 100, 3) := by decide +kernel
theorem dX7_endPart_86 : decode cX7_endPart 86 = .ok (.istore 5, 2) := by decide +kernel
theorem dX7_endPart_88 : decode cX7_endPart 88 = .ok (.aload_n 0, 1) := by decide +kernel
theorem dX7_endPart_89 : decode cX7_endPart 89 = .ok (.getfield 7, 3) := by decide +kernel
theorem dX7_endPart_92 : decode cX7_endPart 92 = .ok (.iload 4, 2) := by decide +kernel
theorem dX7_endPart_94 : decode cX7_endPart 94 = .ok (.dup2, 1) := by decide +kernel
theorem dX7_endPart_95 : decode cX7_endPart 95 = .ok (.iaload, 1) := by decide +kernel
theorem dX7_endPart_96 : decode cX7_endPart 96 = .ok (.aload_n 0, 1) := by decide +kernel
theorem dX7_endPart_97 : decode cX7_endPart 97 = .ok (.getfield 7, 3) := by decide +kernel
theorem dX7_endPart_100 : decode cX7_endPart 100 = .ok (.iload 4, 2) := by decide +kernel
theorem dX7_endPart_102 : decode cX7_endPart 102 = .ok (.iaload, 1) := by decide +kernel
theorem dX7_endPart_103 : decode cX7_endPart 103 = .ok (.iload_n 2, 1) := by decide +kernel
theorem dX7_endPart_104 : decode cX7_endPart 104 = .ok (.invokestatic 100, 3) := by decide +kernel
theorem dX7_endPart_107 : decode cX7_endPart 107 = .ok (.isub, 1) := by decide +kernel
theorem dX7_endPart_108 : decode cX7_endPart 108 = .ok (.iastore, 1) := by decide +kernel
theorem dX7_endPart_109 : decode cX7_endPart 109 = .ok (.aload_n 0, 1) := by decide +kernel
theorem dX7_endPart_110 : decode cX7_endPart 110 = .ok (.getfield 7, 3) := by decide +kernel
theorem dX7_endPart_113 : decode cX7_endPart 113 = .ok (.iload 4, 2) := by decide +kernel
theorem dX7_endPart_115 : decode cX7_endPart 115 = .ok (.iaload, 1) := by decide +kernel
theorem dX7_endPart_116 : decode cX7_endPart 116 = .ok (.aload_n 0, 1) := by decide +kernel
theorem dX7_endPart_117 : decode cX7_endPart 117 = .ok (.getfield 7, 3) := by decide +kernel
theorem dX7_endPart_120 : decode cX7_endPart 120 = .ok (.iload 4, 2) := by decide +kernel
theorem dX7_endPart_122 : decode cX7_endPart 122 = .ok (.iconst 1, 1) := by decide +kernel
theorem dX7_endPart_123 : decode cX7_endPart 123 = .ok (.iadd, 1) := by decide +kernel
theorem dX7_endPart_124 : decode cX7_endPart 124 = .ok (.iaload, 1) := by decide +kernel
theorem dX7_endPart_125 : decode cX7_endPart 125 = .ok (.aload_n 0, 1) := by decide +kernel
theorem dX7_endPart_126 : decode cX7_endPart 126 = .ok (.getfield 7, 3) := by decide +kernel
theorem dX7_endPart_129 : decode cX7_endPart 129 = .ok (.iload 4, 2) := by decide +kernel
theorem dX7_endPart_131 : decode cX7_endPart 131 = .ok (.iconst 2, 1) := by decide +kernel
theorem dX7_endPart_132 : decode cX7_endPart 132 = .ok (.iadd, 1) := by decide +kernel
theorem dX7_endPart_133 : decode cX7_endPart 133 = .ok (.iaload, 1) := by decide +kernel
theorem dX7_endPart_134 : decode cX7_endPart 134 = .ok (.invokestatic 49, 3) := by decide +kernel
theorem dX7_endPart_137 : decode cX7_endPart 137 = .ok (.istore 6, 2) := by decide +kernel
theorem dX7_endPart_139 : decode cX7_endPart 139 = .ok (.aload_n 0, 1) := by decide +kernel
theorem dX7_endPart_140 : decode cX7_endPart 140 = .ok (.getfield 7, 3) := by decide +kernel
theorem dX7_endPart_143 : decode cX7_endPart 143 = .ok (.iload 4, 2) := by decide +kernel
theorem dX7_endPart_145 : decode cX7_endPart 145 = .ok (.iconst 3, 1) := by decide +kernel
theorem dX7_endPart_146 : decode cX7_endPart 146 = .ok (.iadd, 1) := by decide +kernel
theorem dX7_endPart_147 : decode cX7_endPart 147 = .ok (.iaload, 1) := by decide +kernel
theorem dX7_endPart_148 : decode cX7_endPart 148 = .ok (.iload 6, 2) := by decide +kernel
theorem dX7_endPart_150 : decode cX7_endPart 150 = .ok (.isub, 1) := by decide +kernel
theorem dX7_endPart_151 : decode cX7_endPart 151 = .ok (.istore 7, 2) := by decide +kernel
theorem dX7_endPart_153 : decode cX7_endPart 153 = .ok (.aload_n 0, 1) := by decide +kernel
theorem dX7_endPart_154 : decode cX7_endPart 154 = .ok (.getfield 7, 3) := by decide +kernel
theorem dX7_endPart_157 : decode cX7_endPart 157 = .ok (.iload 4, 2) := by decide +kernel
theorem dX7_endPart_159 : decode cX7_endPart 159 = .ok (.iconst 3, 1) := by decide +kernel
theorem dX7_endPart_160 : decode cX7_endPart 160 = .ok (.iadd, 1) := by decide +kernel
theorem dX7_endPart_161 : decode cX7_endPart 161 = .ok (.iload 6, 2) := by decide +kernel
theorem dX7_endPart_163 : decode cX7_endPart 163 = .ok (.iastore, 1) := by decide +kernel
theorem dX7_endPart_164 : decode cX7_endPart 164 = .ok (.aload_n 0, 1) := by decide +kernel
theorem dX7_endPart_165 : decode cX7_endPart 165 = .ok (.getfield 7, 3) := by decide +kernel
theorem dX7_endPart_168 : decode cX7_endPart 168 = .ok (.iload 4, 2) := by decide +kernel
theorem dX7_endPart_170 : decode cX7_endPart 170 = .ok (.iconst 4, 1) := by decide +kernel
theorem dX7_endPart_171 : decode cX7_endPart 171 = .ok (.iadd, 1) := by decide +kernel
theorem dX7_endPart_172 : decode cX7_endPart 172 = .ok (.dup2, 1) := by decide +kernel
theorem dX7_endPart_173 : decode cX7_endPart 173 = .ok (.iaload, 1) := by decide +kernel
theorem dX7_endPart_174 : decode cX7_endPart 174 = .ok (.iload 5, 2) := by decide +kernel
theorem dX7_endPart_176 : decode cX7_endPart 176 = .ok (.isub, 1) := by decide +kernel
theorem dX7_endPart_177 : decode cX7_endPart 177 = .ok (.iastore, 1) := by decide +kernel
theorem dX7_endPart_178 : decode cX7_endPart 178 = .ok (.aload_n 0, 1) := by decide +kernel
theorem dX7_endPart_179 : decode cX7_endPart 179 = .ok (.iload_n 1, 1) := by decide +kernel
theorem dX7_endPart_180 : decode cX7_endPart 180 = .ok (.iconst 4, 1) := by decide +kernel
theorem dX7_endPart_181 : decode cX7_endPart 181 = .ok (.iload 7, 2) := by decide +kernel
theorem dX7_endPart_183 : decode cX7_endPart 183 = .ok (.invokevirtual 53, 3) := by decide +kernel
theorem dX7_endPart_186 : decode cX7_endPart 186 = .ok (.aload_n 0, 1) := by decide +kernel
theorem dX7_endPart_187 : decode cX7_endPart 187 = .ok (.iload_n 1, 1) := by decide +kernel
theorem dX7_endPart_188 : decode cX7_endPart 188 = .ok (.bipush 8, 2) := by decide +kernel
theorem dX7_endPart_190 : decode cX7_endPart 190 = .ok (.iload 5, 2) := by decide +kernel
theorem dX7_endPart_192 : decode cX7_endPart 192 = .ok (.invokevirtual 53, 3) := by decide +kernel
theorem dX7_endPart_195 : decode cX7_endPart 195 = .ok (.aload_n 0, 1) := by decide +kernel
theorem dX7_endPart_196 : decode cX7_endPart 196 = .ok (.iload_n 1, 1) := by decide +kernel
theorem dX7_endPart_197 : decode cX7_endPart 197 = .ok (.bipush 16, 2) := by decide +kernel
theorem dX7_endPart_199 : decode cX7_endPart 199 = .ok (.iload_n 3, 1) := by decide +kernel
theorem dX7_endPart_200 : decode cX7_endPart 200 = .ok (.invokevirtual 53, 3) := by decide +kernel
theorem dX7_endPart_203 : decode cX7_endPart 203 = .ok (.iload 7, 2) := by decide +kernel
theorem dX7_endPart_205 : decode cX7_endPart 205 = .ok (.iload 5, 2) := by decide +kernel
theorem dX7_endPart_207 : decode cX7_endPart 207 = .ok (.isub, 1) := by decide +kernel
theorem dX7_endPart_208 : decode cX7_endPart 208 = .ok (.iload_n 3, 1) := by decide +kernel
theorem dX7_endPart_209 : decode cX7_endPart 209 = .ok (.isub, 1) := by decide +kernel
theorem dX7_endPart_210 : decode cX7_endPart 210 = .ok (.ireturn, 1) := by decide +kernel
theorem dX7_impair_0 : decode cX7_impair 0 = .ok (.aload_n 0, 1) := by decide +kernel
theorem dX7_impair_1 : decode cX7_impair 1 = .ok (.iconst 0, 1) := by decide +kernel
theorem dX7_impair_2 : decode cX7_impair 2 = .ok (.putfield 25, 3) := by decide +kernel
theorem dX7_impair_5 : decode cX7_impair 5 = .ok (.aload_n 0, 1) := by decide +kernel
theorem dX7_impair_6 : decode cX7_impair 6 = .ok (.iload_n 1, 1) := by decide +kernel
theorem dX7_impair_7 : decode cX7_impair 7 = .ok (.invokevirtual 84, 3) := by decide +kernel
theorem dX7_impair_10 : decode cX7_impair 10 = .ok (.ifCond .ne 9, 3) := by decide +kernel
theorem dX7_impair_13 : decode cX7_impair 13 = .ok (.aload_n 0, 1) := by decide +kernel
theorem dX7_impair_14 : decode cX7_impair 14 = .ok (.iconst 1, 1) := by decide +kernel
theorem dX7_impair_15 : decode cX7_impair 15 = .ok (.invokevirtual 67, 3) := by decide +kernel
theorem dX7_impair_18 : decode cX7_impair 18 = .ok (.ireturn, 1) := by decide +kernel
theorem dX7_impair_19 : decode cX7_impair 19 = .ok (.iload_n 2, 1) := by decide +kernel
theorem dX7_impair_20 : decode cX7_impair 20 = .ok (.iconst 1, 1) := by decide +kernel
theorem dX7_impair_21 : decode cX7_impair 21 = .ok (.ldc 103, 2) := by decide +kernel
theorem dX7_impair_23 : decode cX7_impair 23 = .ok (.invokestatic 42, 3) := by decide +kernel
theorem dX7_impair_26 : decode cX7_impair 26 = .ok (.ifCond .ne 9, 3) := by decide +kernel
theorem dX7_impair_29 : decode cX7_impair 29 = .ok (.aload_n 0, 1) := by decide +kernel
theorem dX7_impair_30 : decode cX7_impair 30 = .ok (.iconst 2, 1) := by decide +kernel
theorem dX7_impair_31 : decode cX7_impair 31 = .ok (.invokevirtual 67, 3) := by decide +kernel
theorem dX7_impair_34 : decode cX7_impair 34 = .ok (.ireturn, 1) := by decide +kernel
theorem dX7_impair_35 : decode cX7_impair 35 = .ok (.aload_n 0, 1) := by decide +kernel
theorem dX7_impair_36 : decode cX7_impair 36 = .ok (.getfield 7, 3) := by decide +kernel
theorem dX7_impair_39 : decode cX7_impair 39 = .ok (.iload_n 1, 1) := by decide +kernel
theorem dX7_impair_40 : decode cX7_impair 40 = .ok (.invokestatic 32, 3) := by decide +kernel
theorem dX7_impair_43 : decode cX7_impair 43 = .ok (.iconst 4, 1) := by decide +kernel
theorem dX7_impair_44 : decode cX7_impair 44 = .ok (.iadd, 1) := by decide +kernel
theorem dX7_impair_45 : decode cX7_impair 45 = .ok (.iaload, 1) := by decide +kernel
theorem dX7_impair_46 : decode cX7_impair 46 = .ok (.iload_n 2, 1) := by decide +kernel
theorem dX7_impair_47 : decode cX7_impair 47 = .ok (.if_icmp .ge 9, 3) := by decide +kernel
theorem dX7_impair_50 : decode cX7_impair 50 = .ok (.aload_n 0, 1) := by decide +kernel
theorem dX7_impair_51 : decode cX7_impair 51 = .ok (.iconst 3, 1) := by decide +kernel
theorem dX7_impair_52 : decode cX7_impair 52 = .ok (.invokevirtual 67, 3) := by decide +kernel
theorem dX7_impair_55 : decode cX7_impair 55 = .ok (.ireturn, 1) := by decide +kernel
theorem dX7_impair_56 : decode cX7_impair 56 = .ok (.aload_n 0, 1) := by decide +kernel
theorem dX7_impair_57 : decode cX7_impair 57 = .ok (.invokevirtual 70, 3) := by decide +kernel
theorem dX7_impair_60 : decode cX7_impair 60 = .ok (.aload_n 0, 1) := by decide +kernel
theorem dX7_impair_61 : decode cX7_impair 61 = .ok (.getfield 7, 3) := by decide +kernel
theorem dX7_impair_64 : decode cX7_impair 64 = .ok (.iload_n 1, 1) := by decide +kernel
theorem dX7_impair_65 : decode cX7_impair 65 = .ok (.invokestatic 32, 3) := by decide +kernel
theorem dX7_impair_68 : decode cX7_impair 68 = .ok (.iconst 4, 1) := by decide +kernel
theorem dX7_impair_69 : decode cX7_impair 69 = .ok (.iadd, 1) := by decide +kernel
theorem dX7_impair_70 : decode cX7_impair 70 = .ok (.dup2, 1) := by decide +kernel
theorem dX7_impair_71 : decode cX7_impair 71 = .ok (.iaload, 1) := by decide +kernel
theorem dX7_impair_72 : decode cX7_impair 72 = .ok (.iload_n 2, 1) := by decide +kernel
theorem dX7_impair_73 : decode cX7_impair 73 = .ok (.isub, 1) := by decide +kernel
theorem dX7_impair_74 : decode cX7_impair 74 = .ok (.iastore, 1) := by decide +kernel
theorem dX7_impair_75 : decode cX7_impair 75 = .ok (.aload_n 0, 1) := by decide +kernel
theorem dX7_impair_76 : decode cX7_impair 76 = .ok (.iload_n 1, 1) := by decide +kernel
theorem dX7_impair_77 : decode cX7_impair 77 = .ok (.bipush 10, 2) := by decide +kernel
theorem dX7_impair_79 : decode cX7_impair 79 = .ok (.iload_n 2, 1) := by decide +kernel
theorem dX7_impair_80 : decode cX7_impair 80 = .ok (.invokevirtual 53, 3) := by decide +kernel
theorem dX7_impair_83 : decode cX7_impair 83 = .ok (.aload_n 0, 1) := by decide +kernel
theorem dX7_impair_84 : decode cX7_impair 84 = .ok (.getfield 7, 3) := by decide +kernel
theorem dX7_impair_87 : decode cX7_impair 87 = .ok (.iload_n 1, 1) := by decide +kernel
theorem dX7_impair_88 : decode cX7_impair 88 = .ok (.invokestatic 32, 3) := by decide +kernel
theorem dX7_impair_91 : decode cX7_impair 91 = .ok (.iconst 4, 1) := by decide +kernel
theorem dX7_impair_92 : decode cX7_impair 92 = .ok (.iadd, 1) := by decide +kernel
theorem dX7_impair_93 : decode cX7_impair 93 = .ok (.iaload, 1) := by decide +kernel
theorem dX7_impair_94 : decode cX7_impair 94 = .ok (.ireturn, 1) := by decide +kernel
theorem dX7_maySublet_0 : decode cX7_maySublet 0 = .ok (.aload_n 0, 1) := by decide +kernel
theorem dX7_maySublet_1 : decode cX7_maySublet 1 = .ok (.iload_n 1, 1) := by decide +kernel
theorem dX7_maySublet_2 : decode cX7_maySublet 2 = .ok (.invokevirtual 87, 3) := by decide +kernel
theorem dX7_maySublet_5 : decode cX7_maySublet 5 = .ok (.ifCond .eq 22, 3) := by decide +kernel
theorem dX7_maySublet_8 : decode cX7_maySublet 8 = .ok (.aload_n 0, 1) := by decide +kernel
theorem dX7_maySublet_9 : decode cX7_maySublet 9 = .ok (.getfield 7, 3) := by decide +kernel
theorem dX7_maySublet_12 : decode cX7_maySublet 12 = .ok (.iload_n 1, 1) := by decide +kernel
theorem dX7_maySublet_13 : decode cX7_maySublet 13 = .ok (.invokestatic 32, 3) := by decide +kernel
theorem dX7_maySublet_16 : decode cX7_maySublet 16 = .ok (.iconst 1, 1) := by decide +kernel
theorem dX7_maySublet_17 : decode cX7_maySublet 17 = .ok (.iadd, 1) := by decide +kernel
theorem dX7_maySublet_18 : decode cX7_maySublet 18 = .ok (.iaload, 1) := by decide +kernel
theorem dX7_maySublet_19 : decode cX7_maySublet 19 = .ok (.iload_n 3, 1) := by decide +kernel
theorem dX7_maySublet_20 : decode cX7_maySublet 20 = .ok (.if_icmp .lt 7, 3) := by decide +kernel
theorem dX7_maySublet_23 : decode cX7_maySublet 23 = .ok (.iconst 1, 1) := by decide +kernel
theorem dX7_maySublet_24 : decode cX7_maySublet 24 = .ok (.goto 4, 3) := by decide +kernel
theorem dX7_maySublet_27 : decode cX7_maySublet 27 = .ok (.iconst 0, 1) := by decide +kernel
theorem dX7_maySublet_28 : decode cX7_maySublet 28 = .ok (.istore 4, 2) := by decide +kernel
theorem dX7_maySublet_30 : decode cX7_maySublet 30 = .ok (.iload 4, 2) := by decide +kernel
theorem dX7_maySublet_32 : decode cX7_maySublet 32 = .ok (.ifCond .eq 33, 3) := by decide +kernel
theorem dX7_maySublet_35 : decode cX7_maySublet 35 = .ok (.aload_n 0, 1) := by decide +kernel
theorem dX7_maySublet_36 : decode cX7_maySublet 36 = .ok (.iload_n 1, 1) := by decide +kernel
theorem dX7_maySublet_37 : decode cX7_maySublet 37 = .ok (.bipush 7, 2) := by decide +kernel
theorem dX7_maySublet_39 : decode cX7_maySublet 39 = .ok (.invokevirtual 96, 3) := by decide +kernel
theorem dX7_maySublet_42 : decode cX7_maySublet 42 = .ok (.iload_n 2, 1) := by decide +kernel
theorem dX7_maySublet_43 : decode cX7_maySublet 43 = .ok (.iadd, 1) := by decide +kernel
theorem dX7_maySublet_44 : decode cX7_maySublet 44 = .ok (.sipush 1000, 3) := by decide +kernel
theorem dX7_maySublet_47 : decode cX7_maySublet 47 = .ok (.if_icmp .gt 18, 3) := by decide +kernel
theorem dX7_maySublet_50 : decode cX7_maySublet 50 = .ok (.aload_n 0, 1) := by decide +kernel
theorem dX7_maySublet_51 : decode cX7_maySublet 51 = .ok (.getfield 7, 3) := by decide +kernel
theorem dX7_maySublet_54 : decode cX7_maySublet 54 = .ok (.iconst 1, 1) := by decide +kernel
theorem dX7_maySublet_55 : decode cX7_maySublet 55 = .ok (.iaload, 1) := by decide +kernel
theorem dX7_maySublet_56 : decode cX7_maySublet 56 = .ok (.bipush 12, 2) := by decide +kernel
theorem dX7_maySublet_58 : decode cX7_maySublet 58 = .ok (.if_icmp .ge 7, 3) := by decide +kernel
theorem dX7_maySublet_61 : decode cX7_maySublet 61 = .ok (.iconst 1, 1) := by decide +kernel
theorem dX7_maySublet_62 : decode cX7_maySublet 62 = .ok (.goto 4, 3) := by decide +kernel
theorem dX7_maySublet_65 : decode cX7_maySublet 65 = .ok (.iconst 0, 1) := by decide +kernel
theorem dX7_maySublet_66 : decode cX7_maySublet 66 = .ok (.ireturn, 1) := by decide +kernel
theorem dX7_sublet_0 : decode cX7_sublet 0 = .ok (.aload_n 0, 1) := by decide +kernel
theorem dX7_sublet_1 : decode cX7_sublet 1 = .ok (.iconst 0, 1) := by decide +kernel
theorem dX7_sublet_2 : decode cX7_sublet 2 = .ok (.putfield 25, 3) := by decide +kernel
theorem dX7_sublet_5 : decode cX7_sublet 5 = .ok (.aload_n 0, 1) := by decide +kernel
theorem dX7_sublet_6 : decode cX7_sublet 6 = .ok (.iload_n 1, 1) := by decide +kernel
theorem dX7_sublet_7 : decode cX7_sublet 7 = .ok (.invokevirtual 84, 3) := by decide +kernel
theorem dX7_sublet_10 : decode cX7_sublet 10 = .ok (.ifCond .ne 9, 3) := by decide +kernel
theorem dX7_sublet_13 : decode cX7_sublet 13 = .ok (.aload_n 0, 1) := by decide +kernel
theorem dX7_sublet_14 : decode cX7_sublet 14 = .ok (.iconst 1, 1) := by decide +kernel
theorem dX7_sublet_15 : decode cX7_sublet 15 = .ok (.invokevirtual 67, 3) := by decide +kernel
theorem dX7_sublet_18 : decode cX7_sublet 18 = .ok (.ireturn, 1) := by decide +kernel
theorem dX7_sublet_19 : decode cX7_sublet 19 = .ok (.iload_n 2, 1) := by decide +kernel
theorem dX7_sublet_20 : decode cX7_sublet 20 = .ok (.invokestatic 93, 3) := by decide +kernel
theorem dX7_sublet_23 : decode cX7_sublet 23 = .ok (.ifCond .eq 18, 3) := by decide +kernel
theorem dX7_sublet_26 : decode cX7_sublet 26 = .ok (.iload_n 3, 1) := by decide +kernel
theorem dX7_sublet_27 : decode cX7_sublet 27 = .ok (.invokestatic 57, 3) := by decide +kernel
theorem dX7_sublet_30 : decode cX7_sublet 30 = .ok (.ifCond .eq 11, 3) := by decide +kernel
theorem dX7_sublet_33 : decode cX7_sublet 33 = .ok (.iload 4, 2) := by decide +kernel
theorem dX7_sublet_35 : decode cX7_sublet 35 = .ok (.invokestatic 61, 3) := by decide +kernel
theorem dX7_sublet_38 : decode cX7_sublet 38 = .ok (.ifCond .ne 9, 3) := by decide +kernel
theorem dX7_sublet_41 : decode cX7_sublet 41 = .ok (.aload_n 0, 1) := by decide +kernel
theorem dX7_sublet_42 : decode cX7_sublet 42 = .ok (.iconst 2, 1) := by decide +kernel
theorem dX7_sublet_43 : decode cX7_sublet 43 = .ok (.invokevirtual 67, 3) := by decide +kernel
theorem dX7_sublet_46 : decode cX7_sublet 46 = .ok (.ireturn, 1) := by decide +kernel
theorem dX7_sublet_47 : decode cX7_sublet 47 = .ok (.aload_n 0, 1) := by decide +kernel
theorem dX7_sublet_48 : decode cX7_sublet 48 = .ok (.iload_n 1, 1) := by decide +kernel
theorem dX7_sublet_49 : decode cX7_sublet 49 = .ok (.iload_n 2, 1) := by decide +kernel
theorem dX7_sublet_50 : decode cX7_sublet 50 = .ok (.iload 4, 2) := by decide +kernel
theorem dX7_sublet_52 : decode cX7_sublet 52 = .ok (.invokevirtual 104, 3) := by decide +kernel
theorem dX7_sublet_55 : decode cX7_sublet 55 = .ok (.ifCond .ne 9, 3) := by decide +kernel
theorem dX7_sublet_58 : decode cX7_sublet 58 = .ok (.aload_n 0, 1) := by decide +kernel
theorem dX7_sublet_59 : decode cX7_sublet 59 = .ok (.iconst 3, 1) := by decide +kernel
theorem dX7_sublet_60 : decode cX7_sublet 60 = .ok (.invokevirtual 67, 3) := by decide +kernel
theorem dX7_sublet_63 : decode cX7_sublet 63 = .ok (.ireturn, 1) := by decide +kernel
theorem dX7_sublet_64 : decode cX7_sublet 64 = .ok (.aload_n 0, 1) := by decide +kernel
theorem dX7_sublet_65 : decode cX7_sublet 65 = .ok (.invokevirtual 70, 3) := by decide +kernel
theorem dX7_sublet_68 : decode cX7_sublet 68 = .ok (.iload_n 1, 1) := by decide +kernel
theorem dX7_sublet_69 : decode cX7_sublet 69 = .ok (.invokestatic 32, 3) := by decide +kernel
theorem dX7_sublet_72 : decode cX7_sublet 72 = .ok (.istore 5, 2) := by decide +kernel
theorem dX7_sublet_74 : decode cX7_sublet 74 = .ok (.aload_n 0, 1) := by decide +kernel
theorem dX7_sublet_75 : decode cX7_sublet 75 = .ok (.getfield 7, 3) := by decide +kernel
theorem dX7_sublet_78 : decode cX7_sublet 78 = .ok (.iconst 1, 1) := by decide +kernel
theorem dX7_sublet_79 : decode cX7_sublet 79 = .ok (.iaload, 1) := by decide +kernel
theorem dX7_sublet_80 : decode cX7_sublet 80 = .ok (.invokestatic 77, 3) := by decide +kernel
theorem dX7_sublet_83 : decode cX7_sublet 83 = .ok (.istore 6, 2) := by decide +kernel
theorem dX7_sublet_85 : decode cX7_sublet 85 = .ok (.aload_n 0, 1) := by decide +kernel
theorem dX7_sublet_86 : decode cX7_sublet 86 = .ok (.getfield 7, 3) := by decide +kernel
theorem dX7_sublet_89 : decode cX7_sublet 89 = .ok (.iload 6, 2) := by decide +kernel
theorem dX7_sublet_91 : decode cX7_sublet 91 = .ok (.iload_n 1, 1) := by decide +kernel
theorem dX7_sublet_92 : decode cX7_sublet 92 = .ok (.iastore, 1) := by decide +kernel
theorem dX7_sublet_93 : decode cX7_sublet 93 = .ok (.aload_n 0, 1) := by decide +kernel
theorem dX7_sublet_94 : decode cX7_sublet 94 = .ok (.getfield 7, 3) := by decide +kernel
theorem dX7_sublet_97 : decode cX7_sublet 97 = .ok (.iload 6, 2) := by decide +kernel
theorem dX7_sublet_99 : decode cX7_sublet 99 = .ok (.iconst 1, 1) := by decide +kernel
theorem dX7_sublet_100 : decode cX7_sublet 100 = .ok (.iadd, 1) := by decide +kernel
theorem dX7_sublet_101 : decode cX7_sublet 101 = .ok (.iload_n 2, 1) := by decide +kernel
theorem dX7_sublet_102 : decode cX7_sublet 102 = .ok (.iastore, 1) := by decide +kernel
theorem dX7_sublet_103 : decode cX7_sublet 103 = .ok (.aload_n 0, 1) := by decide +kernel
theorem dX7_sublet_104 : decode cX7_sublet 104 = .ok (.getfield 7, 3) := by decide +kernel
theorem dX7_sublet_107 : decode cX7_sublet 107 = .ok (.iload 6, 2) := by decide +kernel
theorem dX7_sublet_109 : decode cX7_sublet 109 = .ok (.iconst 2, 1) := by decide +kernel
theorem dX7_sublet_110 : decode cX7_sublet 110 = .ok (.iadd, 1) := by decide +kernel
theorem dX7_sublet_111 : decode cX7_sublet 111 = .ok (.iload_n 3, 1) := by decide +kernel
theorem dX7_sublet_112 : decode cX7_sublet 112 = .ok (.iastore, 1) := by decide +kernel
theorem dX7_sublet_113 : decode cX7_sublet 113 = .ok (.aload_n 0, 1) := by decide +kernel
theorem dX7_sublet_114 : decode cX7_sublet 114 = .ok (.getfield 7, 3) := by decide +kernel
theorem dX7_sublet_117 : decode cX7_sublet 117 = .ok (.iload 6, 2) := by decide +kernel
theorem dX7_sublet_119 : decode cX7_sublet 119 = .ok (.iconst 3, 1) := by decide +kernel
theorem dX7_sublet_120 : decode cX7_sublet 120 = .ok (.iadd, 1) := by decide +kernel
theorem dX7_sublet_121 : decode cX7_sublet 121 = .ok (.iload 4, 2) := by decide +kernel
theorem dX7_sublet_123 : decode cX7_sublet 123 = .ok (.iastore, 1) := by decide +kernel
theorem dX7_sublet_124 : decode cX7_sublet 124 = .ok (.aload_n 0, 1) := by decide +kernel
theorem dX7_sublet_125 : decode cX7_sublet 125 = .ok (.getfield 7, 3) := by decide +kernel
theorem dX7_sublet_128 : decode cX7_sublet 128 = .ok (.iload 6, 2) := by decide +kernel
theorem dX7_sublet_130 : decode cX7_sublet 130 = .ok (.iconst 4, 1) := by decide +kernel
theorem dX7_sublet_131 : decode cX7_sublet 131 = .ok (.iadd, 1) := by decide +kernel
theorem dX7_sublet_132 : decode cX7_sublet 132 = .ok (.aload_n 0, 1) := by decide +kernel
theorem dX7_sublet_133 : decode cX7_sublet 133 = .ok (.getfield 7, 3) := by decide +kernel
theorem dX7_sublet_136 : decode cX7_sublet 136 = .ok (.iload 5, 2) := by decide +kernel
theorem dX7_sublet_138 : decode cX7_sublet 138 = .ok (.iconst 2, 1) := by decide +kernel
theorem dX7_sublet_139 : decode cX7_sublet 139 = .ok (.iadd, 1) := by decide +kernel
theorem dX7_sublet_140 : decode cX7_sublet 140 = .ok (.iaload, 1) := by decide +kernel
theorem dX7_sublet_141 : decode cX7_sublet 141 = .ok (.iastore, 1) := by decide +kernel
theorem dX7_sublet_142 : decode cX7_sublet 142 = .ok (.aload_n 0, 1) := by decide +kernel
theorem dX7_sublet_143 : decode cX7_sublet 143 = .ok (.getfield 7, 3) := by decide +kernel
theorem dX7_sublet_146 : decode cX7_sublet 146 = .ok (.iload 6, 2) := by decide +kernel
theorem dX7_sublet_148 : decode cX7_sublet 148 = .ok (.iconst 5, 1) := by decide +kernel
theorem dX7_sublet_149 : decode cX7_sublet 149 = .ok (.iadd, 1) := by decide +kernel
theorem dX7_sublet_150 : decode cX7_sublet 150 = .ok (.iload_n 3, 1) := by decide +kernel
theorem dX7_sublet_151 : decode cX7_sublet 151 = .ok (.iload 4, 2) := by decide +kernel
theorem dX7_sublet_153 : decode cX7_sublet 153 = .ok (.aload_n 0, 1) := by decide +kernel
theorem dX7_sublet_154 : decode cX7_sublet 154 = .ok (.getfield 7, 3) := by decide +kernel
theorem dX7_sublet_157 : decode cX7_sublet 157 = .ok (.iload 5, 2) := by decide +kernel
theorem dX7_sublet_159 : decode cX7_sublet 159 = .ok (.iconst 2, 1) := by decide +kernel
theorem dX7_sublet_160 : decode cX7_sublet 160 = .ok (.iadd, 1) := by decide +kernel
theorem dX7_sublet_161 : decode cX7_sublet 161 = .ok (.iaload, 1) := by decide +kernel
theorem dX7_sublet_162 : decode cX7_sublet 162 = .ok (.invokestatic 49, 3) := by decide +kernel
theorem dX7_sublet_165 : decode cX7_sublet 165 = .ok (.iastore, 1) := by decide +kernel
theorem dX7_sublet_166 : decode cX7_sublet 166 = .ok (.aload_n 0, 1) := by decide +kernel
theorem dX7_sublet_167 : decode cX7_sublet 167 = .ok (.getfield 7, 3) := by decide +kernel
theorem dX7_sublet_170 : decode cX7_sublet 170 = .ok (.iload 5, 2) := by decide +kernel
theorem dX7_sublet_172 : decode cX7_sublet 172 = .ok (.iconst 4, 1) := by decide +kernel
theorem dX7_sublet_173 : decode cX7_sublet 173 = .ok (.iadd, 1) := by decide +kernel
theorem dX7_sublet_174 : decode cX7_sublet 174 = .ok (.iaload, 1) := by decide +kernel
theorem dX7_sublet_175 : decode cX7_sublet 175 = .ok (.iload_n 2, 1) := by decide +kernel
theorem dX7_sublet_176 : decode cX7_sublet 176 = .ok (.invokestatic 100, 3) := by decide +kernel
theorem dX7_sublet_179 : decode cX7_sublet 179 = .ok (.istore 7, 2) := by decide +kernel
theorem dX7_sublet_181 : decode cX7_sublet 181 = .ok (.aload_n 0, 1) := by decide +kernel
theorem dX7_sublet_182 : decode cX7_sublet 182 = .ok (.getfield 7, 3) := by decide +kernel
theorem dX7_sublet_185 : decode cX7_sublet 185 = .ok (.iload 5, 2) := by decide +kernel
theorem dX7_sublet_187 : decode cX7_sublet 187 = .ok (.iconst 4, 1) := by decide +kernel
theorem dX7_sublet_188 : decode cX7_sublet 188 = .ok (.iadd, 1) := by decide +kernel
theorem dX7_sublet_189 : decode cX7_sublet 189 = .ok (.dup2, 1) := by decide +kernel
theorem dX7_sublet_190 : decode cX7_sublet 190 = .ok (.iaload, 1) := by decide +kernel
theorem dX7_sublet_191 : decode cX7_sublet 191 = .ok (.iload 7, 2) := by decide +kernel
theorem dX7_sublet_193 : decode cX7_sublet 193 = .ok (.isub, 1) := by decide +kernel
theorem dX7_sublet_194 : decode cX7_sublet 194 = .ok (.iastore, 1) := by decide +kernel
theorem dX7_sublet_195 : decode cX7_sublet 195 = .ok (.aload_n 0, 1) := by decide +kernel
theorem dX7_sublet_196 : decode cX7_sublet 196 = .ok (.iload_n 1, 1) := by decide +kernel
theorem dX7_sublet_197 : decode cX7_sublet 197 = .ok (.bipush 9, 2) := by decide +kernel
theorem dX7_sublet_199 : decode cX7_sublet 199 = .ok (.iload 7, 2) := by decide +kernel
theorem dX7_sublet_201 : decode cX7_sublet 201 = .ok (.invokevirtual 53, 3) := by decide +kernel
theorem dX7_sublet_204 : decode cX7_sublet 204 = .ok (.aload_n 0, 1) := by decide +kernel
theorem dX7_sublet_205 : decode cX7_sublet 205 = .ok (.iload_n 1, 1) := by decide +kernel
theorem dX7_sublet_206 : decode cX7_sublet 206 = .ok (.bipush 11, 2) := by decide +kernel
theorem dX7_sublet_208 : decode cX7_sublet 208 = .ok (.aload_n 0, 1) := by decide +kernel
theorem dX7_sublet_209 : decode cX7_sublet 209 = .ok (.getfield 7, 3) := by decide +kernel
theorem dX7_sublet_212 : decode cX7_sublet 212 = .ok (.iload 6, 2) := by decide +kernel
theorem dX7_sublet_214 : decode cX7_sublet 214 = .ok (.iconst 5, 1) := by decide +kernel
theorem dX7_sublet_215 : decode cX7_sublet 215 = .ok (.iadd, 1) := by decide +kernel
theorem dX7_sublet_216 : decode cX7_sublet 216 = .ok (.iaload, 1) := by decide +kernel
theorem dX7_sublet_217 : decode cX7_sublet 217 = .ok (.invokevirtual 53, 3) := by decide +kernel
theorem dX7_sublet_220 : decode cX7_sublet 220 = .ok (.aload_n 0, 1) := by decide +kernel
theorem dX7_sublet_221 : decode cX7_sublet 221 = .ok (.getfield 7, 3) := by decide +kernel
theorem dX7_sublet_224 : decode cX7_sublet 224 = .ok (.iconst 1, 1) := by decide +kernel
theorem dX7_sublet_225 : decode cX7_sublet 225 = .ok (.dup2, 1) := by decide +kernel
theorem dX7_sublet_226 : decode cX7_sublet 226 = .ok (.iaload, 1) := by decide +kernel
theorem dX7_sublet_227 : decode cX7_sublet 227 = .ok (.iconst 1, 1) := by decide +kernel
theorem dX7_sublet_228 : decode cX7_sublet 228 = .ok (.iadd, 1) := by decide +kernel
theorem dX7_sublet_229 : decode cX7_sublet 229 = .ok (.iastore, 1) := by decide +kernel
theorem dX7_sublet_230 : decode cX7_sublet 230 = .ok (.aload_n 0, 1) := by decide +kernel
theorem dX7_sublet_231 : decode cX7_sublet 231 = .ok (.getfield 7, 3) := by decide +kernel
theorem dX7_sublet_234 : decode cX7_sublet 234 = .ok (.iconst 1, 1) := by decide +kernel
theorem dX7_sublet_235 : decode cX7_sublet 235 = .ok (.iaload, 1) := by decide +kernel
theorem dX7_sublet_236 : decode cX7_sublet 236 = .ok (.iconst 1, 1) := by decide +kernel
theorem dX7_sublet_237 : decode cX7_sublet 237 = .ok (.isub, 1) := by decide +kernel
theorem dX7_sublet_238 : decode cX7_sublet 238 = .ok (.ireturn, 1) := by decide +kernel
theorem dX7_passSubs_0 : decode cX7_passSubs 0 = .ok (.iconst 0, 1) := by decide +kernel
theorem dX7_passSubs_1 : decode cX7_passSubs 1 = .ok (.istore_n 2, 1) := by decide +kernel
theorem dX7_passSubs_2 : decode cX7_passSubs 2 = .ok (.iload_n 2, 1) := by decide +kernel
theorem dX7_passSubs_3 : decode cX7_passSubs 3 = .ok (.aload_n 0, 1) := by decide +kernel
theorem dX7_passSubs_4 : decode cX7_passSubs 4 = .ok (.getfield 7, 3) := by decide +kernel
theorem dX7_passSubs_7 : decode cX7_passSubs 7 = .ok (.iconst 1, 1) := by decide +kernel
theorem dX7_passSubs_8 : decode cX7_passSubs 8 = .ok (.iaload, 1) := by decide +kernel
theorem dX7_passSubs_9 : decode cX7_passSubs 9 = .ok (.if_icmp .ge 128, 3) := by decide +kernel
theorem dX7_passSubs_12 : decode cX7_passSubs 12 = .ok (.iload_n 2, 1) := by decide +kernel
theorem dX7_passSubs_13 : decode cX7_passSubs 13 = .ok (.invokestatic 77, 3) := by decide +kernel
theorem dX7_passSubs_16 : decode cX7_passSubs 16 = .ok (.istore_n 3, 1) := by decide +kernel
theorem dX7_passSubs_17 : decode cX7_passSubs 17 = .ok (.aload_n 0, 1) := by decide +kernel
theorem dX7_passSubs_18 : decode cX7_passSubs 18 = .ok (.getfield 7, 3) := by decide +kernel
theorem dX7_passSubs_21 : decode cX7_passSubs 21 = .ok (.iload_n 3, 1) := by decide +kernel
theorem dX7_passSubs_22 : decode cX7_passSubs 22 = .ok (.iaload, 1) := by decide +kernel
theorem dX7_passSubs_23 : decode cX7_passSubs 23 = .ok (.iload_n 1, 1) := by decide +kernel
theorem dX7_passSubs_24 : decode cX7_passSubs 24 = .ok (.if_icmp .ne 107, 3) := by decide +kernel
theorem dX7_passSubs_27 : decode cX7_passSubs 27 = .ok (.aload_n 0, 1) := by decide +kernel
theorem dX7_passSubs_28 : decode cX7_passSubs 28 = .ok (.getfield 7, 3) := by decide +kernel
theorem dX7_passSubs_31 : decode cX7_passSubs 31 = .ok (.iload_n 3, 1) := by decide +kernel
theorem dX7_passSubs_32 : decode cX7_passSubs 32 = .ok (.iconst 3, 1) := by decide +kernel
theorem dX7_passSubs_33 : decode cX7_passSubs 33 = .ok (.iadd, 1) := by decide +kernel
theorem dX7_passSubs_34 : decode cX7_passSubs 34 = .ok (.iaload, 1) := by decide +kernel
theorem dX7_passSubs_35 : decode cX7_passSubs 35 = .ok (.ifCond .le 96, 3) := by decide +kernel
theorem dX7_passSubs_38 : decode cX7_passSubs 38 = .ok (.aload_n 0, 1) := by decide +kernel
theorem dX7_passSubs_39 : decode cX7_passSubs 39 = .ok (.getfield 7, 3) := by decide +kernel
theorem dX7_passSubs_42 : decode cX7_passSubs 42 = .ok (.iload_n 3, 1) := by decide +kernel
theorem dX7_passSubs_43 : decode cX7_passSubs 43 = .ok (.iconst 3, 1) := by decide +kernel
theorem dX7_passSubs_44 : decode cX7_passSubs 44 = .ok (.iadd, 1) := by decide +kernel
theorem dX7_passSubs_45 : decode cX7_passSubs 45 = .ok (.dup2, 1) := by decide +kernel
theorem dX7_passSubs_46 : decode cX7_passSubs 46 = .ok (.iaload, 1) := by decide +kernel
theorem dX7_passSubs_47 : decode cX7_passSubs 47 = .ok (.iconst 1, 1) := by decide +kernel
theorem dX7_passSubs_48 : decode cX7_passSubs 48 = .ok (.isub, 1) := by decide +kernel
theorem dX7_passSubs_49 : decode cX7_passSubs 49 = .ok (.iastore, 1) := by decide +kernel
theorem dX7_passSubs_50 : decode cX7_passSubs 50 = .ok (.aload_n 0, 1) := by decide +kernel
theorem dX7_passSubs_51 : decode cX7_passSubs 51 = .ok (.getfield 7, 3) := by decide +kernel
theorem dX7_passSubs_54 : decode cX7_passSubs 54 = .ok (.iload_n 3, 1) := by decide +kernel
theorem dX7_passSubs_55 : decode cX7_passSubs 55 = .ok (.iconst 2, 1) := by decide +kernel
theorem dX7_passSubs_56 : decode cX7_passSubs 56 = .ok (.iadd, 1) := by decide +kernel
theorem dX7_passSubs_57 : decode cX7_passSubs 57 = .ok (.iaload, 1) := by decide +kernel
theorem dX7_passSubs_58 : decode cX7_passSubs 58 = .ok (.aload_n 0, 1) := by decide +kernel
theorem dX7_passSubs_59 : decode cX7_passSubs 59 = .ok (.getfield 7, 3) := by decide +kernel
theorem dX7_passSubs_62 : decode cX7_passSubs 62 = .ok (.iload_n 3, 1) := by decide +kernel
theorem dX7_passSubs_63 : decode cX7_passSubs 63 = .ok (.iconst 3, 1) := by decide +kernel
theorem dX7_passSubs_64 : decode cX7_passSubs 64 = .ok (.iadd, 1) := by decide +kernel
theorem dX7_passSubs_65 : decode cX7_passSubs 65 = .ok (.iaload, 1) := by decide +kernel
theorem dX7_passSubs_66 : decode cX7_passSubs 66 = .ok (.aload_n 0, 1) := by decide +kernel
theorem dX7_passSubs_67 : decode cX7_passSubs 67 = .ok (.getfield 7, 3) := by decide +kernel
theorem dX7_passSubs_70 : decode cX7_passSubs 70 = .ok (.iload_n 3, 1) := by decide +kernel
theorem dX7_passSubs_71 : decode cX7_passSubs 71 = .ok (.iconst 4, 1) := by decide +kernel
theorem dX7_passSubs_72 : decode cX7_passSubs 72 = .ok (.iadd, 1) := by decide +kernel
theorem dX7_passSubs_73 : decode cX7_passSubs 73 = .ok (.iaload, 1) := by decide +kernel
theorem dX7_passSubs_74 : decode cX7_passSubs 74 = .ok (.invokestatic 49, 3) := by decide +kernel
theorem dX7_passSubs_77 : decode cX7_passSubs 77 = .ok (.istore 4, 2) := by decide +kernel
theorem dX7_passSubs_79 : decode cX7_passSubs 79 = .ok (.aload_n 0, 1) := by decide +kernel
theorem dX7_passSubs_80 : decode cX7_passSubs 80 = .ok (.iload_n 1, 1) := by decide +kernel
theorem dX7_passSubs_81 : decode cX7_passSubs 81 = .ok (.bipush 12, 2) := by decide +kernel
theorem dX7_passSubs_83 : decode cX7_passSubs 83 = .ok (.iload 4, 2) := by decide +kernel
theorem dX7_passSubs_85 : decode cX7_passSubs 85 = .ok (.aload_n 0, 1) := by decide +kernel
theorem dX7_passSubs_86 : decode cX7_passSubs 86 = .ok (.getfield 7, 3) := by decide +kernel
theorem dX7_passSubs_89 : decode cX7_passSubs 89 = .ok (.iload_n 3, 1) := by decide +kernel
theorem dX7_passSubs_90 : decode cX7_passSubs 90 = .ok (.iconst 5, 1) := by decide +kernel
theorem dX7_passSubs_91 : decode cX7_passSubs 91 = .ok (.iadd, 1) := by decide +kernel
theorem dX7_passSubs_92 : decode cX7_passSubs 92 = .ok (.iaload, 1) := by decide +kernel
theorem dX7_passSubs_93 : decode cX7_passSubs 93 = .ok (.isub, 1) := by decide +kernel
theorem dX7_passSubs_94 : decode cX7_passSubs 94 = .ok (.aload_n 0, 1) := by decide +kernel
theorem dX7_passSubs_95 : decode cX7_passSubs 95 = .ok (.getfield 7, 3) := by decide +kernel
theorem dX7_passSubs_98 : decode cX7_passSubs 98 = .ok (.iload_n 3, 1) := by decide +kernel
theorem dX7_passSubs_99 : decode cX7_passSubs 99 = .ok (.iconst 2, 1) := by decide +kernel
theorem dX7_passSubs_100 : decode cX7_passSubs 100 = .ok (.iadd, 1) := by decide +kernel
theorem dX7_passSubs_101 : decode cX7_passSubs 101 = .ok (.iaload, 1) := by decide +kernel
theorem dX7_passSubs_102 : decode cX7_passSubs 102 = .ok (.iadd, 1) := by decide +kernel
theorem dX7_passSubs_103 : decode cX7_passSubs 103 = .ok (.invokevirtual 53, 3) := by decide +kernel
theorem dX7_passSubs_106 : decode cX7_passSubs 106 = .ok (.aload_n 0, 1) := by decide +kernel
theorem dX7_passSubs_107 : decode cX7_passSubs 107 = .ok (.iload_n 1, 1) := by decide +kernel
theorem dX7_passSubs_108 : decode cX7_passSubs 108 = .ok (.bipush 13, 2) := by decide +kernel
theorem dX7_passSubs_110 : decode cX7_passSubs 110 = .ok (.aload_n 0, 1) := by decide +kernel
theorem dX7_passSubs_111 : decode cX7_passSubs 111 = .ok (.getfield 7, 3) := by decide +kernel
theorem dX7_passSubs_114 : decode cX7_passSubs 114 = .ok (.iload_n 3, 1) := by decide +kernel
theorem dX7_passSubs_115 : decode cX7_passSubs 115 = .ok (.iconst 2, 1) := by decide +kernel
theorem dX7_passSubs_116 : decode cX7_passSubs 116 = .ok (.iadd, 1) := by decide +kernel
theorem dX7_passSubs_117 : decode cX7_passSubs 117 = .ok (.iaload, 1) := by decide +kernel
theorem dX7_passSubs_118 : decode cX7_passSubs 118 = .ok (.invokevirtual 53, 3) := by decide +kernel
theorem dX7_passSubs_121 : decode cX7_passSubs 121 = .ok (.aload_n 0, 1) := by decide +kernel
theorem dX7_passSubs_122 : decode cX7_passSubs 122 = .ok (.getfield 7, 3) := by decide +kernel
theorem dX7_passSubs_125 : decode cX7_passSubs 125 = .ok (.iload_n 3, 1) := by decide +kernel
theorem dX7_passSubs_126 : decode cX7_passSubs 126 = .ok (.iconst 5, 1) := by decide +kernel
theorem dX7_passSubs_127 : decode cX7_passSubs 127 = .ok (.iadd, 1) := by decide +kernel
theorem dX7_passSubs_128 : decode cX7_passSubs 128 = .ok (.iload 4, 2) := by decide +kernel
theorem dX7_passSubs_130 : decode cX7_passSubs 130 = .ok (.iastore, 1) := by decide +kernel
theorem dX7_passSubs_131 : decode cX7_passSubs 131 = .ok (.iinc 2 1, 3) := by decide +kernel
theorem dX7_passSubs_134 : decode cX7_passSubs 134 = .ok (.goto (-132), 3) := by decide +kernel
theorem dX7_passSubs_137 : decode cX7_passSubs 137 = .ok (.return_, 1) := by decide +kernel
theorem dX7_passLease_0 : decode cX7_passLease 0 = .ok (.aload_n 0, 1) := by decide +kernel
theorem dX7_passLease_1 : decode cX7_passLease 1 = .ok (.iload_n 1, 1) := by decide +kernel
theorem dX7_passLease_2 : decode cX7_passLease 2 = .ok (.invokevirtual 87, 3) := by decide +kernel
theorem dX7_passLease_5 : decode cX7_passLease 5 = .ok (.ifCond .ne 4, 3) := by decide +kernel
theorem dX7_passLease_8 : decode cX7_passLease 8 = .ok (.return_, 1) := by decide +kernel
theorem dX7_passLease_9 : decode cX7_passLease 9 = .ok (.iload_n 1, 1) := by decide +kernel
theorem dX7_passLease_10 : decode cX7_passLease 10 = .ok (.invokestatic 32, 3) := by decide +kernel
theorem dX7_passLease_13 : decode cX7_passLease 13 = .ok (.istore_n 2, 1) := by decide +kernel
theorem dX7_passLease_14 : decode cX7_passLease 14 = .ok (.aload_n 0, 1) := by decide +kernel
theorem dX7_passLease_15 : decode cX7_passLease 15 = .ok (.getfield 7, 3) := by decide +kernel
theorem dX7_passLease_18 : decode cX7_passLease 18 = .ok (.iload_n 2, 1) := by decide +kernel
theorem dX7_passLease_19 : decode cX7_passLease 19 = .ok (.iconst 4, 1) := by decide +kernel
theorem dX7_passLease_20 : decode cX7_passLease 20 = .ok (.iadd, 1) := by decide +kernel
theorem dX7_passLease_21 : decode cX7_passLease 21 = .ok (.iaload, 1) := by decide +kernel
theorem dX7_passLease_22 : decode cX7_passLease 22 = .ok (.aload_n 0, 1) := by decide +kernel
theorem dX7_passLease_23 : decode cX7_passLease 23 = .ok (.getfield 7, 3) := by decide +kernel
theorem dX7_passLease_26 : decode cX7_passLease 26 = .ok (.iload_n 2, 1) := by decide +kernel
theorem dX7_passLease_27 : decode cX7_passLease 27 = .ok (.iconst 1, 1) := by decide +kernel
theorem dX7_passLease_28 : decode cX7_passLease 28 = .ok (.iadd, 1) := by decide +kernel
theorem dX7_passLease_29 : decode cX7_passLease 29 = .ok (.iaload, 1) := by decide +kernel
theorem dX7_passLease_30 : decode cX7_passLease 30 = .ok (.idiv, 1) := by decide +kernel
theorem dX7_passLease_31 : decode cX7_passLease 31 = .ok (.istore_n 3, 1) := by decide +kernel
theorem dX7_passLease_32 : decode cX7_passLease 32 = .ok (.aload_n 0, 1) := by decide +kernel
theorem dX7_passLease_33 : decode cX7_passLease 33 = .ok (.getfield 7, 3) := by decide +kernel
theorem dX7_passLease_36 : decode cX7_passLease 36 = .ok (.iload_n 2, 1) := by decide +kernel
theorem dX7_passLease_37 : decode cX7_passLease 37 = .ok (.iconst 1, 1) := by decide +kernel
theorem dX7_passLease_38 : decode cX7_passLease 38 = .ok (.iadd, 1) := by decide +kernel
theorem dX7_passLease_39 : decode cX7_passLease 39 = .ok (.dup2, 1) := by decide +kernel
theorem dX7_passLease_40 : decode cX7_passLease 40 = .ok (.iaload, 1) := by decide +kernel
theorem dX7_passLease_41 : decode cX7_passLease 41 = .ok (.iconst 1, 1) := by decide +kernel
theorem dX7_passLease_42 : decode cX7_passLease 42 = .ok (.isub, 1) := by decide +kernel
theorem dX7_passLease_43 : decode cX7_passLease 43 = .ok (.iastore, 1) := by decide +kernel
theorem dX7_passLease_44 : decode cX7_passLease 44 = .ok (.aload_n 0, 1) := by decide +kernel
theorem dX7_passLease_45 : decode cX7_passLease 45 = .ok (.getfield 7, 3) := by decide +kernel
theorem dX7_passLease_48 : decode cX7_passLease 48 = .ok (.iload_n 2, 1) := by decide +kernel
theorem dX7_passLease_49 : decode cX7_passLease 49 = .ok (.iaload, 1) := by decide +kernel
theorem dX7_passLease_50 : decode cX7_passLease 50 = .ok (.aload_n 0, 1) := by decide +kernel
theorem dX7_passLease_51 : decode cX7_passLease 51 = .ok (.getfield 7, 3) := by decide +kernel
theorem dX7_passLease_54 : decode cX7_passLease 54 = .ok (.iload_n 2, 1) := by decide +kernel
theorem dX7_passLease_55 : decode cX7_passLease 55 = .ok (.iconst 1, 1) := by decide +kernel
theorem dX7_passLease_56 : decode cX7_passLease 56 = .ok (.iadd, 1) := by decide +kernel
theorem dX7_passLease_57 : decode cX7_passLease 57 = .ok (.iaload, 1) := by decide +kernel
theorem dX7_passLease_58 : decode cX7_passLease 58 = .ok (.aload_n 0, 1) := by decide +kernel
theorem dX7_passLease_59 : decode cX7_passLease 59 = .ok (.getfield 7, 3) := by decide +kernel
theorem dX7_passLease_62 : decode cX7_passLease 62 = .ok (.iload_n 2, 1) := by decide +kernel
theorem dX7_passLease_63 : decode cX7_passLease 63 = .ok (.iconst 2, 1) := by decide +kernel
theorem dX7_passLease_64 : decode cX7_passLease 64 = .ok (.iadd, 1) := by decide +kernel
theorem dX7_passLease_65 : decode cX7_passLease 65 = .ok (.iaload, 1) := by decide +kernel
theorem dX7_passLease_66 : decode cX7_passLease 66 = .ok (.invokestatic 49, 3) := by decide +kernel
theorem dX7_passLease_69 : decode cX7_passLease 69 = .ok (.istore 4, 2) := by decide +kernel
theorem dX7_passLease_71 : decode cX7_passLease 71 = .ok (.aload_n 0, 1) := by decide +kernel
theorem dX7_passLease_72 : decode cX7_passLease 72 = .ok (.iload_n 1, 1) := by decide +kernel
theorem dX7_passLease_73 : decode cX7_passLease 73 = .ok (.iconst 1, 1) := by decide +kernel
theorem dX7_passLease_74 : decode cX7_passLease 74 = .ok (.iload 4, 2) := by decide +kernel
theorem dX7_passLease_76 : decode cX7_passLease 76 = .ok (.aload_n 0, 1) := by decide +kernel
theorem dX7_passLease_77 : decode cX7_passLease 77 = .ok (.getfield 7, 3) := by decide +kernel
theorem dX7_passLease_80 : decode cX7_passLease 80 = .ok (.iload_n 2, 1) := by decide +kernel
theorem dX7_passLease_81 : decode cX7_passLease 81 = .ok (.iconst 3, 1) := by decide +kernel
theorem dX7_passLease_82 : decode cX7_passLease 82 = .ok (.iadd, 1) := by decide +kernel
theorem dX7_passLease_83 : decode cX7_passLease 83 = .ok (.iaload, 1) := by decide +kernel
theorem dX7_passLease_84 : decode cX7_passLease 84 = .ok (.isub, 1) := by decide +kernel
theorem dX7_passLease_85 : decode cX7_passLease 85 = .ok (.aload_n 0, 1) := by decide +kernel
theorem dX7_passLease_86 : decode cX7_passLease 86 = .ok (.getfield 7, 3) := by decide +kernel
theorem dX7_passLease_89 : decode cX7_passLease 89 = .ok (.iload_n 2, 1) := by decide +kernel
theorem dX7_passLease_90 : decode cX7_passLease 90 = .ok (.iaload, 1) := by decide +kernel
theorem dX7_passLease_91 : decode cX7_passLease 91 = .ok (.iadd, 1) := by decide +kernel
theorem dX7_passLease_92 : decode cX7_passLease 92 = .ok (.invokevirtual 53, 3) := by decide +kernel
theorem dX7_passLease_95 : decode cX7_passLease 95 = .ok (.aload_n 0, 1) := by decide +kernel
theorem dX7_passLease_96 : decode cX7_passLease 96 = .ok (.iload_n 1, 1) := by decide +kernel
theorem dX7_passLease_97 : decode cX7_passLease 97 = .ok (.iconst 2, 1) := by decide +kernel
theorem dX7_passLease_98 : decode cX7_passLease 98 = .ok (.aload_n 0, 1) := by decide +kernel
theorem dX7_passLease_99 : decode cX7_passLease 99 = .ok (.getfield 7, 3) := by decide +kernel
theorem dX7_passLease_102 : decode cX7_passLease 102 = .ok (.iload_n 2, 1) := by decide +kernel
theorem dX7_passLease_103 : decode cX7_passLease 103 = .ok (.iaload, 1) := by decide +kernel
theorem dX7_passLease_104 : decode cX7_passLease 104 = .ok (.invokevirtual 53, 3) := by decide +kernel
theorem dX7_passLease_107 : decode cX7_passLease 107 = .ok (.aload_n 0, 1) := by decide +kernel
theorem dX7_passLease_108 : decode cX7_passLease 108 = .ok (.iload_n 1, 1) := by decide +kernel
theorem dX7_passLease_109 : decode cX7_passLease 109 = .ok (.bipush 6, 2) := by decide +kernel
theorem dX7_passLease_111 : decode cX7_passLease 111 = .ok (.iload_n 3, 1) := by decide +kernel
theorem dX7_passLease_112 : decode cX7_passLease 112 = .ok (.invokevirtual 53, 3) := by decide +kernel
theorem dX7_passLease_115 : decode cX7_passLease 115 = .ok (.aload_n 0, 1) := by decide +kernel
theorem dX7_passLease_116 : decode cX7_passLease 116 = .ok (.getfield 7, 3) := by decide +kernel
theorem dX7_passLease_119 : decode cX7_passLease 119 = .ok (.iload_n 2, 1) := by decide +kernel
theorem dX7_passLease_120 : decode cX7_passLease 120 = .ok (.iconst 3, 1) := by decide +kernel
theorem dX7_passLease_121 : decode cX7_passLease 121 = .ok (.iadd, 1) := by decide +kernel
theorem dX7_passLease_122 : decode cX7_passLease 122 = .ok (.iload 4, 2) := by decide +kernel
theorem dX7_passLease_124 : decode cX7_passLease 124 = .ok (.iastore, 1) := by decide +kernel
theorem dX7_passLease_125 : decode cX7_passLease 125 = .ok (.aload_n 0, 1) := by decide +kernel
theorem dX7_passLease_126 : decode cX7_passLease 126 = .ok (.getfield 7, 3) := by decide +kernel
theorem dX7_passLease_129 : decode cX7_passLease 129 = .ok (.iload_n 2, 1) := by decide +kernel
theorem dX7_passLease_130 : decode cX7_passLease 130 = .ok (.iconst 4, 1) := by decide +kernel
theorem dX7_passLease_131 : decode cX7_passLease 131 = .ok (.iadd, 1) := by decide +kernel
theorem dX7_passLease_132 : decode cX7_passLease 132 = .ok (.dup2, 1) := by decide +kernel
theorem dX7_passLease_133 : decode cX7_passLease 133 = .ok (.iaload, 1) := by decide +kernel
theorem dX7_passLease_134 : decode cX7_passLease 134 = .ok (.iload_n 3, 1) := by decide +kernel
theorem dX7_passLease_135 : decode cX7_passLease 135 = .ok (.isub, 1) := by decide +kernel
theorem dX7_passLease_136 : decode cX7_passLease 136 = .ok (.iastore, 1) := by decide +kernel
theorem dX7_passLease_137 : decode cX7_passLease 137 = .ok (.aload_n 0, 1) := by decide +kernel
theorem dX7_passLease_138 : decode cX7_passLease 138 = .ok (.iload_n 1, 1) := by decide +kernel
theorem dX7_passLease_139 : decode cX7_passLease 139 = .ok (.invokevirtual 107, 3) := by decide +kernel
theorem dX7_passLease_142 : decode cX7_passLease 142 = .ok (.return_, 1) := by decide +kernel
theorem dX7_pass_0 : decode cX7_pass 0 = .ok (.aload_n 0, 1) := by decide +kernel
theorem dX7_pass_1 : decode cX7_pass 1 = .ok (.iconst 0, 1) := by decide +kernel
theorem dX7_pass_2 : decode cX7_pass 2 = .ok (.putfield 25, 3) := by decide +kernel
theorem dX7_pass_5 : decode cX7_pass 5 = .ok (.iload_n 1, 1) := by decide +kernel
theorem dX7_pass_6 : decode cX7_pass 6 = .ok (.iconst 1, 1) := by decide +kernel
theorem dX7_pass_7 : decode cX7_pass 7 = .ok (.bipush 60, 2) := by decide +kernel
theorem dX7_pass_9 : decode cX7_pass 9 = .ok (.invokestatic 42, 3) := by decide +kernel
theorem dX7_pass_12 : decode cX7_pass 12 = .ok (.ifCond .ne 9, 3) := by decide +kernel
theorem dX7_pass_15 : decode cX7_pass 15 = .ok (.aload_n 0, 1) := by decide +kernel
theorem dX7_pass_16 : decode cX7_pass 16 = .ok (.iconst 1, 1) := by decide +kernel
theorem dX7_pass_17 : decode cX7_pass 17 = .ok (.invokevirtual 67, 3) := by decide +kernel
theorem dX7_pass_20 : decode cX7_pass 20 = .ok (.ireturn, 1) := by decide +kernel
theorem dX7_pass_21 : decode cX7_pass 21 = .ok (.aload_n 0, 1) := by decide +kernel
theorem dX7_pass_22 : decode cX7_pass 22 = .ok (.getfield 7, 3) := by decide +kernel
theorem dX7_pass_25 : decode cX7_pass 25 = .ok (.iconst 2, 1) := by decide +kernel
theorem dX7_pass_26 : decode cX7_pass 26 = .ok (.iaload, 1) := by decide +kernel
theorem dX7_pass_27 : decode cX7_pass 27 = .ok (.iload_n 1, 1) := by decide +kernel
theorem dX7_pass_28 : decode cX7_pass 28 = .ok (.iadd, 1) := by decide +kernel
theorem dX7_pass_29 : decode cX7_pass 29 = .ok (.sipush 2000, 3) := by decide +kernel
theorem dX7_pass_32 : decode cX7_pass 32 = .ok (.if_icmp .le 9, 3) := by decide +kernel
theorem dX7_pass_35 : decode cX7_pass 35 = .ok (.aload_n 0, 1) := by decide +kernel
theorem dX7_pass_36 : decode cX7_pass 36 = .ok (.iconst 2, 1) := by decide +kernel
theorem dX7_pass_37 : decode cX7_pass 37 = .ok (.invokevirtual 67, 3) := by decide +kernel
theorem dX7_pass_40 : decode cX7_pass 40 = .ok (.ireturn, 1) := by decide +kernel
theorem dX7_pass_41 : decode cX7_pass 41 = .ok (.aload_n 0, 1) := by decide +kernel
theorem dX7_pass_42 : decode cX7_pass 42 = .ok (.invokevirtual 70, 3) := by decide +kernel
theorem dX7_pass_45 : decode cX7_pass 45 = .ok (.iconst 0, 1) := by decide +kernel
theorem dX7_pass_46 : decode cX7_pass 46 = .ok (.istore_n 2, 1) := by decide +kernel
theorem dX7_pass_47 : decode cX7_pass 47 = .ok (.iload_n 2, 1) := by decide +kernel
theorem dX7_pass_48 : decode cX7_pass 48 = .ok (.iload_n 1, 1) := by decide +kernel
theorem dX7_pass_49 : decode cX7_pass 49 = .ok (.if_icmp .ge 32, 3) := by decide +kernel
theorem dX7_pass_52 : decode cX7_pass 52 = .ok (.iconst 0, 1) := by decide +kernel
theorem dX7_pass_53 : decode cX7_pass 53 = .ok (.istore_n 3, 1) := by decide +kernel
theorem dX7_pass_54 : decode cX7_pass 54 = .ok (.iload_n 3, 1) := by decide +kernel
theorem dX7_pass_55 : decode cX7_pass 55 = .ok (.aload_n 0, 1) := by decide +kernel
theorem dX7_pass_56 : decode cX7_pass 56 = .ok (.getfield 7, 3) := by decide +kernel
theorem dX7_pass_59 : decode cX7_pass 59 = .ok (.iconst 0, 1) := by decide +kernel
theorem dX7_pass_60 : decode cX7_pass 60 = .ok (.iaload, 1) := by decide +kernel
theorem dX7_pass_61 : decode cX7_pass 61 = .ok (.if_icmp .ge 14, 3) := by decide +kernel
theorem dX7_pass_64 : decode cX7_pass 64 = .ok (.aload_n 0, 1) := by decide +kernel
theorem dX7_pass_65 : decode cX7_pass 65 = .ok (.iload_n 3, 1) := by decide +kernel
theorem dX7_pass_66 : decode cX7_pass 66 = .ok (.invokevirtual 111, 3) := by decide +kernel
theorem dX7_pass_69 : decode cX7_pass 69 = .ok (.iinc 3 1, 3) := by decide +kernel
theorem dX7_pass_72 : decode cX7_pass 72 = .ok (.goto (-18), 3) := by decide +kernel
theorem dX7_pass_75 : decode cX7_pass 75 = .ok (.iinc 2 1, 3) := by decide +kernel
theorem dX7_pass_78 : decode cX7_pass 78 = .ok (.goto (-31), 3) := by decide +kernel
theorem dX7_pass_81 : decode cX7_pass 81 = .ok (.aload_n 0, 1) := by decide +kernel
theorem dX7_pass_82 : decode cX7_pass 82 = .ok (.getfield 7, 3) := by decide +kernel
theorem dX7_pass_85 : decode cX7_pass 85 = .ok (.iconst 2, 1) := by decide +kernel
theorem dX7_pass_86 : decode cX7_pass 86 = .ok (.dup2, 1) := by decide +kernel
theorem dX7_pass_87 : decode cX7_pass 87 = .ok (.iaload, 1) := by decide +kernel
theorem dX7_pass_88 : decode cX7_pass 88 = .ok (.iload_n 1, 1) := by decide +kernel
theorem dX7_pass_89 : decode cX7_pass 89 = .ok (.iadd, 1) := by decide +kernel
theorem dX7_pass_90 : decode cX7_pass 90 = .ok (.iastore, 1) := by decide +kernel
theorem dX7_pass_91 : decode cX7_pass 91 = .ok (.aload_n 0, 1) := by decide +kernel
theorem dX7_pass_92 : decode cX7_pass 92 = .ok (.getfield 7, 3) := by decide +kernel
theorem dX7_pass_95 : decode cX7_pass 95 = .ok (.iconst 2, 1) := by decide +kernel
theorem dX7_pass_96 : decode cX7_pass 96 = .ok (.iaload, 1) := by decide +kernel
theorem dX7_pass_97 : decode cX7_pass 97 = .ok (.ireturn, 1) := by decide +kernel
theorem dX7_append_0 : decode cX7_append 0 = .ok (.aload_n 0, 1) := by decide +kernel
theorem dX7_append_1 : decode cX7_append 1 = .ok (.iconst 0, 1) := by decide +kernel
theorem dX7_append_2 : decode cX7_append 2 = .ok (.putfield 25, 3) := by decide +kernel
theorem dX7_append_5 : decode cX7_append 5 = .ok (.iload_n 1, 1) := by decide +kernel
theorem dX7_append_6 : decode cX7_append 6 = .ok (.bipush 33, 2) := by decide +kernel
theorem dX7_append_8 : decode cX7_append 8 = .ok (.bipush 126, 2) := by decide +kernel
theorem dX7_append_10 : decode cX7_append 10 = .ok (.invokestatic 42, 3) := by decide +kernel
theorem dX7_append_13 : decode cX7_append 13 = .ok (.ifCond .ne 9, 3) := by decide +kernel
theorem dX7_append_16 : decode cX7_append 16 = .ok (.aload_n 0, 1) := by decide +kernel
theorem dX7_append_17 : decode cX7_append 17 = .ok (.iconst 1, 1) := by decide +kernel
theorem dX7_append_18 : decode cX7_append 18 = .ok (.invokevirtual 67, 3) := by decide +kernel
theorem dX7_append_21 : decode cX7_append 21 = .ok (.ireturn, 1) := by decide +kernel
theorem dX7_append_22 : decode cX7_append 22 = .ok (.aload_n 0, 1) := by decide +kernel
theorem dX7_append_23 : decode cX7_append 23 = .ok (.getfield 114, 3) := by decide +kernel
theorem dX7_append_26 : decode cX7_append 26 = .ok (.bipush 60, 2) := by decide +kernel
theorem dX7_append_28 : decode cX7_append 28 = .ok (.if_icmp .ne 9, 3) := by decide +kernel
theorem dX7_append_31 : decode cX7_append 31 = .ok (.aload_n 0, 1) := by decide +kernel
theorem dX7_append_32 : decode cX7_append 32 = .ok (.iconst 2, 1) := by decide +kernel
theorem dX7_append_33 : decode cX7_append 33 = .ok (.invokevirtual 67, 3) := by decide +kernel
theorem dX7_append_36 : decode cX7_append 36 = .ok (.ireturn, 1) := by decide +kernel
theorem dX7_append_37 : decode cX7_append 37 = .ok (.aload_n 0, 1) := by decide +kernel
theorem dX7_append_38 : decode cX7_append 38 = .ok (.getfield 19, 3) := by decide +kernel
theorem dX7_append_41 : decode cX7_append 41 = .ok (.aload_n 0, 1) := by decide +kernel
theorem dX7_append_42 : decode cX7_append 42 = .ok (.getfield 114, 3) := by decide +kernel
theorem dX7_append_45 : decode cX7_append 45 = .ok (.iload_n 1, 1) := by decide +kernel
theorem dX7_append_46 : decode cX7_append 46 = .ok (.iastore, 1) := by decide +kernel
theorem dX7_append_47 : decode cX7_append 47 = .ok (.aload_n 0, 1) := by decide +kernel
theorem dX7_append_48 : decode cX7_append 48 = .ok (.dup, 1) := by decide +kernel
theorem dX7_append_49 : decode cX7_append 49 = .ok (.getfield 114, 3) := by decide +kernel
theorem dX7_append_52 : decode cX7_append 52 = .ok (.iconst 1, 1) := by decide +kernel
theorem dX7_append_53 : decode cX7_append 53 = .ok (.iadd, 1) := by decide +kernel
theorem dX7_append_54 : decode cX7_append 54 = .ok (.putfield 114, 3) := by decide +kernel
theorem dX7_append_57 : decode cX7_append 57 = .ok (.aload_n 0, 1) := by decide +kernel
theorem dX7_append_58 : decode cX7_append 58 = .ok (.getfield 114, 3) := by decide +kernel
theorem dX7_append_61 : decode cX7_append 61 = .ok (.ireturn, 1) := by decide +kernel
theorem dX7_clearBuffer_0 : decode cX7_clearBuffer 0 = .ok (.aload_n 0, 1) := by decide +kernel
theorem dX7_clearBuffer_1 : decode cX7_clearBuffer 1 = .ok (.iconst 0, 1) := by decide +kernel
theorem dX7_clearBuffer_2 : decode cX7_clearBuffer 2 = .ok (.putfield 25, 3) := by decide +kernel
theorem dX7_clearBuffer_5 : decode cX7_clearBuffer 5 = .ok (.aload_n 0, 1) := by decide +kernel
theorem dX7_clearBuffer_6 : decode cX7_clearBuffer 6 = .ok (.getfield 114, 3) := by decide +kernel
theorem dX7_clearBuffer_9 : decode cX7_clearBuffer 9 = .ok (.istore_n 1, 1) := by decide +kernel
theorem dX7_clearBuffer_10 : decode cX7_clearBuffer 10 = .ok (.aload_n 0, 1) := by decide +kernel
theorem dX7_clearBuffer_11 : decode cX7_clearBuffer 11 = .ok (.iconst 0, 1) := by decide +kernel
theorem dX7_clearBuffer_12 : decode cX7_clearBuffer 12 = .ok (.putfield 114, 3) := by decide +kernel
theorem dX7_clearBuffer_15 : decode cX7_clearBuffer 15 = .ok (.iload_n 1, 1) := by decide +kernel
theorem dX7_clearBuffer_16 : decode cX7_clearBuffer 16 = .ok (.ireturn, 1) := by decide +kernel
theorem dX7_next_0 : decode cX7_next 0 = .ok (.aload_n 0, 1) := by decide +kernel
theorem dX7_next_1 : decode cX7_next 1 = .ok (.getfield 117, 3) := by decide +kernel
theorem dX7_next_4 : decode cX7_next 4 = .ok (.aload_n 0, 1) := by decide +kernel
theorem dX7_next_5 : decode cX7_next 5 = .ok (.getfield 114, 3) := by decide +kernel
theorem dX7_next_8 : decode cX7_next 8 = .ok (.if_icmp .ge 15, 3) := by decide +kernel
theorem dX7_next_11 : decode cX7_next 11 = .ok (.aload_n 0, 1) := by decide +kernel
theorem dX7_next_12 : decode cX7_next 12 = .ok (.getfield 19, 3) := by decide +kernel
theorem dX7_next_15 : decode cX7_next 15 = .ok (.aload_n 0, 1) := by decide +kernel
theorem dX7_next_16 : decode cX7_next 16 = .ok (.getfield 117, 3) := by decide +kernel
theorem dX7_next_19 : decode cX7_next 19 = .ok (.iaload, 1) := by decide +kernel
theorem dX7_next_20 : decode cX7_next 20 = .ok (.goto 4, 3) := by decide +kernel
theorem dX7_next_23 : decode cX7_next 23 = .ok (.iconst 0, 1) := by decide +kernel
theorem dX7_next_24 : decode cX7_next 24 = .ok (.ireturn, 1) := by decide +kernel
theorem dX7_takes_0 : decode cX7_takes 0 = .ok (.aload_n 0, 1) := by decide +kernel
theorem dX7_takes_1 : decode cX7_takes 1 = .ok (.invokevirtual 120, 3) := by decide +kernel
theorem dX7_takes_4 : decode cX7_takes 4 = .ok (.iload_n 1, 1) := by decide +kernel
theorem dX7_takes_5 : decode cX7_takes 5 = .ok (.if_icmp .ne 7, 3) := by decide +kernel
theorem dX7_takes_8 : decode cX7_takes 8 = .ok (.iconst 1, 1) := by decide +kernel
theorem dX7_takes_9 : decode cX7_takes 9 = .ok (.goto 4, 3) := by decide +kernel
theorem dX7_takes_12 : decode cX7_takes 12 = .ok (.iconst 0, 1) := by decide +kernel
theorem dX7_takes_13 : decode cX7_takes 13 = .ok (.istore_n 2, 1) := by decide +kernel
theorem dX7_takes_14 : decode cX7_takes 14 = .ok (.aload_n 0, 1) := by decide +kernel
theorem dX7_takes_15 : decode cX7_takes 15 = .ok (.dup, 1) := by decide +kernel
theorem dX7_takes_16 : decode cX7_takes 16 = .ok (.getfield 117, 3) := by decide +kernel
theorem dX7_takes_19 : decode cX7_takes 19 = .ok (.iload_n 2, 1) := by decide +kernel
theorem dX7_takes_20 : decode cX7_takes 20 = .ok (.ifCond .eq 7, 3) := by decide +kernel
theorem dX7_takes_23 : decode cX7_takes 23 = .ok (.iconst 1, 1) := by decide +kernel
theorem dX7_takes_24 : decode cX7_takes 24 = .ok (.goto 4, 3) := by decide +kernel
theorem dX7_takes_27 : decode cX7_takes 27 = .ok (.iconst 0, 1) := by decide +kernel
theorem dX7_takes_28 : decode cX7_takes 28 = .ok (.iadd, 1) := by decide +kernel
theorem dX7_takes_29 : decode cX7_takes 29 = .ok (.putfield 117, 3) := by decide +kernel
theorem dX7_takes_32 : decode cX7_takes 32 = .ok (.iload_n 2, 1) := by decide +kernel
theorem dX7_takes_33 : decode cX7_takes 33 = .ok (.ireturn, 1) := by decide +kernel
theorem dX7_number_0 : decode cX7_number 0 = .ok (.iconst (-1), 1) := by decide +kernel
theorem dX7_number_1 : decode cX7_number 1 = .ok (.istore_n 3, 1) := by decide +kernel
theorem dX7_number_2 : decode cX7_number 2 = .ok (.iconst 1, 1) := by decide +kernel
theorem dX7_number_3 : decode cX7_number 3 = .ok (.istore 4, 2) := by decide +kernel
theorem dX7_number_5 : decode cX7_number 5 = .ok (.iload 4, 2) := by decide +kernel
theorem dX7_number_7 : decode cX7_number 7 = .ok (.ifCond .eq 97, 3) := by decide +kernel
theorem dX7_number_10 : decode cX7_number 10 = .ok (.aload_n 0, 1) := by decide +kernel
theorem dX7_number_11 : decode cX7_number 11 = .ok (.invokevirtual 120, 3) := by decide +kernel
theorem dX7_number_14 : decode cX7_number 14 = .ok (.bipush 48, 2) := by decide +kernel
theorem dX7_number_16 : decode cX7_number 16 = .ok (.isub, 1) := by decide +kernel
theorem dX7_number_17 : decode cX7_number 17 = .ok (.istore 5, 2) := by decide +kernel
theorem dX7_number_19 : decode cX7_number 19 = .ok (.iload_n 3, 1) := by decide +kernel
theorem dX7_number_20 : decode cX7_number 20 = .ok (.iconst (-1), 1) := by decide +kernel
theorem dX7_number_21 : decode cX7_number 21 = .ok (.if_icmp .ne 8, 3) := by decide +kernel
theorem dX7_number_24 : decode cX7_number 24 = .ok (.iload 5, 2) := by decide +kernel
theorem dX7_number_26 : decode cX7_number 26 = .ok (.goto 10, 3) := by decide +kernel
theorem dX7_number_29 : decode cX7_number 29 = .ok (.bipush 10, 2) := by decide +kernel
theorem dX7_number_31 : decode cX7_number 31 = .ok (.iload_n 3, 1) := by decide +kernel
theorem dX7_number_32 : decode cX7_number 32 = .ok (.imul, 1) := by decide +kernel
theorem dX7_number_33 : decode cX7_number 33 = .ok (.iload 5, 2) := by decide +kernel
theorem dX7_number_35 : decode cX7_number 35 = .ok (.iadd, 1) := by decide +kernel
theorem dX7_number_36 : decode cX7_number 36 = .ok (.istore 6, 2) := by decide +kernel
theorem dX7_number_38 : decode cX7_number 38 = .ok (.iload 5, 2) := by decide +kernel
theorem dX7_number_40 : decode cX7_number 40 = .ok (.iconst 0, 1) := by decide +kernel
theorem dX7_number_41 : decode cX7_number 41 = .ok (.bipush 9, 2) := by decide +kernel
theorem dX7_number_43 : decode cX7_number 43 = .ok (.invokestatic 42, 3) := by decide +kernel
theorem dX7_number_46 : decode cX7_number 46 = .ok (.ifCond .eq 21, 3) := by decide +kernel
theorem dX7_number_49 : decode cX7_number 49 = .ok (.iload_n 3, 1) := by decide +kernel
theorem dX7_number_50 : decode cX7_number 50 = .ok (.ifCond .eq 17, 3) := by decide +kernel
theorem dX7_number_53 : decode cX7_number 53 = .ok (.iload 6, 2) := by decide +kernel
theorem dX7_number_55 : decode cX7_number 55 = .ok (.iload_n 1, 1) := by decide +kernel
theorem dX7_number_56 : decode cX7_number 56 = .ok (.iload_n 2, 1) := by decide +kernel
theorem dX7_number_57 : decode cX7_number 57 = .ok (.invokestatic 42, 3) := by decide +kernel
theorem dX7_number_60 : decode cX7_number 60 = .ok (.ifCond .eq 7, 3) := by decide +kernel
theorem dX7_number_63 : decode cX7_number 63 = .ok (.iconst 1, 1) := by decide +kernel
theorem dX7_number_64 : decode cX7_number 64 = .ok (.goto 4, 3) := by decide +kernel
theorem dX7_number_67 : decode cX7_number 67 = .ok (.iconst 0, 1) := by decide +kernel
theorem dX7_number_68 : decode cX7_number 68 = .ok (.istore 4, 2) := by decide +kernel
theorem dX7_number_70 : decode cX7_number 70 = .ok (.iload 4, 2) := by decide +kernel
theorem dX7_number_72 : decode cX7_number 72 = .ok (.ifCond .eq 8, 3) := by decide +kernel
theorem dX7_number_75 : decode cX7_number 75 = .ok (.iload 6, 2) := by decide +kernel
theorem dX7_number_77 : decode cX7_number 77 = .ok (.goto 4, 3) := by decide +kernel
theorem dX7_number_80 : decode cX7_number 80 = .ok (.iload_n 3, 1) := by decide +kernel
theorem dX7_number_81 : decode cX7_number 81 = .ok (.istore_n 3, 1) := by decide +kernel
theorem dX7_number_82 : decode cX7_number 82 = .ok (.aload_n 0, 1) := by decide +kernel
theorem dX7_number_83 : decode cX7_number 83 = .ok (.dup, 1) := by decide +kernel
theorem dX7_number_84 : decode cX7_number 84 = .ok (.getfield 117, 3) := by decide +kernel
theorem dX7_number_87 : decode cX7_number 87 = .ok (.iload 4, 2) := by decide +kernel
theorem dX7_number_89 : decode cX7_number 89 = .ok (.ifCond .eq 7, 3) := by decide +kernel
theorem dX7_number_92 : decode cX7_number 92 = .ok (.iconst 1, 1) := by decide +kernel
theorem dX7_number_93 : decode cX7_number 93 = .ok (.goto 4, 3) := by decide +kernel
theorem dX7_number_96 : decode cX7_number 96 = .ok (.iconst 0, 1) := by decide +kernel
theorem dX7_number_97 : decode cX7_number 97 = .ok (.iadd, 1) := by decide +kernel
theorem dX7_number_98 : decode cX7_number 98 = .ok (.putfield 117, 3) := by decide +kernel
theorem dX7_number_101 : decode cX7_number 101 = .ok (.goto (-96), 3) := by decide +kernel
theorem dX7_number_104 : decode cX7_number 104 = .ok (.iload_n 3, 1) := by decide +kernel
theorem dX7_number_105 : decode cX7_number 105 = .ok (.ireturn, 1) := by decide +kernel
theorem dX7_part_0 : decode cX7_part 0 = .ok (.iconst 4, 1) := by decide +kernel
theorem dX7_part_1 : decode cX7_part 1 = .ok (.aload_n 0, 1) := by decide +kernel
theorem dX7_part_2 : decode cX7_part 2 = .ok (.getfield 124, 3) := by decide +kernel
theorem dX7_part_5 : decode cX7_part 5 = .ok (.imul, 1) := by decide +kernel
theorem dX7_part_6 : decode cX7_part 6 = .ok (.istore_n 1, 1) := by decide +kernel
theorem dX7_part_7 : decode cX7_part 7 = .ok (.aload_n 0, 1) := by decide +kernel
theorem dX7_part_8 : decode cX7_part 8 = .ok (.getfield 22, 3) := by decide +kernel
theorem dX7_part_11 : decode cX7_part 11 = .ok (.iload_n 1, 1) := by decide +kernel
theorem dX7_part_12 : decode cX7_part 12 = .ok (.aload_n 0, 1) := by decide +kernel
theorem dX7_part_13 : decode cX7_part 13 = .ok (.iconst 0, 1) := by decide +kernel
theorem dX7_part_14 : decode cX7_part 14 = .ok (.ldc 46, 2) := by decide +kernel
theorem dX7_part_16 : decode cX7_part 16 = .ok (.invokevirtual 127, 3) := by decide +kernel
theorem dX7_part_19 : decode cX7_part 19 = .ok (.iastore, 1) := by decide +kernel
theorem dX7_part_20 : decode cX7_part 20 = .ok (.aload_n 0, 1) := by decide +kernel
theorem dX7_part_21 : decode cX7_part 21 = .ok (.getfield 22, 3) := by decide +kernel
theorem dX7_part_24 : decode cX7_part 24 = .ok (.iload_n 1, 1) := by decide +kernel
theorem dX7_part_25 : decode cX7_part 25 = .ok (.iaload, 1) := by decide +kernel
theorem dX7_part_26 : decode cX7_part 26 = .ok (.iconst (-1), 1) := by decide +kernel
theorem dX7_part_27 : decode cX7_part 27 = .ok (.if_icmp .eq 12, 3) := by decide +kernel
theorem dX7_part_30 : decode cX7_part 30 = .ok (.aload_n 0, 1) := by decide +kernel
theorem dX7_part_31 : decode cX7_part 31 = .ok (.bipush 42, 2) := by decide +kernel
theorem dX7_part_33 : decode cX7_part 33 = .ok (.invokevirtual 130, 3) := by decide +kernel
theorem dX7_part_36 : decode cX7_part 36 = .ok (.ifCond .ne 5, 3) := by decide +kernel
theorem dX7_part_39 : decode cX7_part 39 = .ok (.iconst 0, 1) := by decide +kernel
theorem dX7_part_40 : decode cX7_part 40 = .ok (.ireturn, 1) := by decide +kernel
theorem dX7_part_41 : decode cX7_part 41 = .ok (.aload_n 0, 1) := by decide +kernel
theorem dX7_part_42 : decode cX7_part 42 = .ok (.getfield 22, 3) := by decide +kernel
theorem dX7_part_45 : decode cX7_part 45 = .ok (.iload_n 1, 1) := by decide +kernel
theorem dX7_part_46 : decode cX7_part 46 = .ok (.iconst 1, 1) := by decide +kernel
theorem dX7_part_47 : decode cX7_part 47 = .ok (.iadd, 1) := by decide +kernel
theorem dX7_part_48 : decode cX7_part 48 = .ok (.aload_n 0, 1) := by decide +kernel
theorem dX7_part_49 : decode cX7_part 49 = .ok (.iconst 1, 1) := by decide +kernel
theorem dX7_part_50 : decode cX7_part 50 = .ok (.bipush 60, 2) := by decide +kernel
theorem dX7_part_52 : decode cX7_part 52 = .ok (.invokevirtual 127, 3) := by decide +kernel
theorem dX7_part_55 : decode cX7_part 55 = .ok (.iastore, 1) := by decide +kernel
theorem dX7_part_56 : decode cX7_part 56 = .ok (.aload_n 0, 1) := by decide +kernel
theorem dX7_part_57 : decode cX7_part 57 = .ok (.getfield 22, 3) := by decide +kernel
theorem dX7_part_60 : decode cX7_part 60 = .ok (.iload_n 1, 1) := by decide +kernel
theorem dX7_part_61 : decode cX7_part 61 = .ok (.iconst 1, 1) := by decide +kernel
theorem dX7_part_62 : decode cX7_part 62 = .ok (.iadd, 1) := by decide +kernel
theorem dX7_part_63 : decode cX7_part 63 = .ok (.iaload, 1) := by decide +kernel
theorem dX7_part_64 : decode cX7_part 64 = .ok (.iconst (-1), 1) := by decide +kernel
theorem dX7_part_65 : decode cX7_part 65 = .ok (.if_icmp .eq 12, 3) := by decide +kernel
theorem dX7_part_68 : decode cX7_part 68 = .ok (.aload_n 0, 1) := by decide +kernel
theorem dX7_part_69 : decode cX7_part 69 = .ok (.bipush 64, 2) := by decide +kernel
theorem dX7_part_71 : decode cX7_part 71 = .ok (.invokevirtual 130, 3) := by decide +kernel
theorem dX7_part_74 : decode cX7_part 74 = .ok (.ifCond .ne 5, 3) := by decide +kernel
theorem dX7_part_77 : decode cX7_part 77 = .ok (.iconst 0, 1) := by decide +kernel
theorem dX7_part_78 : decode cX7_part 78 = .ok (.ireturn, 1) := by decide +kernel
theorem dX7_part_79 : decode cX7_part 79 = .ok (.aload_n 0, 1) := by decide +kernel
theorem dX7_part_80 : decode cX7_part 80 = .ok (.getfield 22, 3) := by decide +kernel
theorem dX7_part_83 : decode cX7_part 83 = .ok (.iload_n 1, 1) := by decide +kernel
theorem dX7_part_84 : decode cX7_part 84 = .ok (.iconst 2, 1) := by decide +kernel
theorem dX7_part_85 : decode cX7_part 85 = .ok (.iadd, 1) := by decide +kernel
theorem dX7_part_86 : decode cX7_part 86 = .ok (.aload_n 0, 1) := by decide +kernel
theorem dX7_part_87 : decode cX7_part 87 = .ok (.iconst 0, 1) := by decide +kernel
theorem dX7_part_88 : decode cX7_part 88 = .ok (.sipush 2000, 3) := by decide +kernel
theorem dX7_part_91 : decode cX7_part 91 = .ok (.invokevirtual 127, 3) := by decide +kernel
theorem dX7_part_94 : decode cX7_part 94 = .ok (.iastore, 1) := by decide +kernel
theorem dX7_part_95 : decode cX7_part 95 = .ok (.aload_n 0, 1) := by decide +kernel
theorem dX7_part_96 : decode cX7_part 96 = .ok (.getfield 22, 3) := by decide +kernel
theorem dX7_part_99 : decode cX7_part 99 = .ok (.iload_n 1, 1) := by decide +kernel
theorem dX7_part_100 : decode cX7_part 100 = .ok (.iconst 2, 1) := by decide +kernel
theorem dX7_part_101 : decode cX7_part 101 = .ok (.iadd, 1) := by decide +kernel
theorem dX7_part_102 : decode cX7_part 102 = .ok (.iaload, 1) := by decide +kernel
theorem dX7_part_103 : decode cX7_part 103 = .ok (.iconst (-1), 1) := by decide +kernel
theorem dX7_part_104 : decode cX7_part 104 = .ok (.if_icmp .ne 5, 3) := by decide +kernel
theorem dX7_part_107 : decode cX7_part 107 = .ok (.iconst 0, 1) := by decide +kernel
theorem dX7_part_108 : decode cX7_part 108 = .ok (.ireturn, 1) := by decide +kernel
theorem dX7_part_109 : decode cX7_part 109 = .ok (.aload_n 0, 1) := by decide +kernel
theorem dX7_part_110 : decode cX7_part 110 = .ok (.getfield 22, 3) := by decide +kernel
theorem dX7_part_113 : decode cX7_part 113 = .ok (.iload_n 1, 1) := by decide +kernel
theorem dX7_part_114 : decode cX7_part 114 = .ok (.iconst 3, 1) := by decide +kernel
theorem dX7_part_115 : decode cX7_part 115 = .ok (.iadd, 1) := by decide +kernel
theorem dX7_part_116 : decode cX7_part 116 = .ok (.aload_n 0, 1) := by decide +kernel
theorem dX7_part_117 : decode cX7_part 117 = .ok (.bipush 43, 2) := by decide +kernel
theorem dX7_part_119 : decode cX7_part 119 = .ok (.invokevirtual 130, 3) := by decide +kernel
theorem dX7_part_122 : decode cX7_part 122 = .ok (.ifCond .eq 13, 3) := by decide +kernel
theorem dX7_part_125 : decode cX7_part 125 = .ok (.aload_n 0, 1) := by decide +kernel
theorem dX7_part_126 : decode cX7_part 126 = .ok (.iconst 0, 1) := by decide +kernel
theorem dX7_part_127 : decode cX7_part 127 = .ok (.ldc 46, 2) := by decide +kernel
theorem dX7_part_129 : decode cX7_part 129 = .ok (.invokevirtual 127, 3) := by decide +kernel
theorem dX7_part_132 : decode cX7_part 132 = .ok (.goto 4, 3) := by decide +kernel
theorem dX7_part_135 : decode cX7_part 135 = .ok (.iconst 0, 1) := by decide +kernel
theorem dX7_part_136 : decode cX7_part 136 = .ok (.iastore, 1) := by decide +kernel
theorem dX7_part_137 : decode cX7_part 137 = .ok (.aload_n 0, 1) := by decide +kernel
theorem dX7_part_138 : decode cX7_part 138 = .ok (.dup, 1) := by decide +kernel
theorem dX7_part_139 : decode cX7_part 139 = .ok (.getfield 124, 3) := by decide +kernel
theorem dX7_part_142 : decode cX7_part 142 = .ok (.iconst 1, 1) := by decide +kernel
theorem dX7_part_143 : decode cX7_part 143 = .ok (.iadd, 1) := by decide +kernel
theorem dX7_part_144 : decode cX7_part 144 = .ok (.putfield 124, 3) := by decide +kernel
theorem dX7_part_147 : decode cX7_part 147 = .ok (.aload_n 0, 1) := by decide +kernel
theorem dX7_part_148 : decode cX7_part 148 = .ok (.getfield 22, 3) := by decide +kernel
theorem dX7_part_151 : decode cX7_part 151 = .ok (.iload_n 1, 1) := by decide +kernel
theorem dX7_part_152 : decode cX7_part 152 = .ok (.iconst 3, 1) := by decide +kernel
theorem dX7_part_153 : decode cX7_part 153 = .ok (.iadd, 1) := by decide +kernel
theorem dX7_part_154 : decode cX7_part 154 = .ok (.iaload, 1) := by decide +kernel
theorem dX7_part_155 : decode cX7_part 155 = .ok (.iconst (-1), 1) := by decide +kernel
theorem dX7_part_156 : decode cX7_part 156 = .ok (.if_icmp .eq 7, 3) := by decide +kernel
theorem dX7_part_159 : decode cX7_part 159 = .ok (.iconst 1, 1) := by decide +kernel
theorem dX7_part_160 : decode cX7_part 160 = .ok (.goto 4, 3) := by decide +kernel
theorem dX7_part_163 : decode cX7_part 163 = .ok (.iconst 0, 1) := by decide +kernel
theorem dX7_part_164 : decode cX7_part 164 = .ok (.ireturn, 1) := by decide +kernel
theorem dX7_areLeases_0 : decode cX7_areLeases 0 = .ok (.aload_n 0, 1) := by decide +kernel
theorem dX7_areLeases_1 : decode cX7_areLeases 1 = .ok (.iconst 0, 1) := by decide +kernel
theorem dX7_areLeases_2 : decode cX7_areLeases 2 = .ok (.putfield 117, 3) := by decide +kernel
theorem dX7_areLeases_5 : decode cX7_areLeases 5 = .ok (.aload_n 0, 1) := by decide +kernel
theorem dX7_areLeases_6 : decode cX7_areLeases 6 = .ok (.iconst 0, 1) := by decide +kernel
theorem dX7_areLeases_7 : decode cX7_areLeases 7 = .ok (.putfield 124, 3) := by decide +kernel
theorem dX7_areLeases_10 : decode cX7_areLeases 10 = .ok (.aload_n 0, 1) := by decide +kernel
theorem dX7_areLeases_11 : decode cX7_areLeases 11 = .ok (.invokevirtual 133, 3) := by decide +kernel
theorem dX7_areLeases_14 : decode cX7_areLeases 14 = .ok (.istore_n 1, 1) := by decide +kernel
theorem dX7_areLeases_15 : decode cX7_areLeases 15 = .ok (.iload_n 1, 1) := by decide +kernel
theorem dX7_areLeases_16 : decode cX7_areLeases 16 = .ok (.ifCond .eq 20, 3) := by decide +kernel
theorem dX7_areLeases_19 : decode cX7_areLeases 19 = .ok (.aload_n 0, 1) := by decide +kernel
theorem dX7_areLeases_20 : decode cX7_areLeases 20 = .ok (.bipush 59, 2) := by decide +kernel
theorem dX7_areLeases_22 : decode cX7_areLeases 22 = .ok (.invokevirtual 130, 3) := by decide +kernel
theorem dX7_areLeases_25 : decode cX7_areLeases 25 = .ok (.ifCond .eq 11, 3) := by decide +kernel
theorem dX7_areLeases_28 : decode cX7_areLeases 28 = .ok (.aload_n 0, 1) := by decide +kernel
theorem dX7_areLeases_29 : decode cX7_areLeases 29 = .ok (.invokevirtual 133, 3) := by decide +kernel
theorem dX7_areLeases_32 : decode cX7_areLeases 32 = .ok (.istore_n 1, 1) := by decide +kernel
theorem dX7_areLeases_33 : decode cX7_areLeases 33 = .ok (.goto (-18), 3) := by decide +kernel
theorem dX7_areLeases_36 : decode cX7_areLeases 36 = .ok (.iload_n 1, 1) := by decide +kernel
theorem dX7_areLeases_37 : decode cX7_areLeases 37 = .ok (.ifCond .eq 18, 3) := by decide +kernel
theorem dX7_areLeases_40 : decode cX7_areLeases 40 = .ok (.aload_n 0, 1) := by decide +kernel
theorem dX7_areLeases_41 : decode cX7_areLeases 41 = .ok (.getfield 117, 3) := by decide +kernel
theorem dX7_areLeases_44 : decode cX7_areLeases 44 = .ok (.aload_n 0, 1) := by decide +kernel
theorem dX7_areLeases_45 : decode cX7_areLeases 45 = .ok (.getfield 114, 3) := by decide +kernel
theorem dX7_areLeases_48 : decode cX7_areLeases 48 = .ok (.if_icmp .ne 7, 3) := by decide +kernel
theorem dX7_areLeases_51 : decode cX7_areLeases 51 = .ok (.iconst 1, 1) := by decide +kernel
theorem dX7_areLeases_52 : decode cX7_areLeases 52 = .ok (.goto 4, 3) := by decide +kernel
theorem dX7_areLeases_55 : decode cX7_areLeases 55 = .ok (.iconst 0, 1) := by decide +kernel
theorem dX7_areLeases_56 : decode cX7_areLeases 56 = .ok (.ireturn, 1) := by decide +kernel
theorem dX7_firstError_0 : decode cX7_firstError 0 = .ok (.aload_n 0, 1) := by decide +kernel
theorem dX7_firstError_1 : decode cX7_firstError 1 = .ok (.iconst 0, 1) := by decide +kernel
theorem dX7_firstError_2 : decode cX7_firstError 2 = .ok (.putfield 25, 3) := by decide +kernel
theorem dX7_firstError_5 : decode cX7_firstError 5 = .ok (.aload_n 0, 1) := by decide +kernel
theorem dX7_firstError_6 : decode cX7_firstError 6 = .ok (.invokevirtual 137, 3) := by decide +kernel
theorem dX7_firstError_9 : decode cX7_firstError 9 = .ok (.ifCond .eq 10, 3) := by decide +kernel
theorem dX7_firstError_12 : decode cX7_firstError 12 = .ok (.aload_n 0, 1) := by decide +kernel
theorem dX7_firstError_13 : decode cX7_firstError 13 = .ok (.getfield 114, 3) := by decide +kernel
theorem dX7_firstError_16 : decode cX7_firstError 16 = .ok (.goto 7, 3) := by decide +kernel
theorem dX7_firstError_19 : decode cX7_firstError 19 = .ok (.aload_n 0, 1) := by decide +kernel
theorem dX7_firstError_20 : decode cX7_firstError 20 = .ok (.getfield 117, 3) := by decide +kernel
theorem dX7_firstError_23 : decode cX7_firstError 23 = .ok (.ireturn, 1) := by decide +kernel
theorem dX7_openAll_0 : decode cX7_openAll 0 = .ok (.aload_n 0, 1) := by decide +kernel
theorem dX7_openAll_1 : decode cX7_openAll 1 = .ok (.iconst 0, 1) := by decide +kernel
theorem dX7_openAll_2 : decode cX7_openAll 2 = .ok (.putfield 25, 3) := by decide +kernel
theorem dX7_openAll_5 : decode cX7_openAll 5 = .ok (.aload_n 0, 1) := by decide +kernel
theorem dX7_openAll_6 : decode cX7_openAll 6 = .ok (.invokevirtual 137, 3) := by decide +kernel
theorem dX7_openAll_9 : decode cX7_openAll 9 = .ok (.ifCond .ne 9, 3) := by decide +kernel
theorem dX7_openAll_12 : decode cX7_openAll 12 = .ok (.aload_n 0, 1) := by decide +kernel
theorem dX7_openAll_13 : decode cX7_openAll 13 = .ok (.iconst 1, 1) := by decide +kernel
theorem dX7_openAll_14 : decode cX7_openAll 14 = .ok (.invokevirtual 67, 3) := by decide +kernel
theorem dX7_openAll_17 : decode cX7_openAll 17 = .ok (.ireturn, 1) := by decide +kernel
theorem dX7_openAll_18 : decode cX7_openAll 18 = .ok (.aload_n 0, 1) := by decide +kernel
theorem dX7_openAll_19 : decode cX7_openAll 19 = .ok (.getfield 7, 3) := by decide +kernel
theorem dX7_openAll_22 : decode cX7_openAll 22 = .ok (.iconst 0, 1) := by decide +kernel
theorem dX7_openAll_23 : decode cX7_openAll 23 = .ok (.iaload, 1) := by decide +kernel
theorem dX7_openAll_24 : decode cX7_openAll 24 = .ok (.aload_n 0, 1) := by decide +kernel
theorem dX7_openAll_25 : decode cX7_openAll 25 = .ok (.getfield 124, 3) := by decide +kernel
theorem dX7_openAll_28 : decode cX7_openAll 28 = .ok (.iadd, 1) := by decide +kernel
theorem dX7_openAll_29 : decode cX7_openAll 29 = .ok (.bipush 8, 2) := by decide +kernel
theorem dX7_openAll_31 : decode cX7_openAll 31 = .ok (.if_icmp .le 9, 3) := by decide +kernel
theorem dX7_openAll_34 : decode cX7_openAll 34 = .ok (.aload_n 0, 1) := by decide +kernel
theorem dX7_openAll_35 : decode cX7_openAll 35 = .ok (.iconst 2, 1) := by decide +kernel
theorem dX7_openAll_36 : decode cX7_openAll 36 = .ok (.invokevirtual 67, 3) := by decide +kernel
theorem dX7_openAll_39 : decode cX7_openAll 39 = .ok (.ireturn, 1) := by decide +kernel
theorem dX7_openAll_40 : decode cX7_openAll 40 = .ok (.aload_n 0, 1) := by decide +kernel
theorem dX7_openAll_41 : decode cX7_openAll 41 = .ok (.invokevirtual 70, 3) := by decide +kernel
theorem dX7_openAll_44 : decode cX7_openAll 44 = .ok (.iconst 0, 1) := by decide +kernel
theorem dX7_openAll_45 : decode cX7_openAll 45 = .ok (.istore_n 1, 1) := by decide +kernel
theorem dX7_openAll_46 : decode cX7_openAll 46 = .ok (.iload_n 1, 1) := by decide +kernel
theorem dX7_openAll_47 : decode cX7_openAll 47 = .ok (.aload_n 0, 1) := by decide +kernel
theorem dX7_openAll_48 : decode cX7_openAll 48 = .ok (.getfield 124, 3) := by decide +kernel
theorem dX7_openAll_51 : decode cX7_openAll 51 = .ok (.if_icmp .ge 51, 3) := by decide +kernel
theorem dX7_openAll_54 : decode cX7_openAll 54 = .ok (.aload_n 0, 1) := by decide +kernel
theorem dX7_openAll_55 : decode cX7_openAll 55 = .ok (.aload_n 0, 1) := by decide +kernel
theorem dX7_openAll_56 : decode cX7_openAll 56 = .ok (.getfield 22, 3) := by decide +kernel
theorem dX7_openAll_59 : decode cX7_openAll 59 = .ok (.iconst 4, 1) := by decide +kernel
theorem dX7_openAll_60 : decode cX7_openAll 60 = .ok (.iload_n 1, 1) := by decide +kernel
theorem dX7_openAll_61 : decode cX7_openAll 61 = .ok (.imul, 1) := by decide +kernel
theorem dX7_openAll_62 : decode cX7_openAll 62 = .ok (.iaload, 1) := by decide +kernel
theorem dX7_openAll_63 : decode cX7_openAll 63 = .ok (.aload_n 0, 1) := by decide +kernel
theorem dX7_openAll_64 : decode cX7_openAll 64 = .ok (.getfield 22, 3) := by decide +kernel
theorem dX7_openAll_67 : decode cX7_openAll 67 = .ok (.iconst 4, 1) := by decide +kernel
theorem dX7_openAll_68 : decode cX7_openAll 68 = .ok (.iload_n 1, 1) := by decide +kernel
theorem dX7_openAll_69 : decode cX7_openAll 69 = .ok (.imul, 1) := by decide +kernel
theorem dX7_openAll_70 : decode cX7_openAll 70 = .ok (.iconst 1, 1) := by decide +kernel
theorem dX7_openAll_71 : decode cX7_openAll 71 = .ok (.iadd, 1) := by decide +kernel
theorem dX7_openAll_72 : decode cX7_openAll 72 = .ok (.iaload, 1) := by decide +kernel
theorem dX7_openAll_73 : decode cX7_openAll 73 = .ok (.aload_n 0, 1) := by decide +kernel
theorem dX7_openAll_74 : decode cX7_openAll 74 = .ok (.getfield 22, 3) := by decide +kernel
theorem dX7_openAll_77 : decode cX7_openAll 77 = .ok (.iconst 4, 1) := by decide +kernel
theorem dX7_openAll_78 : decode cX7_openAll 78 = .ok (.iload_n 1, 1) := by decide +kernel
theorem dX7_openAll_79 : decode cX7_openAll 79 = .ok (.imul, 1) := by decide +kernel
theorem dX7_openAll_80 : decode cX7_openAll 80 = .ok (.iconst 2, 1) := by decide +kernel
theorem dX7_openAll_81 : decode cX7_openAll 81 = .ok (.iadd, 1) := by decide +kernel
theorem dX7_openAll_82 : decode cX7_openAll 82 = .ok (.iaload, 1) := by decide +kernel
theorem dX7_openAll_83 : decode cX7_openAll 83 = .ok (.aload_n 0, 1) := by decide +kernel
theorem dX7_openAll_84 : decode cX7_openAll 84 = .ok (.getfield 22, 3) := by decide +kernel
theorem dX7_openAll_87 : decode cX7_openAll 87 = .ok (.iconst 4, 1) := by decide +kernel
theorem dX7_openAll_88 : decode cX7_openAll 88 = .ok (.iload_n 1, 1) := by decide +kernel
theorem dX7_openAll_89 : decode cX7_openAll 89 = .ok (.imul, 1) := by decide +kernel
theorem dX7_openAll_90 : decode cX7_openAll 90 = .ok (.iconst 3, 1) := by decide +kernel
theorem dX7_openAll_91 : decode cX7_openAll 91 = .ok (.iadd, 1) := by decide +kernel
theorem dX7_openAll_92 : decode cX7_openAll 92 = .ok (.iaload, 1) := by decide +kernel
theorem dX7_openAll_93 : decode cX7_openAll 93 = .ok (.invokevirtual 73, 3) := by decide +kernel
theorem dX7_openAll_96 : decode cX7_openAll 96 = .ok (.iinc 1 1, 3) := by decide +kernel
theorem dX7_openAll_99 : decode cX7_openAll 99 = .ok (.goto (-53), 3) := by decide +kernel
theorem dX7_openAll_102 : decode cX7_openAll 102 = .ok (.aload_n 0, 1) := by decide +kernel
theorem dX7_openAll_103 : decode cX7_openAll 103 = .ok (.iconst 0, 1) := by decide +kernel
theorem dX7_openAll_104 : decode cX7_openAll 104 = .ok (.putfield 114, 3) := by decide +kernel
theorem dX7_openAll_107 : decode cX7_openAll 107 = .ok (.aload_n 0, 1) := by decide +kernel
theorem dX7_openAll_108 : decode cX7_openAll 108 = .ok (.getfield 7, 3) := by decide +kernel
theorem dX7_openAll_111 : decode cX7_openAll 111 = .ok (.iconst 0, 1) := by decide +kernel
theorem dX7_openAll_112 : decode cX7_openAll 112 = .ok (.iaload, 1) := by decide +kernel
theorem dX7_openAll_113 : decode cX7_openAll 113 = .ok (.ireturn, 1) := by decide +kernel
theorem dX7_undo_0 : decode cX7_undo 0 = .ok (.aload_n 0, 1) := by decide +kernel
theorem dX7_undo_1 : decode cX7_undo 1 = .ok (.iconst 0, 1) := by decide +kernel
theorem dX7_undo_2 : decode cX7_undo 2 = .ok (.putfield 25, 3) := by decide +kernel
theorem dX7_undo_5 : decode cX7_undo 5 = .ok (.aload_n 0, 1) := by decide +kernel
theorem dX7_undo_6 : decode cX7_undo 6 = .ok (.getfield 29, 3) := by decide +kernel
theorem dX7_undo_9 : decode cX7_undo 9 = .ok (.ifCond .ne 9, 3) := by decide +kernel
theorem dX7_undo_12 : decode cX7_undo 12 = .ok (.aload_n 0, 1) := by decide +kernel
theorem dX7_undo_13 : decode cX7_undo 13 = .ok (.iconst 1, 1) := by decide +kernel
theorem dX7_undo_14 : decode cX7_undo 14 = .ok (.invokevirtual 67, 3) := by decide +kernel
theorem dX7_undo_17 : decode cX7_undo 17 = .ok (.ireturn, 1) := by decide +kernel
theorem dX7_undo_18 : decode cX7_undo 18 = .ok (.aload_n 0, 1) := by decide +kernel
theorem dX7_undo_19 : decode cX7_undo 19 = .ok (.dup, 1) := by decide +kernel
theorem dX7_undo_20 : decode cX7_undo 20 = .ok (.getfield 29, 3) := by decide +kernel
theorem dX7_undo_23 : decode cX7_undo 23 = .ok (.iconst 1, 1) := by decide +kernel
theorem dX7_undo_24 : decode cX7_undo 24 = .ok (.isub, 1) := by decide +kernel
theorem dX7_undo_25 : decode cX7_undo 25 = .ok (.putfield 29, 3) := by decide +kernel
theorem dX7_undo_28 : decode cX7_undo 28 = .ok (.iconst 0, 1) := by decide +kernel
theorem dX7_undo_29 : decode cX7_undo 29 = .ok (.istore_n 1, 1) := by decide +kernel
theorem dX7_undo_30 : decode cX7_undo 30 = .ok (.iload_n 1, 1) := by decide +kernel
theorem dX7_undo_31 : decode cX7_undo 31 = .ok (.sipush 251, 3) := by decide +kernel
theorem dX7_undo_34 : decode cX7_undo 34 = .ok (.if_icmp .ge 30, 3) := by decide +kernel
theorem dX7_undo_37 : decode cX7_undo 37 = .ok (.aload_n 0, 1) := by decide +kernel
theorem dX7_undo_38 : decode cX7_undo 38 = .ok (.getfield 7, 3) := by decide +kernel
theorem dX7_undo_41 : decode cX7_undo 41 = .ok (.iload_n 1, 1) := by decide +kernel
theorem dX7_undo_42 : decode cX7_undo 42 = .ok (.aload_n 0, 1) := by decide +kernel
theorem dX7_undo_43 : decode cX7_undo 43 = .ok (.getfield 13, 3) := by decide +kernel
theorem dX7_undo_46 : decode cX7_undo 46 = .ok (.sipush 251, 3) := by decide +kernel
theorem dX7_undo_49 : decode cX7_undo 49 = .ok (.aload_n 0, 1) := by decide +kernel
theorem dX7_undo_50 : decode cX7_undo 50 = .ok (.getfield 29, 3) := by decide +kernel
theorem dX7_undo_53 : decode cX7_undo 53 = .ok (.imul, 1) := by decide +kernel
theorem dX7_undo_54 : decode cX7_undo 54 = .ok (.iload_n 1, 1) := by decide +kernel
theorem dX7_undo_55 : decode cX7_undo 55 = .ok (.iadd, 1) := by decide +kernel
theorem dX7_undo_56 : decode cX7_undo 56 = .ok (.iaload, 1) := by decide +kernel
theorem dX7_undo_57 : decode cX7_undo 57 = .ok (.iastore, 1) := by decide +kernel
theorem dX7_undo_58 : decode cX7_undo 58 = .ok (.iinc 1 1, 3) := by decide +kernel
theorem dX7_undo_61 : decode cX7_undo 61 = .ok (.goto (-31), 3) := by decide +kernel
theorem dX7_undo_64 : decode cX7_undo 64 = .ok (.aload_n 0, 1) := by decide +kernel
theorem dX7_undo_65 : decode cX7_undo 65 = .ok (.getfield 29, 3) := by decide +kernel
theorem dX7_undo_68 : decode cX7_undo 68 = .ok (.ireturn, 1) := by decide +kernel
theorem dX7_leaseOf_0 : decode cX7_leaseOf 0 = .ok (.iload_n 1, 1) := by decide +kernel
theorem dX7_leaseOf_1 : decode cX7_leaseOf 1 = .ok (.invokestatic 32, 3) := by decide +kernel
theorem dX7_leaseOf_4 : decode cX7_leaseOf 4 = .ok (.istore_n 3, 1) := by decide +kernel
theorem dX7_leaseOf_5 : decode cX7_leaseOf 5 = .ok (.iload_n 2, 1) := by decide +kernel
theorem dX7_leaseOf_6 : decode cX7_leaseOf 6 = .ok (.iconst 5, 1) := by decide +kernel
theorem dX7_leaseOf_7 : decode cX7_leaseOf 7 = .ok (.if_icmp .ge 12, 3) := by decide +kernel
theorem dX7_leaseOf_10 : decode cX7_leaseOf 10 = .ok (.aload_n 0, 1) := by decide +kernel
theorem dX7_leaseOf_11 : decode cX7_leaseOf 11 = .ok (.getfield 7, 3) := by decide +kernel
theorem dX7_leaseOf_14 : decode cX7_leaseOf 14 = .ok (.iload_n 3, 1) := by decide +kernel
theorem dX7_leaseOf_15 : decode cX7_leaseOf 15 = .ok (.iload_n 2, 1) := by decide +kernel
theorem dX7_leaseOf_16 : decode cX7_leaseOf 16 = .ok (.iadd, 1) := by decide +kernel
theorem dX7_leaseOf_17 : decode cX7_leaseOf 17 = .ok (.iaload, 1) := by decide +kernel
theorem dX7_leaseOf_18 : decode cX7_leaseOf 18 = .ok (.ireturn, 1) := by decide +kernel
theorem dX7_leaseOf_19 : decode cX7_leaseOf 19 = .ok (.iload_n 2, 1) := by decide +kernel
theorem dX7_leaseOf_20 : decode cX7_leaseOf 20 = .ok (.bipush 6, 2) := by decide +kernel
theorem dX7_leaseOf_22 : decode cX7_leaseOf 22 = .ok (.if_icmp .ne 21, 3) := by decide +kernel
theorem dX7_leaseOf_25 : decode cX7_leaseOf 25 = .ok (.aload_n 0, 1) := by decide +kernel
theorem dX7_leaseOf_26 : decode cX7_leaseOf 26 = .ok (.getfield 7, 3) := by decide +kernel
theorem dX7_leaseOf_29 : decode cX7_leaseOf 29 = .ok (.iload_n 3, 1) := by decide +kernel
theorem dX7_leaseOf_30 : decode cX7_leaseOf 30 = .ok (.iconst 3, 1) := by decide +kernel
theorem dX7_leaseOf_31 : decode cX7_leaseOf 31 = .ok (.iadd, 1) := by decide +kernel
theorem dX7_leaseOf_32 : decode cX7_leaseOf 32 = .ok (.iaload, 1) := by decide +kernel
theorem dX7_leaseOf_33 : decode cX7_leaseOf 33 = .ok (.aload_n 0, 1) := by decide +kernel
theorem dX7_leaseOf_34 : decode cX7_leaseOf 34 = .ok (.iload_n 1, 1) := by decide +kernel
theorem dX7_leaseOf_35 : decode cX7_leaseOf 35 = .ok (.iconst 5, 1) := by decide +kernel
theorem dX7_leaseOf_36 : decode cX7_leaseOf 36 = .ok (.invokevirtual 96, 3) := by decide +kernel
theorem dX7_leaseOf_39 : decode cX7_leaseOf 39 = .ok (.isub, 1) := by decide +kernel
theorem dX7_leaseOf_40 : decode cX7_leaseOf 40 = .ok (.goto 9, 3) := by decide +kernel
theorem dX7_leaseOf_43 : decode cX7_leaseOf 43 = .ok (.aload_n 0, 1) := by decide +kernel
theorem dX7_leaseOf_44 : decode cX7_leaseOf 44 = .ok (.iload_n 1, 1) := by decide +kernel
theorem dX7_leaseOf_45 : decode cX7_leaseOf 45 = .ok (.iload_n 2, 1) := by decide +kernel
theorem dX7_leaseOf_46 : decode cX7_leaseOf 46 = .ok (.invokevirtual 96, 3) := by decide +kernel
theorem dX7_leaseOf_49 : decode cX7_leaseOf 49 = .ok (.ireturn, 1) := by decide +kernel
theorem dX7_lease_0 : decode cX7_lease 0 = .ok (.aload_n 0, 1) := by decide +kernel
theorem dX7_lease_1 : decode cX7_lease 1 = .ok (.iconst 0, 1) := by decide +kernel
theorem dX7_lease_2 : decode cX7_lease 2 = .ok (.putfield 25, 3) := by decide +kernel
theorem dX7_lease_5 : decode cX7_lease 5 = .ok (.aload_n 0, 1) := by decide +kernel
theorem dX7_lease_6 : decode cX7_lease 6 = .ok (.iload_n 1, 1) := by decide +kernel
theorem dX7_lease_7 : decode cX7_lease 7 = .ok (.invokevirtual 84, 3) := by decide +kernel
theorem dX7_lease_10 : decode cX7_lease 10 = .ok (.ifCond .ne 9, 3) := by decide +kernel
theorem dX7_lease_13 : decode cX7_lease 13 = .ok (.aload_n 0, 1) := by decide +kernel
theorem dX7_lease_14 : decode cX7_lease 14 = .ok (.iconst 1, 1) := by decide +kernel
theorem dX7_lease_15 : decode cX7_lease 15 = .ok (.invokevirtual 67, 3) := by decide +kernel
theorem dX7_lease_18 : decode cX7_lease 18 = .ok (.ireturn, 1) := by decide +kernel
theorem dX7_lease_19 : decode cX7_lease 19 = .ok (.iload_n 2, 1) := by decide +kernel
theorem dX7_lease_20 : decode cX7_lease 20 = .ok (.iconst 0, 1) := by decide +kernel
theorem dX7_lease_21 : decode cX7_lease 21 = .ok (.bipush 8, 2) := by decide +kernel
theorem dX7_lease_23 : decode cX7_lease 23 = .ok (.invokestatic 42, 3) := by decide +kernel
theorem dX7_lease_26 : decode cX7_lease 26 = .ok (.ifCond .eq 12, 3) := by decide +kernel
theorem dX7_lease_29 : decode cX7_lease 29 = .ok (.aload_n 0, 1) := by decide +kernel
theorem dX7_lease_30 : decode cX7_lease 30 = .ok (.iload_n 1, 1) := by decide +kernel
theorem dX7_lease_31 : decode cX7_lease 31 = .ok (.iload_n 2, 1) := by decide +kernel
theorem dX7_lease_32 : decode cX7_lease 32 = .ok (.invokevirtual 140, 3) := by decide +kernel
theorem dX7_lease_35 : decode cX7_lease 35 = .ok (.goto 8, 3) := by decide +kernel
theorem dX7_lease_38 : decode cX7_lease 38 = .ok (.aload_n 0, 1) := by decide +kernel
theorem dX7_lease_39 : decode cX7_lease 39 = .ok (.iconst 2, 1) := by decide +kernel
theorem dX7_lease_40 : decode cX7_lease 40 = .ok (.invokevirtual 67, 3) := by decide +kernel
theorem dX7_lease_43 : decode cX7_lease 43 = .ok (.ireturn, 1) := by decide +kernel
theorem dX7_sublease_0 : decode cX7_sublease 0 = .ok (.aload_n 0, 1) := by decide +kernel
theorem dX7_sublease_1 : decode cX7_sublease 1 = .ok (.iconst 0, 1) := by decide +kernel
theorem dX7_sublease_2 : decode cX7_sublease 2 = .ok (.putfield 25, 3) := by decide +kernel
theorem dX7_sublease_5 : decode cX7_sublease 5 = .ok (.iload_n 1, 1) := by decide +kernel
theorem dX7_sublease_6 : decode cX7_sublease 6 = .ok (.iconst 0, 1) := by decide +kernel
theorem dX7_sublease_7 : decode cX7_sublease 7 = .ok (.aload_n 0, 1) := by decide +kernel
theorem dX7_sublease_8 : decode cX7_sublease 8 = .ok (.getfield 7, 3) := by decide +kernel
theorem dX7_sublease_11 : decode cX7_sublease 11 = .ok (.iconst 1, 1) := by decide +kernel
theorem dX7_sublease_12 : decode cX7_sublease 12 = .ok (.iaload, 1) := by decide +kernel
theorem dX7_sublease_13 : decode cX7_sublease 13 = .ok (.iconst 1, 1) := by decide +kernel
theorem dX7_sublease_14 : decode cX7_sublease 14 = .ok (.isub, 1) := by decide +kernel
theorem dX7_sublease_15 : decode cX7_sublease 15 = .ok (.invokestatic 42, 3) := by decide +kernel
theorem dX7_sublease_18 : decode cX7_sublease 18 = .ok (.ifCond .ne 9, 3) := by decide +kernel
theorem dX7_sublease_21 : decode cX7_sublease 21 = .ok (.aload_n 0, 1) := by decide +kernel
theorem dX7_sublease_22 : decode cX7_sublease 22 = .ok (.iconst 1, 1) := by decide +kernel
theorem dX7_sublease_23 : decode cX7_sublease 23 = .ok (.invokevirtual 67, 3) := by decide +kernel
theorem dX7_sublease_26 : decode cX7_sublease 26 = .ok (.ireturn, 1) := by decide +kernel
theorem dX7_sublease_27 : decode cX7_sublease 27 = .ok (.iload_n 2, 1) := by decide +kernel
theorem dX7_sublease_28 : decode cX7_sublease 28 = .ok (.iconst 0, 1) := by decide +kernel
theorem dX7_sublease_29 : decode cX7_sublease 29 = .ok (.iconst 5, 1) := by decide +kernel
theorem dX7_sublease_30 : decode cX7_sublease 30 = .ok (.invokestatic 42, 3) := by decide +kernel
theorem dX7_sublease_33 : decode cX7_sublease 33 = .ok (.ifCond .eq 17, 3) := by decide +kernel
theorem dX7_sublease_36 : decode cX7_sublease 36 = .ok (.aload_n 0, 1) := by decide +kernel
theorem dX7_sublease_37 : decode cX7_sublease 37 = .ok (.getfield 7, 3) := by decide +kernel
theorem dX7_sublease_40 : decode cX7_sublease 40 = .ok (.iload_n 1, 1) := by decide +kernel
theorem dX7_sublease_41 : decode cX7_sublease 41 = .ok (.invokestatic 77, 3) := by decide +kernel
theorem dX7_sublease_44 : decode cX7_sublease 44 = .ok (.iload_n 2, 1) := by decide +kernel
theorem dX7_sublease_45 : decode cX7_sublease 45 = .ok (.iadd, 1) := by decide +kernel
theorem dX7_sublease_46 : decode cX7_sublease 46 = .ok (.iaload, 1) := by decide +kernel
theorem dX7_sublease_47 : decode cX7_sublease 47 = .ok (.goto 8, 3) := by decide +kernel
theorem dX7_sublease_50 : decode cX7_sublease 50 = .ok (.aload_n 0, 1) := by decide +kernel
theorem dX7_sublease_51 : decode cX7_sublease 51 = .ok (.iconst 2, 1) := by decide +kernel
theorem dX7_sublease_52 : decode cX7_sublease 52 = .ok (.invokevirtual 67, 3) := by decide +kernel
theorem dX7_sublease_55 : decode cX7_sublease 55 = .ok (.ireturn, 1) := by decide +kernel
theorem dX7_moved_0 : decode cX7_moved 0 = .ok (.aload_n 0, 1) := by decide +kernel
theorem dX7_moved_1 : decode cX7_moved 1 = .ok (.getfield 7, 3) := by decide +kernel
theorem dX7_moved_4 : decode cX7_moved 4 = .ok (.iload_n 1, 1) := by decide +kernel
theorem dX7_moved_5 : decode cX7_moved 5 = .ok (.invokestatic 32, 3) := by decide +kernel
theorem dX7_moved_8 : decode cX7_moved 8 = .ok (.iconst 5, 1) := by decide +kernel
theorem dX7_moved_9 : decode cX7_moved 9 = .ok (.iadd, 1) := by decide +kernel
theorem dX7_moved_10 : decode cX7_moved 10 = .ok (.iload_n 2, 1) := by decide +kernel
theorem dX7_moved_11 : decode cX7_moved 11 = .ok (.iadd, 1) := by decide +kernel
theorem dX7_moved_12 : decode cX7_moved 12 = .ok (.iaload, 1) := by decide +kernel
theorem dX7_moved_13 : decode cX7_moved 13 = .ok (.ireturn, 1) := by decide +kernel
theorem dX7_movement_0 : decode cX7_movement 0 = .ok (.aload_n 0, 1) := by decide +kernel
theorem dX7_movement_1 : decode cX7_movement 1 = .ok (.iconst 0, 1) := by decide +kernel
theorem dX7_movement_2 : decode cX7_movement 2 = .ok (.putfield 25, 3) := by decide +kernel
theorem dX7_movement_5 : decode cX7_movement 5 = .ok (.aload_n 0, 1) := by decide +kernel
theorem dX7_movement_6 : decode cX7_movement 6 = .ok (.iload_n 1, 1) := by decide +kernel
theorem dX7_movement_7 : decode cX7_movement 7 = .ok (.invokevirtual 84, 3) := by decide +kernel
theorem dX7_movement_10 : decode cX7_movement 10 = .ok (.ifCond .ne 9, 3) := by decide +kernel
theorem dX7_movement_13 : decode cX7_movement 13 = .ok (.aload_n 0, 1) := by decide +kernel
theorem dX7_movement_14 : decode cX7_movement 14 = .ok (.iconst 1, 1) := by decide +kernel
theorem dX7_movement_15 : decode cX7_movement 15 = .ok (.invokevirtual 67, 3) := by decide +kernel
theorem dX7_movement_18 : decode cX7_movement 18 = .ok (.ireturn, 1) := by decide +kernel
theorem dX7_movement_19 : decode cX7_movement 19 = .ok (.iload_n 2, 1) := by decide +kernel
theorem dX7_movement_20 : decode cX7_movement 20 = .ok (.iconst 0, 1) := by decide +kernel
theorem dX7_movement_21 : decode cX7_movement 21 = .ok (.bipush 16, 2) := by decide +kernel
theorem dX7_movement_23 : decode cX7_movement 23 = .ok (.invokestatic 42, 3) := by decide +kernel
theorem dX7_movement_26 : decode cX7_movement 26 = .ok (.ifCond .eq 12, 3) := by decide +kernel
theorem dX7_movement_29 : decode cX7_movement 29 = .ok (.aload_n 0, 1) := by decide +kernel
theorem dX7_movement_30 : decode cX7_movement 30 = .ok (.iload_n 1, 1) := by decide +kernel
theorem dX7_movement_31 : decode cX7_movement 31 = .ok (.iload_n 2, 1) := by decide +kernel
theorem dX7_movement_32 : decode cX7_movement 32 = .ok (.invokevirtual 143, 3) := by decide +kernel
theorem dX7_movement_35 : decode cX7_movement 35 = .ok (.goto 8, 3) := by decide +kernel
theorem dX7_movement_38 : decode cX7_movement 38 = .ok (.aload_n 0, 1) := by decide +kernel
theorem dX7_movement_39 : decode cX7_movement 39 = .ok (.iconst 2, 1) := by decide +kernel
theorem dX7_movement_40 : decode cX7_movement 40 = .ok (.invokevirtual 67, 3) := by decide +kernel
theorem dX7_movement_43 : decode cX7_movement 43 = .ok (.ireturn, 1) := by decide +kernel
theorem dX7_profitOf_0 : decode cX7_profitOf 0 = .ok (.aload_n 0, 1) := by decide +kernel
theorem dX7_profitOf_1 : decode cX7_profitOf 1 = .ok (.iload_n 1, 1) := by decide +kernel
theorem dX7_profitOf_2 : decode cX7_profitOf 2 = .ok (.bipush 16, 2) := by decide +kernel
theorem dX7_profitOf_4 : decode cX7_profitOf 4 = .ok (.invokevirtual 143, 3) := by decide +kernel
theorem dX7_profitOf_7 : decode cX7_profitOf 7 = .ok (.ineg, 1) := by decide +kernel
theorem dX7_profitOf_8 : decode cX7_profitOf 8 = .ok (.istore_n 3, 1) := by decide +kernel
theorem dX7_profitOf_9 : decode cX7_profitOf 9 = .ok (.iload_n 2, 1) := by decide +kernel
theorem dX7_profitOf_10 : decode cX7_profitOf 10 = .ok (.iconst 1, 1) := by decide +kernel
theorem dX7_profitOf_11 : decode cX7_profitOf 11 = .ok (.if_icmp .ne 59, 3) := by decide +kernel
theorem dX7_profitOf_14 : decode cX7_profitOf 14 = .ok (.iload_n 3, 1) := by decide +kernel
theorem dX7_profitOf_15 : decode cX7_profitOf 15 = .ok (.aload_n 0, 1) := by decide +kernel
theorem dX7_profitOf_16 : decode cX7_profitOf 16 = .ok (.getfield 7, 3) := by decide +kernel
theorem dX7_profitOf_19 : decode cX7_profitOf 19 = .ok (.iload_n 1, 1) := by decide +kernel
theorem dX7_profitOf_20 : decode cX7_profitOf 20 = .ok (.invokestatic 32, 3) := by decide +kernel
theorem dX7_profitOf_23 : decode cX7_profitOf 23 = .ok (.iconst 4, 1) := by decide +kernel
theorem dX7_profitOf_24 : decode cX7_profitOf 24 = .ok (.iadd, 1) := by decide +kernel
theorem dX7_profitOf_25 : decode cX7_profitOf 25 = .ok (.iaload, 1) := by decide +kernel
theorem dX7_profitOf_26 : decode cX7_profitOf 26 = .ok (.iadd, 1) := by decide +kernel
theorem dX7_profitOf_27 : decode cX7_profitOf 27 = .ok (.aload_n 0, 1) := by decide +kernel
theorem dX7_profitOf_28 : decode cX7_profitOf 28 = .ok (.iload_n 1, 1) := by decide +kernel
theorem dX7_profitOf_29 : decode cX7_profitOf 29 = .ok (.iconst 5, 1) := by decide +kernel
theorem dX7_profitOf_30 : decode cX7_profitOf 30 = .ok (.invokevirtual 96, 3) := by decide +kernel
theorem dX7_profitOf_33 : decode cX7_profitOf 33 = .ok (.iadd, 1) := by decide +kernel
theorem dX7_profitOf_34 : decode cX7_profitOf 34 = .ok (.aload_n 0, 1) := by decide +kernel
theorem dX7_profitOf_35 : decode cX7_profitOf 35 = .ok (.getfield 7, 3) := by decide +kernel
theorem dX7_profitOf_38 : decode cX7_profitOf 38 = .ok (.iload_n 1, 1) := by decide +kernel
theorem dX7_profitOf_39 : decode cX7_profitOf 39 = .ok (.invokestatic 32, 3) := by decide +kernel
theorem dX7_profitOf_42 : decode cX7_profitOf 42 = .ok (.iconst 3, 1) := by decide +kernel
theorem dX7_profitOf_43 : decode cX7_profitOf 43 = .ok (.iadd, 1) := by decide +kernel
theorem dX7_profitOf_44 : decode cX7_profitOf 44 = .ok (.iaload, 1) := by decide +kernel
theorem dX7_profitOf_45 : decode cX7_profitOf 45 = .ok (.isub, 1) := by decide +kernel
theorem dX7_profitOf_46 : decode cX7_profitOf 46 = .ok (.aload_n 0, 1) := by decide +kernel
theorem dX7_profitOf_47 : decode cX7_profitOf 47 = .ok (.iload_n 1, 1) := by decide +kernel
theorem dX7_profitOf_48 : decode cX7_profitOf 48 = .ok (.bipush 13, 2) := by decide +kernel
theorem dX7_profitOf_50 : decode cX7_profitOf 50 = .ok (.invokevirtual 143, 3) := by decide +kernel
theorem dX7_profitOf_53 : decode cX7_profitOf 53 = .ok (.iadd, 1) := by decide +kernel
theorem dX7_profitOf_54 : decode cX7_profitOf 54 = .ok (.aload_n 0, 1) := by decide +kernel
theorem dX7_profitOf_55 : decode cX7_profitOf 55 = .ok (.iload_n 1, 1) := by decide +kernel
theorem dX7_profitOf_56 : decode cX7_profitOf 56 = .ok (.iconst 2, 1) := by decide +kernel
theorem dX7_profitOf_57 : decode cX7_profitOf 57 = .ok (.invokevirtual 143, 3) := by decide +kernel
theorem dX7_profitOf_60 : decode cX7_profitOf 60 = .ok (.isub, 1) := by decide +kernel
theorem dX7_profitOf_61 : decode cX7_profitOf 61 = .ok (.aload_n 0, 1) := by decide +kernel
theorem dX7_profitOf_62 : decode cX7_profitOf 62 = .ok (.iload_n 1, 1) := by decide +kernel
theorem dX7_profitOf_63 : decode cX7_profitOf 63 = .ok (.bipush 15, 2) := by decide +kernel
theorem dX7_profitOf_65 : decode cX7_profitOf 65 = .ok (.invokevirtual 143, 3) := by decide +kernel
theorem dX7_profitOf_68 : decode cX7_profitOf 68 = .ok (.isub, 1) := by decide +kernel
theorem dX7_profitOf_69 : decode cX7_profitOf 69 = .ok (.ireturn, 1) := by decide +kernel
theorem dX7_profitOf_70 : decode cX7_profitOf 70 = .ok (.aload_n 0, 1) := by decide +kernel
theorem dX7_profitOf_71 : decode cX7_profitOf 71 = .ok (.iload_n 1, 1) := by decide +kernel
theorem dX7_profitOf_72 : decode cX7_profitOf 72 = .ok (.iconst 1, 1) := by decide +kernel
theorem dX7_profitOf_73 : decode cX7_profitOf 73 = .ok (.invokevirtual 143, 3) := by decide +kernel
theorem dX7_profitOf_76 : decode cX7_profitOf 76 = .ok (.ineg, 1) := by decide +kernel
theorem dX7_profitOf_77 : decode cX7_profitOf 77 = .ok (.aload_n 0, 1) := by decide +kernel
theorem dX7_profitOf_78 : decode cX7_profitOf 78 = .ok (.iload_n 1, 1) := by decide +kernel
theorem dX7_profitOf_79 : decode cX7_profitOf 79 = .ok (.iconst 3, 1) := by decide +kernel
theorem dX7_profitOf_80 : decode cX7_profitOf 80 = .ok (.invokevirtual 143, 3) := by decide +kernel
theorem dX7_profitOf_83 : decode cX7_profitOf 83 = .ok (.isub, 1) := by decide +kernel
theorem dX7_profitOf_84 : decode cX7_profitOf 84 = .ok (.aload_n 0, 1) := by decide +kernel
theorem dX7_profitOf_85 : decode cX7_profitOf 85 = .ok (.iload_n 1, 1) := by decide +kernel
theorem dX7_profitOf_86 : decode cX7_profitOf 86 = .ok (.iconst 4, 1) := by decide +kernel
theorem dX7_profitOf_87 : decode cX7_profitOf 87 = .ok (.invokevirtual 143, 3) := by decide +kernel
theorem dX7_profitOf_90 : decode cX7_profitOf 90 = .ok (.iadd, 1) := by decide +kernel
theorem dX7_profitOf_91 : decode cX7_profitOf 91 = .ok (.istore 4, 2) := by decide +kernel
theorem dX7_profitOf_93 : decode cX7_profitOf 93 = .ok (.aload_n 0, 1) := by decide +kernel
theorem dX7_profitOf_94 : decode cX7_profitOf 94 = .ok (.iload_n 1, 1) := by decide +kernel
theorem dX7_profitOf_95 : decode cX7_profitOf 95 = .ok (.bipush 6, 2) := by decide +kernel
theorem dX7_profitOf_97 : decode cX7_profitOf 97 = .ok (.invokevirtual 143, 3) := by decide +kernel
theorem dX7_profitOf_100 : decode cX7_profitOf 100 = .ok (.ineg, 1) := by decide +kernel
theorem dX7_profitOf_101 : decode cX7_profitOf 101 = .ok (.aload_n 0, 1) := by decide +kernel
theorem dX7_profitOf_102 : decode cX7_profitOf 102 = .ok (.iload_n 1, 1) := by decide +kernel
theorem dX7_profitOf_103 : decode cX7_profitOf 103 = .ok (.bipush 7, 2) := by decide +kernel
theorem dX7_profitOf_105 : decode cX7_profitOf 105 = .ok (.invokevirtual 143, 3) := by decide +kernel
theorem dX7_profitOf_108 : decode cX7_profitOf 108 = .ok (.iadd, 1) := by decide +kernel
theorem dX7_profitOf_109 : decode cX7_profitOf 109 = .ok (.aload_n 0, 1) := by decide +kernel
theorem dX7_profitOf_110 : decode cX7_profitOf 110 = .ok (.iload_n 1, 1) := by decide +kernel
theorem dX7_profitOf_111 : decode cX7_profitOf 111 = .ok (.bipush 8, 2) := by decide +kernel
theorem dX7_profitOf_113 : decode cX7_profitOf 113 = .ok (.invokevirtual 143, 3) := by decide +kernel
theorem dX7_profitOf_116 : decode cX7_profitOf 116 = .ok (.isub, 1) := by decide +kernel
theorem dX7_profitOf_117 : decode cX7_profitOf 117 = .ok (.aload_n 0, 1) := by decide +kernel
theorem dX7_profitOf_118 : decode cX7_profitOf 118 = .ok (.iload_n 1, 1) := by decide +kernel
theorem dX7_profitOf_119 : decode cX7_profitOf 119 = .ok (.bipush 9, 2) := by decide +kernel
theorem dX7_profitOf_121 : decode cX7_profitOf 121 = .ok (.invokevirtual 143, 3) := by decide +kernel
theorem dX7_profitOf_124 : decode cX7_profitOf 124 = .ok (.isub, 1) := by decide +kernel
theorem dX7_profitOf_125 : decode cX7_profitOf 125 = .ok (.aload_n 0, 1) := by decide +kernel
theorem dX7_profitOf_126 : decode cX7_profitOf 126 = .ok (.iload_n 1, 1) := by decide +kernel
theorem dX7_profitOf_127 : decode cX7_profitOf 127 = .ok (.bipush 10, 2) := by decide +kernel
theorem dX7_profitOf_129 : decode cX7_profitOf 129 = .ok (.invokevirtual 143, 3) := by decide +kernel
theorem dX7_profitOf_132 : decode cX7_profitOf 132 = .ok (.isub, 1) := by decide +kernel
theorem dX7_profitOf_133 : decode cX7_profitOf 133 = .ok (.istore 5, 2) := by decide +kernel
theorem dX7_profitOf_135 : decode cX7_profitOf 135 = .ok (.iload_n 3, 1) := by decide +kernel
theorem dX7_profitOf_136 : decode cX7_profitOf 136 = .ok (.iload 4, 2) := by decide +kernel
theorem dX7_profitOf_138 : decode cX7_profitOf 138 = .ok (.iadd, 1) := by decide +kernel
theorem dX7_profitOf_139 : decode cX7_profitOf 139 = .ok (.iload 5, 2) := by decide +kernel
theorem dX7_profitOf_141 : decode cX7_profitOf 141 = .ok (.iadd, 1) := by decide +kernel
theorem dX7_profitOf_142 : decode cX7_profitOf 142 = .ok (.aload_n 0, 1) := by decide +kernel
theorem dX7_profitOf_143 : decode cX7_profitOf 143 = .ok (.iload_n 1, 1) := by decide +kernel
theorem dX7_profitOf_144 : decode cX7_profitOf 144 = .ok (.bipush 11, 2) := by decide +kernel
theorem dX7_profitOf_146 : decode cX7_profitOf 146 = .ok (.invokevirtual 143, 3) := by decide +kernel
theorem dX7_profitOf_149 : decode cX7_profitOf 149 = .ok (.iadd, 1) := by decide +kernel
theorem dX7_profitOf_150 : decode cX7_profitOf 150 = .ok (.aload_n 0, 1) := by decide +kernel
theorem dX7_profitOf_151 : decode cX7_profitOf 151 = .ok (.iload_n 1, 1) := by decide +kernel
theorem dX7_profitOf_152 : decode cX7_profitOf 152 = .ok (.bipush 12, 2) := by decide +kernel
theorem dX7_profitOf_154 : decode cX7_profitOf 154 = .ok (.invokevirtual 143, 3) := by decide +kernel
theorem dX7_profitOf_157 : decode cX7_profitOf 157 = .ok (.iadd, 1) := by decide +kernel
theorem dX7_profitOf_158 : decode cX7_profitOf 158 = .ok (.aload_n 0, 1) := by decide +kernel
theorem dX7_profitOf_159 : decode cX7_profitOf 159 = .ok (.iload_n 1, 1) := by decide +kernel
theorem dX7_profitOf_160 : decode cX7_profitOf 160 = .ok (.bipush 14, 2) := by decide +kernel
theorem dX7_profitOf_162 : decode cX7_profitOf 162 = .ok (.invokevirtual 143, 3) := by decide +kernel
theorem dX7_profitOf_165 : decode cX7_profitOf 165 = .ok (.isub, 1) := by decide +kernel
theorem dX7_profitOf_166 : decode cX7_profitOf 166 = .ok (.ireturn, 1) := by decide +kernel
theorem dX7_profit_0 : decode cX7_profit 0 = .ok (.aload_n 0, 1) := by decide +kernel
theorem dX7_profit_1 : decode cX7_profit 1 = .ok (.iconst 0, 1) := by decide +kernel
theorem dX7_profit_2 : decode cX7_profit 2 = .ok (.putfield 25, 3) := by decide +kernel
theorem dX7_profit_5 : decode cX7_profit 5 = .ok (.aload_n 0, 1) := by decide +kernel
theorem dX7_profit_6 : decode cX7_profit 6 = .ok (.iload_n 1, 1) := by decide +kernel
theorem dX7_profit_7 : decode cX7_profit 7 = .ok (.invokevirtual 84, 3) := by decide +kernel
theorem dX7_profit_10 : decode cX7_profit 10 = .ok (.ifCond .ne 9, 3) := by decide +kernel
theorem dX7_profit_13 : decode cX7_profit 13 = .ok (.aload_n 0, 1) := by decide +kernel
theorem dX7_profit_14 : decode cX7_profit 14 = .ok (.iconst 1, 1) := by decide +kernel
theorem dX7_profit_15 : decode cX7_profit 15 = .ok (.invokevirtual 67, 3) := by decide +kernel
theorem dX7_profit_18 : decode cX7_profit 18 = .ok (.ireturn, 1) := by decide +kernel
theorem dX7_profit_19 : decode cX7_profit 19 = .ok (.iload_n 2, 1) := by decide +kernel
theorem dX7_profit_20 : decode cX7_profit 20 = .ok (.iconst 0, 1) := by decide +kernel
theorem dX7_profit_21 : decode cX7_profit 21 = .ok (.iconst 1, 1) := by decide +kernel
theorem dX7_profit_22 : decode cX7_profit 22 = .ok (.invokestatic 42, 3) := by decide +kernel
theorem dX7_profit_25 : decode cX7_profit 25 = .ok (.ifCond .eq 12, 3) := by decide +kernel
theorem dX7_profit_28 : decode cX7_profit 28 = .ok (.aload_n 0, 1) := by decide +kernel
theorem dX7_profit_29 : decode cX7_profit 29 = .ok (.iload_n 1, 1) := by decide +kernel
theorem dX7_profit_30 : decode cX7_profit 30 = .ok (.iload_n 2, 1) := by decide +kernel
theorem dX7_profit_31 : decode cX7_profit 31 = .ok (.invokevirtual 146, 3) := by decide +kernel
theorem dX7_profit_34 : decode cX7_profit 34 = .ok (.goto 8, 3) := by decide +kernel
theorem dX7_profit_37 : decode cX7_profit 37 = .ok (.aload_n 0, 1) := by decide +kernel
theorem dX7_profit_38 : decode cX7_profit 38 = .ok (.iconst 2, 1) := by decide +kernel
theorem dX7_profit_39 : decode cX7_profit 39 = .ok (.invokevirtual 67, 3) := by decide +kernel
theorem dX7_profit_42 : decode cX7_profit 42 = .ok (.ireturn, 1) := by decide +kernel
theorem dX7_running_0 : decode cX7_running 0 = .ok (.iconst 0, 1) := by decide +kernel
theorem dX7_running_1 : decode cX7_running 1 = .ok (.istore_n 1, 1) := by decide +kernel
theorem dX7_running_2 : decode cX7_running 2 = .ok (.iconst 0, 1) := by decide +kernel
theorem dX7_running_3 : decode cX7_running 3 = .ok (.istore_n 2, 1) := by decide +kernel
theorem dX7_running_4 : decode cX7_running 4 = .ok (.iload_n 2, 1) := by decide +kernel
theorem dX7_running_5 : decode cX7_running 5 = .ok (.aload_n 0, 1) := by decide +kernel
theorem dX7_running_6 : decode cX7_running 6 = .ok (.getfield 7, 3) := by decide +kernel
theorem dX7_running_9 : decode cX7_running 9 = .ok (.iconst 0, 1) := by decide +kernel
theorem dX7_running_10 : decode cX7_running 10 = .ok (.iaload, 1) := by decide +kernel
theorem dX7_running_11 : decode cX7_running 11 = .ok (.if_icmp .ge 25, 3) := by decide +kernel
theorem dX7_running_14 : decode cX7_running 14 = .ok (.iload_n 1, 1) := by decide +kernel
theorem dX7_running_15 : decode cX7_running 15 = .ok (.aload_n 0, 1) := by decide +kernel
theorem dX7_running_16 : decode cX7_running 16 = .ok (.iload_n 2, 1) := by decide +kernel
theorem dX7_running_17 : decode cX7_running 17 = .ok (.invokevirtual 87, 3) := by decide +kernel
theorem dX7_running_20 : decode cX7_running 20 = .ok (.ifCond .eq 7, 3) := by decide +kernel
theorem dX7_running_23 : decode cX7_running 23 = .ok (.iconst 1, 1) := by decide +kernel
theorem dX7_running_24 : decode cX7_running 24 = .ok (.goto 4, 3) := by decide +kernel
theorem dX7_running_27 : decode cX7_running 27 = .ok (.iconst 0, 1) := by decide +kernel
theorem dX7_running_28 : decode cX7_running 28 = .ok (.iadd, 1) := by decide +kernel
theorem dX7_running_29 : decode cX7_running 29 = .ok (.istore_n 1, 1) := by decide +kernel
theorem dX7_running_30 : decode cX7_running 30 = .ok (.iinc 2 1, 3) := by decide +kernel
theorem dX7_running_33 : decode cX7_running 33 = .ok (.goto (-29), 3) := by decide +kernel
theorem dX7_running_36 : decode cX7_running 36 = .ok (.iload_n 1, 1) := by decide +kernel
theorem dX7_running_37 : decode cX7_running 37 = .ok (.ireturn, 1) := by decide +kernel
theorem dX7_ofLeases_0 : decode cX7_ofLeases 0 = .ok (.iconst 0, 1) := by decide +kernel
theorem dX7_ofLeases_1 : decode cX7_ofLeases 1 = .ok (.istore_n 2, 1) := by decide +kernel
theorem dX7_ofLeases_2 : decode cX7_ofLeases 2 = .ok (.iconst 0, 1) := by decide +kernel
theorem dX7_ofLeases_3 : decode cX7_ofLeases 3 = .ok (.istore_n 3, 1) := by decide +kernel
theorem dX7_ofLeases_4 : decode cX7_ofLeases 4 = .ok (.iload_n 3, 1) := by decide +kernel
theorem dX7_ofLeases_5 : decode cX7_ofLeases 5 = .ok (.aload_n 0, 1) := by decide +kernel
theorem dX7_ofLeases_6 : decode cX7_ofLeases 6 = .ok (.getfield 7, 3) := by decide +kernel
theorem dX7_ofLeases_9 : decode cX7_ofLeases 9 = .ok (.iconst 0, 1) := by decide +kernel
theorem dX7_ofLeases_10 : decode cX7_ofLeases 10 = .ok (.iaload, 1) := by decide +kernel
theorem dX7_ofLeases_11 : decode cX7_ofLeases 11 = .ok (.if_icmp .ge 18, 3) := by decide +kernel
theorem dX7_ofLeases_14 : decode cX7_ofLeases 14 = .ok (.iload_n 2, 1) := by decide +kernel
theorem dX7_ofLeases_15 : decode cX7_ofLeases 15 = .ok (.aload_n 0, 1) := by decide +kernel
theorem dX7_ofLeases_16 : decode cX7_ofLeases 16 = .ok (.iload_n 3, 1) := by decide +kernel
theorem dX7_ofLeases_17 : decode cX7_ofLeases 17 = .ok (.iload_n 1, 1) := by decide +kernel
theorem dX7_ofLeases_18 : decode cX7_ofLeases 18 = .ok (.invokevirtual 140, 3) := by decide +kernel
theorem dX7_ofLeases_21 : decode cX7_ofLeases 21 = .ok (.iadd, 1) := by decide +kernel
theorem dX7_ofLeases_22 : decode cX7_ofLeases 22 = .ok (.istore_n 2, 1) := by decide +kernel
theorem dX7_ofLeases_23 : decode cX7_ofLeases 23 = .ok (.iinc 3 1, 3) := by decide +kernel
theorem dX7_ofLeases_26 : decode cX7_ofLeases 26 = .ok (.goto (-22), 3) := by decide +kernel
theorem dX7_ofLeases_29 : decode cX7_ofLeases 29 = .ok (.iload_n 2, 1) := by decide +kernel
theorem dX7_ofLeases_30 : decode cX7_ofLeases 30 = .ok (.ireturn, 1) := by decide +kernel
theorem dX7_profits_0 : decode cX7_profits 0 = .ok (.iconst 0, 1) := by decide +kernel
theorem dX7_profits_1 : decode cX7_profits 1 = .ok (.istore_n 1, 1) := by decide +kernel
theorem dX7_profits_2 : decode cX7_profits 2 = .ok (.iconst 0, 1) := by decide +kernel
theorem dX7_profits_3 : decode cX7_profits 3 = .ok (.istore_n 2, 1) := by decide +kernel
theorem dX7_profits_4 : decode cX7_profits 4 = .ok (.iload_n 2, 1) := by decide +kernel
theorem dX7_profits_5 : decode cX7_profits 5 = .ok (.aload_n 0, 1) := by decide +kernel
theorem dX7_profits_6 : decode cX7_profits 6 = .ok (.getfield 7, 3) := by decide +kernel
theorem dX7_profits_9 : decode cX7_profits 9 = .ok (.iconst 0, 1) := by decide +kernel
theorem dX7_profits_10 : decode cX7_profits 10 = .ok (.iaload, 1) := by decide +kernel
theorem dX7_profits_11 : decode cX7_profits 11 = .ok (.if_icmp .ge 18, 3) := by decide +kernel
theorem dX7_profits_14 : decode cX7_profits 14 = .ok (.iload_n 1, 1) := by decide +kernel
theorem dX7_profits_15 : decode cX7_profits 15 = .ok (.aload_n 0, 1) := by decide +kernel
theorem dX7_profits_16 : decode cX7_profits 16 = .ok (.iload_n 2, 1) := by decide +kernel
theorem dX7_profits_17 : decode cX7_profits 17 = .ok (.iconst 0, 1) := by decide +kernel
theorem dX7_profits_18 : decode cX7_profits 18 = .ok (.invokevirtual 146, 3) := by decide +kernel
theorem dX7_profits_21 : decode cX7_profits 21 = .ok (.iadd, 1) := by decide +kernel
theorem dX7_profits_22 : decode cX7_profits 22 = .ok (.istore_n 1, 1) := by decide +kernel
theorem dX7_profits_23 : decode cX7_profits 23 = .ok (.iinc 2 1, 3) := by decide +kernel
theorem dX7_profits_26 : decode cX7_profits 26 = .ok (.goto (-22), 3) := by decide +kernel
theorem dX7_profits_29 : decode cX7_profits 29 = .ok (.iload_n 1, 1) := by decide +kernel
theorem dX7_profits_30 : decode cX7_profits 30 = .ok (.ireturn, 1) := by decide +kernel
theorem dX7_shortest_0 : decode cX7_shortest 0 = .ok (.iconst (-1), 1) := by decide +kernel
theorem dX7_shortest_1 : decode cX7_shortest 1 = .ok (.istore_n 1, 1) := by decide +kernel
theorem dX7_shortest_2 : decode cX7_shortest 2 = .ok (.iconst 0, 1) := by decide +kernel
theorem dX7_shortest_3 : decode cX7_shortest 3 = .ok (.istore_n 2, 1) := by decide +kernel
theorem dX7_shortest_4 : decode cX7_shortest 4 = .ok (.iload_n 2, 1) := by decide +kernel
theorem dX7_shortest_5 : decode cX7_shortest 5 = .ok (.aload_n 0, 1) := by decide +kernel
theorem dX7_shortest_6 : decode cX7_shortest 6 = .ok (.getfield 7, 3) := by decide +kernel
theorem dX7_shortest_9 : decode cX7_shortest 9 = .ok (.iconst 0, 1) := by decide +kernel
theorem dX7_shortest_10 : decode cX7_shortest 10 = .ok (.iaload, 1) := by decide +kernel
theorem dX7_shortest_11 : decode cX7_shortest 11 = .ok (.if_icmp .ge 63, 3) := by decide +kernel
theorem dX7_shortest_14 : decode cX7_shortest 14 = .ok (.iload_n 1, 1) := by decide +kernel
theorem dX7_shortest_15 : decode cX7_shortest 15 = .ok (.iconst (-1), 1) := by decide +kernel
theorem dX7_shortest_16 : decode cX7_shortest 16 = .ok (.if_icmp .eq 28, 3) := by decide +kernel
theorem dX7_shortest_19 : decode cX7_shortest 19 = .ok (.aload_n 0, 1) := by decide +kernel
theorem dX7_shortest_20 : decode cX7_shortest 20 = .ok (.getfield 7, 3) := by decide +kernel
theorem dX7_shortest_23 : decode cX7_shortest 23 = .ok (.iload_n 2, 1) := by decide +kernel
theorem dX7_shortest_24 : decode cX7_shortest 24 = .ok (.invokestatic 32, 3) := by decide +kernel
theorem dX7_shortest_27 : decode cX7_shortest 27 = .ok (.iconst 1, 1) := by decide +kernel
theorem dX7_shortest_28 : decode cX7_shortest 28 = .ok (.iadd, 1) := by decide +kernel
theorem dX7_shortest_29 : decode cX7_shortest 29 = .ok (.iaload, 1) := by decide +kernel
theorem dX7_shortest_30 : decode cX7_shortest 30 = .ok (.aload_n 0, 1) := by decide +kernel
theorem dX7_shortest_31 : decode cX7_shortest 31 = .ok (.getfield 7, 3) := by decide +kernel
theorem dX7_shortest_34 : decode cX7_shortest 34 = .ok (.iload_n 1, 1) := by decide +kernel
theorem dX7_shortest_35 : decode cX7_shortest 35 = .ok (.invokestatic 32, 3) := by decide +kernel
theorem dX7_shortest_38 : decode cX7_shortest 38 = .ok (.iconst 1, 1) := by decide +kernel
theorem dX7_shortest_39 : decode cX7_shortest 39 = .ok (.iadd, 1) := by decide +kernel
theorem dX7_shortest_40 : decode cX7_shortest 40 = .ok (.iaload, 1) := by decide +kernel
theorem dX7_shortest_41 : decode cX7_shortest 41 = .ok (.if_icmp .ge 7, 3) := by decide +kernel
theorem dX7_shortest_44 : decode cX7_shortest 44 = .ok (.iconst 1, 1) := by decide +kernel
theorem dX7_shortest_45 : decode cX7_shortest 45 = .ok (.goto 4, 3) := by decide +kernel
theorem dX7_shortest_48 : decode cX7_shortest 48 = .ok (.iconst 0, 1) := by decide +kernel
theorem dX7_shortest_49 : decode cX7_shortest 49 = .ok (.istore_n 3, 1) := by decide +kernel
theorem dX7_shortest_50 : decode cX7_shortest 50 = .ok (.aload_n 0, 1) := by decide +kernel
theorem dX7_shortest_51 : decode cX7_shortest 51 = .ok (.iload_n 2, 1) := by decide +kernel
theorem dX7_shortest_52 : decode cX7_shortest 52 = .ok (.invokevirtual 87, 3) := by decide +kernel
theorem dX7_shortest_55 : decode cX7_shortest 55 = .ok (.ifCond .eq 11, 3) := by decide +kernel
theorem dX7_shortest_58 : decode cX7_shortest 58 = .ok (.iload_n 3, 1) := by decide +kernel
theorem dX7_shortest_59 : decode cX7_shortest 59 = .ok (.ifCond .eq 7, 3) := by decide +kernel
theorem dX7_shortest_62 : decode cX7_shortest 62 = .ok (.iload_n 2, 1) := by decide +kernel
theorem dX7_shortest_63 : decode cX7_shortest 63 = .ok (.goto 4, 3) := by decide +kernel
theorem dX7_shortest_66 : decode cX7_shortest 66 = .ok (.iload_n 1, 1) := by decide +kernel
theorem dX7_shortest_67 : decode cX7_shortest 67 = .ok (.istore_n 1, 1) := by decide +kernel
theorem dX7_shortest_68 : decode cX7_shortest 68 = .ok (.iinc 2 1, 3) := by decide +kernel
theorem dX7_shortest_71 : decode cX7_shortest 71 = .ok (.goto (-67), 3) := by decide +kernel
theorem dX7_shortest_74 : decode cX7_shortest 74 = .ok (.iload_n 1, 1) := by decide +kernel
theorem dX7_shortest_75 : decode cX7_shortest 75 = .ok (.ireturn, 1) := by decide +kernel
theorem dX7_counted_0 : decode cX7_counted 0 = .ok (.iload_n 1, 1) := by decide +kernel
theorem dX7_counted_1 : decode cX7_counted 1 = .ok (.iconst 3, 1) := by decide +kernel
theorem dX7_counted_2 : decode cX7_counted 2 = .ok (.if_icmp .ge 10, 3) := by decide +kernel
theorem dX7_counted_5 : decode cX7_counted 5 = .ok (.aload_n 0, 1) := by decide +kernel
theorem dX7_counted_6 : decode cX7_counted 6 = .ok (.getfield 7, 3) := by decide +kernel
theorem dX7_counted_9 : decode cX7_counted 9 = .ok (.iload_n 1, 1) := by decide +kernel
theorem dX7_counted_10 : decode cX7_counted 10 = .ok (.iaload, 1) := by decide +kernel
theorem dX7_counted_11 : decode cX7_counted 11 = .ok (.ireturn, 1) := by decide +kernel
theorem dX7_counted_12 : decode cX7_counted 12 = .ok (.iload_n 1, 1) := by decide +kernel
theorem dX7_counted_13 : decode cX7_counted 13 = .ok (.tableswitch 83 3 9 #[43, 48, 55, 61, 67, 73, 78], 43) := by decide +kernel
theorem dX7_counted_56 : decode cX7_counted 56 = .ok (.aload_n 0, 1) := by decide +kernel
theorem dX7_counted_57 : decode cX7_counted 57 = .ok (.invokevirtual 149, 3) := by decide +kernel
theorem dX7_counted_60 : decode cX7_counted 60 = .ok (.ireturn, 1) := by decide +kernel
theorem dX7_counted_61 : decode cX7_counted 61 = .ok (.aload_n 0, 1) := by decide +kernel
theorem dX7_counted_62 : decode cX7_counted 62 = .ok (.bipush 8, 2) := by decide +kernel
theorem dX7_counted_64 : decode cX7_counted 64 = .ok (.invokevirtual 152, 3) := by decide +kernel
theorem dX7_counted_67 : decode cX7_counted 67 = .ok (.ireturn, 1) := by decide +kernel
theorem dX7_counted_68 : decode cX7_counted 68 = .ok (.aload_n 0, 1) := by decide +kernel
theorem dX7_counted_69 : decode cX7_counted 69 = .ok (.iconst 3, 1) := by decide +kernel
theorem dX7_counted_70 : decode cX7_counted 70 = .ok (.invokevirtual 152, 3) := by decide +kernel
theorem dX7_counted_73 : decode cX7_counted 73 = .ok (.ireturn, 1) := by decide +kernel
theorem dX7_counted_74 : decode cX7_counted 74 = .ok (.aload_n 0, 1) := by decide +kernel
theorem dX7_counted_75 : decode cX7_counted 75 = .ok (.iconst 4, 1) := by decide +kernel
theorem dX7_counted_76 : decode cX7_counted 76 = .ok (.invokevirtual 152, 3) := by decide +kernel
theorem dX7_counted_79 : decode cX7_counted 79 = .ok (.ireturn, 1) := by decide +kernel
theorem dX7_counted_80 : decode cX7_counted 80 = .ok (.aload_n 0, 1) := by decide +kernel
theorem dX7_counted_81 : decode cX7_counted 81 = .ok (.iconst 5, 1) := by decide +kernel
theorem dX7_counted_82 : decode cX7_counted 82 = .ok (.invokevirtual 152, 3) := by decide +kernel
theorem dX7_counted_85 : decode cX7_counted 85 = .ok (.ireturn, 1) := by decide +kernel
theorem dX7_counted_86 : decode cX7_counted 86 = .ok (.aload_n 0, 1) := by decide +kernel
theorem dX7_counted_87 : decode cX7_counted 87 = .ok (.invokevirtual 155, 3) := by decide +kernel
theorem dX7_counted_90 : decode cX7_counted 90 = .ok (.ireturn, 1) := by decide +kernel
theorem dX7_counted_91 : decode cX7_counted 91 = .ok (.aload_n 0, 1) := by decide +kernel
theorem dX7_counted_92 : decode cX7_counted 92 = .ok (.invokevirtual 158, 3) := by decide +kernel
theorem dX7_counted_95 : decode cX7_counted 95 = .ok (.ireturn, 1) := by decide +kernel
theorem dX7_counted_96 : decode cX7_counted 96 = .ok (.aload_n 0, 1) := by decide +kernel
theorem dX7_counted_97 : decode cX7_counted 97 = .ok (.getfield 29, 3) := by decide +kernel
theorem dX7_counted_100 : decode cX7_counted 100 = .ok (.ireturn, 1) := by decide +kernel
theorem dX7_count_0 : decode cX7_count 0 = .ok (.aload_n 0, 1) := by decide +kernel
theorem dX7_count_1 : decode cX7_count 1 = .ok (.iconst 0, 1) := by decide +kernel
theorem dX7_count_2 : decode cX7_count 2 = .ok (.putfield 25, 3) := by decide +kernel
theorem dX7_count_5 : decode cX7_count 5 = .ok (.iload_n 1, 1) := by decide +kernel
theorem dX7_count_6 : decode cX7_count 6 = .ok (.iconst 0, 1) := by decide +kernel
theorem dX7_count_7 : decode cX7_count 7 = .ok (.bipush 10, 2) := by decide +kernel
theorem dX7_count_9 : decode cX7_count 9 = .ok (.invokestatic 42, 3) := by decide +kernel
theorem dX7_count_12 : decode cX7_count 12 = .ok (.ifCond .eq 11, 3) := by decide +kernel
theorem dX7_count_15 : decode cX7_count 15 = .ok (.aload_n 0, 1) := by decide +kernel
theorem dX7_count_16 : decode cX7_count 16 = .ok (.iload_n 1, 1) := by decide +kernel
theorem dX7_count_17 : decode cX7_count 17 = .ok (.invokevirtual 161, 3) := by decide +kernel
theorem dX7_count_20 : decode cX7_count 20 = .ok (.goto 8, 3) := by decide +kernel
theorem dX7_count_23 : decode cX7_count 23 = .ok (.aload_n 0, 1) := by decide +kernel
theorem dX7_count_24 : decode cX7_count 24 = .ok (.iconst 1, 1) := by decide +kernel
theorem dX7_count_25 : decode cX7_count 25 = .ok (.invokevirtual 67, 3) := by decide +kernel
theorem dX7_count_28 : decode cX7_count 28 = .ok (.ireturn, 1) := by decide +kernel
theorem dX7_worth_0 : decode cX7_worth 0 = .ok (.aload_n 0, 1) := by decide +kernel
theorem dX7_worth_1 : decode cX7_worth 1 = .ok (.iconst 0, 1) := by decide +kernel
theorem dX7_worth_2 : decode cX7_worth 2 = .ok (.putfield 25, 3) := by decide +kernel
theorem dX7_worth_5 : decode cX7_worth 5 = .ok (.iload_n 1, 1) := by decide +kernel
theorem dX7_worth_6 : decode cX7_worth 6 = .ok (.invokestatic 57, 3) := by decide +kernel
theorem dX7_worth_9 : decode cX7_worth 9 = .ok (.ifCond .eq 29, 3) := by decide +kernel
theorem dX7_worth_12 : decode cX7_worth 12 = .ok (.iload_n 2, 1) := by decide +kernel
theorem dX7_worth_13 : decode cX7_worth 13 = .ok (.iconst 0, 1) := by decide +kernel
theorem dX7_worth_14 : decode cX7_worth 14 = .ok (.bipush 60, 2) := by decide +kernel
theorem dX7_worth_16 : decode cX7_worth 16 = .ok (.invokestatic 42, 3) := by decide +kernel
theorem dX7_worth_19 : decode cX7_worth 19 = .ok (.ifCond .eq 19, 3) := by decide +kernel
theorem dX7_worth_22 : decode cX7_worth 22 = .ok (.iload_n 3, 1) := by decide +kernel
theorem dX7_worth_23 : decode cX7_worth 23 = .ok (.invokestatic 64, 3) := by decide +kernel
theorem dX7_worth_26 : decode cX7_worth 26 = .ok (.ifCond .eq 12, 3) := by decide +kernel
theorem dX7_worth_29 : decode cX7_worth 29 = .ok (.iload_n 1, 1) := by decide +kernel
theorem dX7_worth_30 : decode cX7_worth 30 = .ok (.iload_n 2, 1) := by decide +kernel
theorem dX7_worth_31 : decode cX7_worth 31 = .ok (.iload_n 3, 1) := by decide +kernel
theorem dX7_worth_32 : decode cX7_worth 32 = .ok (.invokestatic 49, 3) := by decide +kernel
theorem dX7_worth_35 : decode cX7_worth 35 = .ok (.goto 8, 3) := by decide +kernel
theorem dX7_worth_38 : decode cX7_worth 38 = .ok (.aload_n 0, 1) := by decide +kernel
theorem dX7_worth_39 : decode cX7_worth 39 = .ok (.iconst 1, 1) := by decide +kernel
theorem dX7_worth_40 : decode cX7_worth 40 = .ok (.invokevirtual 67, 3) := by decide +kernel
theorem dX7_worth_43 : decode cX7_worth 43 = .ok (.ireturn, 1) := by decide +kernel
theorem dX7_planOf_0 : decode cX7_planOf 0 = .ok (.aload_n 0, 1) := by decide +kernel
theorem dX7_planOf_1 : decode cX7_planOf 1 = .ok (.invokevirtual 164, 3) := by decide +kernel
theorem dX7_planOf_4 : decode cX7_planOf 4 = .ok (.aload_n 0, 1) := by decide +kernel
theorem dX7_planOf_5 : decode cX7_planOf 5 = .ok (.iload_n 1, 1) := by decide +kernel
theorem dX7_planOf_6 : decode cX7_planOf 6 = .ok (.iconst 1, 1) := by decide +kernel
theorem dX7_planOf_7 : decode cX7_planOf 7 = .ok (.invokevirtual 143, 3) := by decide +kernel
theorem dX7_planOf_10 : decode cX7_planOf 10 = .ok (.istore 4, 2) := by decide +kernel
theorem dX7_planOf_12 : decode cX7_planOf 12 = .ok (.iconst 0, 1) := by decide +kernel
theorem dX7_planOf_13 : decode cX7_planOf 13 = .ok (.istore 5, 2) := by decide +kernel
theorem dX7_planOf_15 : decode cX7_planOf 15 = .ok (.iload 5, 2) := by decide +kernel
theorem dX7_planOf_17 : decode cX7_planOf 17 = .ok (.iload_n 2, 1) := by decide +kernel
theorem dX7_planOf_18 : decode cX7_planOf 18 = .ok (.if_icmp .ge 22, 3) := by decide +kernel
theorem dX7_planOf_21 : decode cX7_planOf 21 = .ok (.aload_n 0, 1) := by decide +kernel
theorem dX7_planOf_22 : decode cX7_planOf 22 = .ok (.iload_n 1, 1) := by decide +kernel
theorem dX7_planOf_23 : decode cX7_planOf 23 = .ok (.iconst 1, 1) := by decide +kernel
theorem dX7_planOf_24 : decode cX7_planOf 24 = .ok (.invokevirtual 143, 3) := by decide +kernel
theorem dX7_planOf_27 : decode cX7_planOf 27 = .ok (.istore 4, 2) := by decide +kernel
theorem dX7_planOf_29 : decode cX7_planOf 29 = .ok (.aload_n 0, 1) := by decide +kernel
theorem dX7_planOf_30 : decode cX7_planOf 30 = .ok (.iload_n 1, 1) := by decide +kernel
theorem dX7_planOf_31 : decode cX7_planOf 31 = .ok (.invokevirtual 111, 3) := by decide +kernel
theorem dX7_planOf_34 : decode cX7_planOf 34 = .ok (.iinc 5 1, 3) := by decide +kernel
theorem dX7_planOf_37 : decode cX7_planOf 37 = .ok (.goto (-22), 3) := by decide +kernel
theorem dX7_planOf_40 : decode cX7_planOf 40 = .ok (.iload_n 3, 1) := by decide +kernel
theorem dX7_planOf_41 : decode cX7_planOf 41 = .ok (.iconst 3, 1) := by decide +kernel
theorem dX7_planOf_42 : decode cX7_planOf 42 = .ok (.if_icmp .ne 15, 3) := by decide +kernel
theorem dX7_planOf_45 : decode cX7_planOf 45 = .ok (.aload_n 0, 1) := by decide +kernel
theorem dX7_planOf_46 : decode cX7_planOf 46 = .ok (.iload_n 1, 1) := by decide +kernel
theorem dX7_planOf_47 : decode cX7_planOf 47 = .ok (.iconst 1, 1) := by decide +kernel
theorem dX7_planOf_48 : decode cX7_planOf 48 = .ok (.invokevirtual 143, 3) := by decide +kernel
theorem dX7_planOf_51 : decode cX7_planOf 51 = .ok (.iload 4, 2) := by decide +kernel
theorem dX7_planOf_53 : decode cX7_planOf 53 = .ok (.isub, 1) := by decide +kernel
theorem dX7_planOf_54 : decode cX7_planOf 54 = .ok (.goto 11, 3) := by decide +kernel
theorem dX7_planOf_57 : decode cX7_planOf 57 = .ok (.aload_n 0, 1) := by decide +kernel
theorem dX7_planOf_58 : decode cX7_planOf 58 = .ok (.iload_n 1, 1) := by decide +kernel
theorem dX7_planOf_59 : decode cX7_planOf 59 = .ok (.iload_n 3, 1) := by decide +kernel
theorem dX7_planOf_60 : decode cX7_planOf 60 = .ok (.iconst 3, 1) := by decide +kernel
theorem dX7_planOf_61 : decode cX7_planOf 61 = .ok (.iadd, 1) := by decide +kernel
theorem dX7_planOf_62 : decode cX7_planOf 62 = .ok (.invokevirtual 140, 3) := by decide +kernel
theorem dX7_planOf_65 : decode cX7_planOf 65 = .ok (.istore 5, 2) := by decide +kernel
theorem dX7_planOf_67 : decode cX7_planOf 67 = .ok (.aload_n 0, 1) := by decide +kernel
theorem dX7_planOf_68 : decode cX7_planOf 68 = .ok (.invokevirtual 167, 3) := by decide +kernel
theorem dX7_planOf_71 : decode cX7_planOf 71 = .ok (.iload 5, 2) := by decide +kernel
theorem dX7_planOf_73 : decode cX7_planOf 73 = .ok (.ireturn, 1) := by decide +kernel
theorem dX7_plan_0 : decode cX7_plan 0 = .ok (.aload_n 0, 1) := by decide +kernel
theorem dX7_plan_1 : decode cX7_plan 1 = .ok (.iconst 0, 1) := by decide +kernel
theorem dX7_plan_2 : decode cX7_plan 2 = .ok (.putfield 25, 3) := by decide +kernel
theorem dX7_plan_5 : decode cX7_plan 5 = .ok (.aload_n 0, 1) := by decide +kernel
theorem dX7_plan_6 : decode cX7_plan 6 = .ok (.iload_n 1, 1) := by decide +kernel
theorem dX7_plan_7 : decode cX7_plan 7 = .ok (.invokevirtual 84, 3) := by decide +kernel
theorem dX7_plan_10 : decode cX7_plan 10 = .ok (.ifCond .ne 9, 3) := by decide +kernel
theorem dX7_plan_13 : decode cX7_plan 13 = .ok (.aload_n 0, 1) := by decide +kernel
theorem dX7_plan_14 : decode cX7_plan 14 = .ok (.iconst 1, 1) := by decide +kernel
theorem dX7_plan_15 : decode cX7_plan 15 = .ok (.invokevirtual 67, 3) := by decide +kernel
theorem dX7_plan_18 : decode cX7_plan 18 = .ok (.ireturn, 1) := by decide +kernel
theorem dX7_plan_19 : decode cX7_plan 19 = .ok (.iload_n 2, 1) := by decide +kernel
theorem dX7_plan_20 : decode cX7_plan 20 = .ok (.iconst 0, 1) := by decide +kernel
theorem dX7_plan_21 : decode cX7_plan 21 = .ok (.bipush 60, 2) := by decide +kernel
theorem dX7_plan_23 : decode cX7_plan 23 = .ok (.invokestatic 42, 3) := by decide +kernel
theorem dX7_plan_26 : decode cX7_plan 26 = .ok (.ifCond .eq 22, 3) := by decide +kernel
theorem dX7_plan_29 : decode cX7_plan 29 = .ok (.iload_n 3, 1) := by decide +kernel
theorem dX7_plan_30 : decode cX7_plan 30 = .ok (.iconst 0, 1) := by decide +kernel
theorem dX7_plan_31 : decode cX7_plan 31 = .ok (.iconst 3, 1) := by decide +kernel
theorem dX7_plan_32 : decode cX7_plan 32 = .ok (.invokestatic 42, 3) := by decide +kernel
theorem dX7_plan_35 : decode cX7_plan 35 = .ok (.ifCond .eq 13, 3) := by decide +kernel
theorem dX7_plan_38 : decode cX7_plan 38 = .ok (.aload_n 0, 1) := by decide +kernel
theorem dX7_plan_39 : decode cX7_plan 39 = .ok (.iload_n 1, 1) := by decide +kernel
theorem dX7_plan_40 : decode cX7_plan 40 = .ok (.iload_n 2, 1) := by decide +kernel
theorem dX7_plan_41 : decode cX7_plan 41 = .ok (.iload_n 3, 1) := by decide +kernel
theorem dX7_plan_42 : decode cX7_plan 42 = .ok (.invokevirtual 170, 3) := by decide +kernel
theorem dX7_plan_45 : decode cX7_plan 45 = .ok (.goto 8, 3) := by decide +kernel
theorem dX7_plan_48 : decode cX7_plan 48 = .ok (.aload_n 0, 1) := by decide +kernel
theorem dX7_plan_49 : decode cX7_plan 49 = .ok (.iconst 2, 1) := by decide +kernel
theorem dX7_plan_50 : decode cX7_plan 50 = .ok (.invokevirtual 67, 3) := by decide +kernel
theorem dX7_plan_53 : decode cX7_plan 53 = .ok (.ireturn, 1) := by decide +kernel
theorem dX7_measuredOf_0 : decode cX7_measuredOf 0 = .ok (.aload_n 0, 1) := by decide +kernel
theorem dX7_measuredOf_1 : decode cX7_measuredOf 1 = .ok (.iload_n 1, 1) := by decide +kernel
theorem dX7_measuredOf_2 : decode cX7_measuredOf 2 = .ok (.invokevirtual 87, 3) := by decide +kernel
theorem dX7_measuredOf_5 : decode cX7_measuredOf 5 = .ok (.ifCond .ne 5, 3) := by decide +kernel
theorem dX7_measuredOf_8 : decode cX7_measuredOf 8 = .ok (.iconst (-1), 1) := by decide +kernel
theorem dX7_measuredOf_9 : decode cX7_measuredOf 9 = .ok (.ireturn, 1) := by decide +kernel
theorem dX7_measuredOf_10 : decode cX7_measuredOf 10 = .ok (.aload_n 0, 1) := by decide +kernel
theorem dX7_measuredOf_11 : decode cX7_measuredOf 11 = .ok (.invokevirtual 164, 3) := by decide +kernel
theorem dX7_measuredOf_14 : decode cX7_measuredOf 14 = .ok (.aload_n 0, 1) := by decide +kernel
theorem dX7_measuredOf_15 : decode cX7_measuredOf 15 = .ok (.iload_n 1, 1) := by decide +kernel
theorem dX7_measuredOf_16 : decode cX7_measuredOf 16 = .ok (.iconst 0, 1) := by decide +kernel
theorem dX7_measuredOf_17 : decode cX7_measuredOf 17 = .ok (.invokevirtual 146, 3) := by decide +kernel
theorem dX7_measuredOf_20 : decode cX7_measuredOf 20 = .ok (.istore 6, 2) := by decide +kernel
theorem dX7_measuredOf_22 : decode cX7_measuredOf 22 = .ok (.aload_n 0, 1) := by decide +kernel
theorem dX7_measuredOf_23 : decode cX7_measuredOf 23 = .ok (.iload_n 1, 1) := by decide +kernel
theorem dX7_measuredOf_24 : decode cX7_measuredOf 24 = .ok (.iload_n 2, 1) := by decide +kernel
theorem dX7_measuredOf_25 : decode cX7_measuredOf 25 = .ok (.iload_n 3, 1) := by decide +kernel
theorem dX7_measuredOf_26 : decode cX7_measuredOf 26 = .ok (.iload 4, 2) := by decide +kernel
theorem dX7_measuredOf_28 : decode cX7_measuredOf 28 = .ok (.invokevirtual 90, 3) := by decide +kernel
theorem dX7_measuredOf_31 : decode cX7_measuredOf 31 = .ok (.iload 5, 2) := by decide +kernel
theorem dX7_measuredOf_33 : decode cX7_measuredOf 33 = .ok (.iconst 2, 1) := by decide +kernel
theorem dX7_measuredOf_34 : decode cX7_measuredOf 34 = .ok (.if_icmp .ne 15, 3) := by decide +kernel
theorem dX7_measuredOf_37 : decode cX7_measuredOf 37 = .ok (.aload_n 0, 1) := by decide +kernel
theorem dX7_measuredOf_38 : decode cX7_measuredOf 38 = .ok (.iload_n 1, 1) := by decide +kernel
theorem dX7_measuredOf_39 : decode cX7_measuredOf 39 = .ok (.iconst 0, 1) := by decide +kernel
theorem dX7_measuredOf_40 : decode cX7_measuredOf 40 = .ok (.invokevirtual 146, 3) := by decide +kernel
theorem dX7_measuredOf_43 : decode cX7_measuredOf 43 = .ok (.iload 6, 2) := by decide +kernel
theorem dX7_measuredOf_45 : decode cX7_measuredOf 45 = .ok (.isub, 1) := by decide +kernel
theorem dX7_measuredOf_46 : decode cX7_measuredOf 46 = .ok (.goto 17, 3) := by decide +kernel
theorem dX7_measuredOf_49 : decode cX7_measuredOf 49 = .ok (.aload_n 0, 1) := by decide +kernel
theorem dX7_measuredOf_50 : decode cX7_measuredOf 50 = .ok (.getfield 7, 3) := by decide +kernel
theorem dX7_measuredOf_53 : decode cX7_measuredOf 53 = .ok (.iload_n 1, 1) := by decide +kernel
theorem dX7_measuredOf_54 : decode cX7_measuredOf 54 = .ok (.invokestatic 32, 3) := by decide +kernel
theorem dX7_measuredOf_57 : decode cX7_measuredOf 57 = .ok (.iconst 3, 1) := by decide +kernel
theorem dX7_measuredOf_58 : decode cX7_measuredOf 58 = .ok (.iadd, 1) := by decide +kernel
theorem dX7_measuredOf_59 : decode cX7_measuredOf 59 = .ok (.iload 5, 2) := by decide +kernel
theorem dX7_measuredOf_61 : decode cX7_measuredOf 61 = .ok (.iadd, 1) := by decide +kernel
theorem dX7_measuredOf_62 : decode cX7_measuredOf 62 = .ok (.iaload, 1) := by decide +kernel
theorem dX7_measuredOf_63 : decode cX7_measuredOf 63 = .ok (.istore 7, 2) := by decide +kernel
theorem dX7_measuredOf_65 : decode cX7_measuredOf 65 = .ok (.aload_n 0, 1) := by decide +kernel
theorem dX7_measuredOf_66 : decode cX7_measuredOf 66 = .ok (.invokevirtual 167, 3) := by decide +kernel
theorem dX7_measuredOf_69 : decode cX7_measuredOf 69 = .ok (.iload 7, 2) := by decide +kernel
theorem dX7_measuredOf_71 : decode cX7_measuredOf 71 = .ok (.ireturn, 1) := by decide +kernel
theorem dX7_ifMeasured_0 : decode cX7_ifMeasured 0 = .ok (.aload_n 0, 1) := by decide +kernel
theorem dX7_ifMeasured_1 : decode cX7_ifMeasured 1 = .ok (.iconst 0, 1) := by decide +kernel
theorem dX7_ifMeasured_2 : decode cX7_ifMeasured 2 = .ok (.putfield 25, 3) := by decide +kernel
theorem dX7_ifMeasured_5 : decode cX7_ifMeasured 5 = .ok (.aload_n 0, 1) := by decide +kernel
theorem dX7_ifMeasured_6 : decode cX7_ifMeasured 6 = .ok (.iload_n 1, 1) := by decide +kernel
theorem dX7_ifMeasured_7 : decode cX7_ifMeasured 7 = .ok (.invokevirtual 84, 3) := by decide +kernel
theorem dX7_ifMeasured_10 : decode cX7_ifMeasured 10 = .ok (.ifCond .ne 9, 3) := by decide +kernel
theorem dX7_ifMeasured_13 : decode cX7_ifMeasured 13 = .ok (.aload_n 0, 1) := by decide +kernel
theorem dX7_ifMeasured_14 : decode cX7_ifMeasured 14 = .ok (.iconst 1, 1) := by decide +kernel
theorem dX7_ifMeasured_15 : decode cX7_ifMeasured 15 = .ok (.invokevirtual 67, 3) := by decide +kernel
theorem dX7_ifMeasured_18 : decode cX7_ifMeasured 18 = .ok (.ireturn, 1) := by decide +kernel
theorem dX7_ifMeasured_19 : decode cX7_ifMeasured 19 = .ok (.iload_n 2, 1) := by decide +kernel
theorem dX7_ifMeasured_20 : decode cX7_ifMeasured 20 = .ok (.invokestatic 57, 3) := by decide +kernel
theorem dX7_ifMeasured_23 : decode cX7_ifMeasured 23 = .ok (.ifCond .eq 28, 3) := by decide +kernel
theorem dX7_ifMeasured_26 : decode cX7_ifMeasured 26 = .ok (.iload_n 3, 1) := by decide +kernel
theorem dX7_ifMeasured_27 : decode cX7_ifMeasured 27 = .ok (.invokestatic 61, 3) := by decide +kernel
theorem dX7_ifMeasured_30 : decode cX7_ifMeasured 30 = .ok (.ifCond .eq 21, 3) := by decide +kernel
theorem dX7_ifMeasured_33 : decode cX7_ifMeasured 33 = .ok (.iload 4, 2) := by decide +kernel
theorem dX7_ifMeasured_35 : decode cX7_ifMeasured 35 = .ok (.invokestatic 64, 3) := by decide +kernel
theorem dX7_ifMeasured_38 : decode cX7_ifMeasured 38 = .ok (.ifCond .eq 13, 3) := by decide +kernel
theorem dX7_ifMeasured_41 : decode cX7_ifMeasured 41 = .ok (.iload 5, 2) := by decide +kernel
theorem dX7_ifMeasured_43 : decode cX7_ifMeasured 43 = .ok (.iconst 0, 1) := by decide +kernel
theorem dX7_ifMeasured_44 : decode cX7_ifMeasured 44 = .ok (.iconst 2, 1) := by decide +kernel
theorem dX7_ifMeasured_45 : decode cX7_ifMeasured 45 = .ok (.invokestatic 42, 3) := by decide +kernel
theorem dX7_ifMeasured_48 : decode cX7_ifMeasured 48 = .ok (.ifCond .ne 9, 3) := by decide +kernel
theorem dX7_ifMeasured_51 : decode cX7_ifMeasured 51 = .ok (.aload_n 0, 1) := by decide +kernel
theorem dX7_ifMeasured_52 : decode cX7_ifMeasured 52 = .ok (.iconst 2, 1) := by decide +kernel
theorem dX7_ifMeasured_53 : decode cX7_ifMeasured 53 = .ok (.invokevirtual 67, 3) := by decide +kernel
theorem dX7_ifMeasured_56 : decode cX7_ifMeasured 56 = .ok (.ireturn, 1) := by decide +kernel
theorem dX7_ifMeasured_57 : decode cX7_ifMeasured 57 = .ok (.aload_n 0, 1) := by decide +kernel
theorem dX7_ifMeasured_58 : decode cX7_ifMeasured 58 = .ok (.iload_n 1, 1) := by decide +kernel
theorem dX7_ifMeasured_59 : decode cX7_ifMeasured 59 = .ok (.iload_n 2, 1) := by decide +kernel
theorem dX7_ifMeasured_60 : decode cX7_ifMeasured 60 = .ok (.iload_n 3, 1) := by decide +kernel
theorem dX7_ifMeasured_61 : decode cX7_ifMeasured 61 = .ok (.iload 4, 2) := by decide +kernel
theorem dX7_ifMeasured_63 : decode cX7_ifMeasured 63 = .ok (.iload 5, 2) := by decide +kernel
theorem dX7_ifMeasured_65 : decode cX7_ifMeasured 65 = .ok (.invokevirtual 173, 3) := by decide +kernel
theorem dX7_ifMeasured_68 : decode cX7_ifMeasured 68 = .ok (.ireturn, 1) := by decide +kernel
theorem dX7_paymentOf_0 : decode cX7_paymentOf 0 = .ok (.aload_n 0, 1) := by decide +kernel
theorem dX7_paymentOf_1 : decode cX7_paymentOf 1 = .ok (.iload_n 1, 1) := by decide +kernel
theorem dX7_paymentOf_2 : decode cX7_paymentOf 2 = .ok (.invokevirtual 87, 3) := by decide +kernel
theorem dX7_paymentOf_5 : decode cX7_paymentOf 5 = .ok (.ifCond .ne 5, 3) := by decide +kernel
theorem dX7_paymentOf_8 : decode cX7_paymentOf 8 = .ok (.iconst (-1), 1) := by decide +kernel
theorem dX7_paymentOf_9 : decode cX7_paymentOf 9 = .ok (.ireturn, 1) := by decide +kernel
theorem dX7_paymentOf_10 : decode cX7_paymentOf 10 = .ok (.iconst 0, 1) := by decide +kernel
theorem dX7_paymentOf_11 : decode cX7_paymentOf 11 = .ok (.istore_n 3, 1) := by decide +kernel
theorem dX7_paymentOf_12 : decode cX7_paymentOf 12 = .ok (.ldc 46, 2) := by decide +kernel
theorem dX7_paymentOf_14 : decode cX7_paymentOf 14 = .ok (.istore 4, 2) := by decide +kernel
theorem dX7_paymentOf_16 : decode cX7_paymentOf 16 = .ok (.iload_n 3, 1) := by decide +kernel
theorem dX7_paymentOf_17 : decode cX7_paymentOf 17 = .ok (.iload 4, 2) := by decide +kernel
theorem dX7_paymentOf_19 : decode cX7_paymentOf 19 = .ok (.if_icmp .ge 82, 3) := by decide +kernel
theorem dX7_paymentOf_22 : decode cX7_paymentOf 22 = .ok (.iload_n 3, 1) := by decide +kernel
theorem dX7_paymentOf_23 : decode cX7_paymentOf 23 = .ok (.iload 4, 2) := by decide +kernel
theorem dX7_paymentOf_25 : decode cX7_paymentOf 25 = .ok (.iadd, 1) := by decide +kernel
theorem dX7_paymentOf_26 : decode cX7_paymentOf 26 = .ok (.iconst 1, 1) := by decide +kernel
theorem dX7_paymentOf_27 : decode cX7_paymentOf 27 = .ok (.iadd, 1) := by decide +kernel
theorem dX7_paymentOf_28 : decode cX7_paymentOf 28 = .ok (.iconst 2, 1) := by decide +kernel
theorem dX7_paymentOf_29 : decode cX7_paymentOf 29 = .ok (.idiv, 1) := by decide +kernel
theorem dX7_paymentOf_30 : decode cX7_paymentOf 30 = .ok (.istore 5, 2) := by decide +kernel
theorem dX7_paymentOf_32 : decode cX7_paymentOf 32 = .ok (.iload 5, 2) := by decide +kernel
theorem dX7_paymentOf_34 : decode cX7_paymentOf 34 = .ok (.aload_n 0, 1) := by decide +kernel
theorem dX7_paymentOf_35 : decode cX7_paymentOf 35 = .ok (.getfield 7, 3) := by decide +kernel
theorem dX7_paymentOf_38 : decode cX7_paymentOf 38 = .ok (.iload_n 1, 1) := by decide +kernel
theorem dX7_paymentOf_39 : decode cX7_paymentOf 39 = .ok (.invokestatic 32, 3) := by decide +kernel
theorem dX7_paymentOf_42 : decode cX7_paymentOf 42 = .ok (.iconst 1, 1) := by decide +kernel
theorem dX7_paymentOf_43 : decode cX7_paymentOf 43 = .ok (.iadd, 1) := by decide +kernel
theorem dX7_paymentOf_44 : decode cX7_paymentOf 44 = .ok (.iaload, 1) := by decide +kernel
theorem dX7_paymentOf_45 : decode cX7_paymentOf 45 = .ok (.aload_n 0, 1) := by decide +kernel
theorem dX7_paymentOf_46 : decode cX7_paymentOf 46 = .ok (.getfield 7, 3) := by decide +kernel
theorem dX7_paymentOf_49 : decode cX7_paymentOf 49 = .ok (.iload_n 1, 1) := by decide +kernel
theorem dX7_paymentOf_50 : decode cX7_paymentOf 50 = .ok (.invokestatic 32, 3) := by decide +kernel
theorem dX7_paymentOf_53 : decode cX7_paymentOf 53 = .ok (.iconst 2, 1) := by decide +kernel
theorem dX7_paymentOf_54 : decode cX7_paymentOf 54 = .ok (.iadd, 1) := by decide +kernel
theorem dX7_paymentOf_55 : decode cX7_paymentOf 55 = .ok (.iaload, 1) := by decide +kernel
theorem dX7_paymentOf_56 : decode cX7_paymentOf 56 = .ok (.invokestatic 49, 3) := by decide +kernel
theorem dX7_paymentOf_59 : decode cX7_paymentOf 59 = .ok (.iload_n 2, 1) := by decide +kernel
theorem dX7_paymentOf_60 : decode cX7_paymentOf 60 = .ok (.if_icmp .gt 7, 3) := by decide +kernel
theorem dX7_paymentOf_63 : decode cX7_paymentOf 63 = .ok (.iconst 1, 1) := by decide +kernel
theorem dX7_paymentOf_64 : decode cX7_paymentOf 64 = .ok (.goto 4, 3) := by decide +kernel
theorem dX7_paymentOf_67 : decode cX7_paymentOf 67 = .ok (.iconst 0, 1) := by decide +kernel
theorem dX7_paymentOf_68 : decode cX7_paymentOf 68 = .ok (.istore 6, 2) := by decide +kernel
theorem dX7_paymentOf_70 : decode cX7_paymentOf 70 = .ok (.iload 6, 2) := by decide +kernel
theorem dX7_paymentOf_72 : decode cX7_paymentOf 72 = .ok (.ifCond .eq 8, 3) := by decide +kernel
theorem dX7_paymentOf_75 : decode cX7_paymentOf 75 = .ok (.iload 5, 2) := by decide +kernel
theorem dX7_paymentOf_77 : decode cX7_paymentOf 77 = .ok (.goto 4, 3) := by decide +kernel
theorem dX7_paymentOf_80 : decode cX7_paymentOf 80 = .ok (.iload_n 3, 1) := by decide +kernel
theorem dX7_paymentOf_81 : decode cX7_paymentOf 81 = .ok (.istore_n 3, 1) := by decide +kernel
theorem dX7_paymentOf_82 : decode cX7_paymentOf 82 = .ok (.iload 6, 2) := by decide +kernel
theorem dX7_paymentOf_84 : decode cX7_paymentOf 84 = .ok (.ifCond .eq 8, 3) := by decide +kernel
theorem dX7_paymentOf_87 : decode cX7_paymentOf 87 = .ok (.iload 4, 2) := by decide +kernel
theorem dX7_paymentOf_89 : decode cX7_paymentOf 89 = .ok (.goto 7, 3) := by decide +kernel
theorem dX7_paymentOf_92 : decode cX7_paymentOf 92 = .ok (.iload 5, 2) := by decide +kernel
theorem dX7_paymentOf_94 : decode cX7_paymentOf 94 = .ok (.iconst 1, 1) := by decide +kernel
theorem dX7_paymentOf_95 : decode cX7_paymentOf 95 = .ok (.isub, 1) := by decide +kernel
theorem dX7_paymentOf_96 : decode cX7_paymentOf 96 = .ok (.istore 4, 2) := by decide +kernel
theorem dX7_paymentOf_98 : decode cX7_paymentOf 98 = .ok (.goto (-82), 3) := by decide +kernel
theorem dX7_paymentOf_101 : decode cX7_paymentOf 101 = .ok (.iload_n 3, 1) := by decide +kernel
theorem dX7_paymentOf_102 : decode cX7_paymentOf 102 = .ok (.ireturn, 1) := by decide +kernel
theorem dX7_paymentFor_0 : decode cX7_paymentFor 0 = .ok (.aload_n 0, 1) := by decide +kernel
theorem dX7_paymentFor_1 : decode cX7_paymentFor 1 = .ok (.iconst 0, 1) := by decide +kernel
theorem dX7_paymentFor_2 : decode cX7_paymentFor 2 = .ok (.putfield 25, 3) := by decide +kernel
theorem dX7_paymentFor_5 : decode cX7_paymentFor 5 = .ok (.aload_n 0, 1) := by decide +kernel
theorem dX7_paymentFor_6 : decode cX7_paymentFor 6 = .ok (.iload_n 1, 1) := by decide +kernel
theorem dX7_paymentFor_7 : decode cX7_paymentFor 7 = .ok (.invokevirtual 84, 3) := by decide +kernel
theorem dX7_paymentFor_10 : decode cX7_paymentFor 10 = .ok (.ifCond .ne 9, 3) := by decide +kernel
theorem dX7_paymentFor_13 : decode cX7_paymentFor 13 = .ok (.aload_n 0, 1) := by decide +kernel
theorem dX7_paymentFor_14 : decode cX7_paymentFor 14 = .ok (.iconst 1, 1) := by decide +kernel
theorem dX7_paymentFor_15 : decode cX7_paymentFor 15 = .ok (.invokevirtual 67, 3) := by decide +kernel
theorem dX7_paymentFor_18 : decode cX7_paymentFor 18 = .ok (.ireturn, 1) := by decide +kernel
theorem dX7_paymentFor_19 : decode cX7_paymentFor 19 = .ok (.iload_n 2, 1) := by decide +kernel
theorem dX7_paymentFor_20 : decode cX7_paymentFor 20 = .ok (.iconst 0, 1) := by decide +kernel
theorem dX7_paymentFor_21 : decode cX7_paymentFor 21 = .ok (.ldc 177, 2) := by decide +kernel
theorem dX7_paymentFor_23 : decode cX7_paymentFor 23 = .ok (.invokestatic 42, 3) := by decide +kernel
theorem dX7_paymentFor_26 : decode cX7_paymentFor 26 = .ok (.ifCond .eq 12, 3) := by decide +kernel
theorem dX7_paymentFor_29 : decode cX7_paymentFor 29 = .ok (.aload_n 0, 1) := by decide +kernel
theorem dX7_paymentFor_30 : decode cX7_paymentFor 30 = .ok (.iload_n 1, 1) := by decide +kernel
theorem dX7_paymentFor_31 : decode cX7_paymentFor 31 = .ok (.iload_n 2, 1) := by decide +kernel
theorem dX7_paymentFor_32 : decode cX7_paymentFor 32 = .ok (.invokevirtual 178, 3) := by decide +kernel
theorem dX7_paymentFor_35 : decode cX7_paymentFor 35 = .ok (.goto 8, 3) := by decide +kernel
theorem dX7_paymentFor_38 : decode cX7_paymentFor 38 = .ok (.aload_n 0, 1) := by decide +kernel
theorem dX7_paymentFor_39 : decode cX7_paymentFor 39 = .ok (.iconst 2, 1) := by decide +kernel
theorem dX7_paymentFor_40 : decode cX7_paymentFor 40 = .ok (.invokevirtual 67, 3) := by decide +kernel
theorem dX7_paymentFor_43 : decode cX7_paymentFor 43 = .ok (.ireturn, 1) := by decide +kernel
theorem dX7_rateOf_0 : decode cX7_rateOf 0 = .ok (.iload_n 1, 1) := by decide +kernel
theorem dX7_rateOf_1 : decode cX7_rateOf 1 = .ok (.invokestatic 32, 3) := by decide +kernel
theorem dX7_rateOf_4 : decode cX7_rateOf 4 = .ok (.istore_n 2, 1) := by decide +kernel
theorem dX7_rateOf_5 : decode cX7_rateOf 5 = .ok (.aload_n 0, 1) := by decide +kernel
theorem dX7_rateOf_6 : decode cX7_rateOf 6 = .ok (.iload_n 1, 1) := by decide +kernel
theorem dX7_rateOf_7 : decode cX7_rateOf 7 = .ok (.invokevirtual 87, 3) := by decide +kernel
theorem dX7_rateOf_10 : decode cX7_rateOf 10 = .ok (.ifCond .ne 5, 3) := by decide +kernel
theorem dX7_rateOf_13 : decode cX7_rateOf 13 = .ok (.iconst (-1), 1) := by decide +kernel
theorem dX7_rateOf_14 : decode cX7_rateOf 14 = .ok (.ireturn, 1) := by decide +kernel
theorem dX7_rateOf_15 : decode cX7_rateOf 15 = .ok (.sipush 2000, 3) := by decide +kernel
theorem dX7_rateOf_18 : decode cX7_rateOf 18 = .ok (.istore_n 3, 1) := by decide +kernel
theorem dX7_rateOf_19 : decode cX7_rateOf 19 = .ok (.iload_n 3, 1) := by decide +kernel
theorem dX7_rateOf_20 : decode cX7_rateOf 20 = .ok (.ifCond .lt 38, 3) := by decide +kernel
theorem dX7_rateOf_23 : decode cX7_rateOf 23 = .ok (.aload_n 0, 1) := by decide +kernel
theorem dX7_rateOf_24 : decode cX7_rateOf 24 = .ok (.getfield 7, 3) := by decide +kernel
theorem dX7_rateOf_27 : decode cX7_rateOf 27 = .ok (.iload_n 2, 1) := by decide +kernel
theorem dX7_rateOf_28 : decode cX7_rateOf 28 = .ok (.iaload, 1) := by decide +kernel
theorem dX7_rateOf_29 : decode cX7_rateOf 29 = .ok (.aload_n 0, 1) := by decide +kernel
theorem dX7_rateOf_30 : decode cX7_rateOf 30 = .ok (.getfield 7, 3) := by decide +kernel
theorem dX7_rateOf_33 : decode cX7_rateOf 33 = .ok (.iload_n 2, 1) := by decide +kernel
theorem dX7_rateOf_34 : decode cX7_rateOf 34 = .ok (.iconst 1, 1) := by decide +kernel
theorem dX7_rateOf_35 : decode cX7_rateOf 35 = .ok (.iadd, 1) := by decide +kernel
theorem dX7_rateOf_36 : decode cX7_rateOf 36 = .ok (.iaload, 1) := by decide +kernel
theorem dX7_rateOf_37 : decode cX7_rateOf 37 = .ok (.iload_n 3, 1) := by decide +kernel
theorem dX7_rateOf_38 : decode cX7_rateOf 38 = .ok (.invokestatic 49, 3) := by decide +kernel
theorem dX7_rateOf_41 : decode cX7_rateOf 41 = .ok (.aload_n 0, 1) := by decide +kernel
theorem dX7_rateOf_42 : decode cX7_rateOf 42 = .ok (.getfield 7, 3) := by decide +kernel
theorem dX7_rateOf_45 : decode cX7_rateOf 45 = .ok (.iload_n 2, 1) := by decide +kernel
theorem dX7_rateOf_46 : decode cX7_rateOf 46 = .ok (.iconst 4, 1) := by decide +kernel
theorem dX7_rateOf_47 : decode cX7_rateOf 47 = .ok (.iadd, 1) := by decide +kernel
theorem dX7_rateOf_48 : decode cX7_rateOf 48 = .ok (.iaload, 1) := by decide +kernel
theorem dX7_rateOf_49 : decode cX7_rateOf 49 = .ok (.if_icmp .ge 9, 3) := by decide +kernel
theorem dX7_rateOf_52 : decode cX7_rateOf 52 = .ok (.iinc 3 (-1), 3) := by decide +kernel
theorem dX7_rateOf_55 : decode cX7_rateOf 55 = .ok (.goto (-36), 3) := by decide +kernel
theorem dX7_rateOf_58 : decode cX7_rateOf 58 = .ok (.iload_n 3, 1) := by decide +kernel
theorem dX7_rateOf_59 : decode cX7_rateOf 59 = .ok (.ireturn, 1) := by decide +kernel
theorem dX7_rateWithin_0 : decode cX7_rateWithin 0 = .ok (.aload_n 0, 1) := by decide +kernel
theorem dX7_rateWithin_1 : decode cX7_rateWithin 1 = .ok (.iconst 0, 1) := by decide +kernel
theorem dX7_rateWithin_2 : decode cX7_rateWithin 2 = .ok (.putfield 25, 3) := by decide +kernel
theorem dX7_rateWithin_5 : decode cX7_rateWithin 5 = .ok (.aload_n 0, 1) := by decide +kernel
theorem dX7_rateWithin_6 : decode cX7_rateWithin 6 = .ok (.iload_n 1, 1) := by decide +kernel
theorem dX7_rateWithin_7 : decode cX7_rateWithin 7 = .ok (.invokevirtual 84, 3) := by decide +kernel
theorem dX7_rateWithin_10 : decode cX7_rateWithin 10 = .ok (.ifCond .eq 11, 3) := by decide +kernel
theorem dX7_rateWithin_13 : decode cX7_rateWithin 13 = .ok (.aload_n 0, 1) := by decide +kernel
theorem dX7_rateWithin_14 : decode cX7_rateWithin 14 = .ok (.iload_n 1, 1) := by decide +kernel
theorem dX7_rateWithin_15 : decode cX7_rateWithin 15 = .ok (.invokevirtual 181, 3) := by decide +kernel
theorem dX7_rateWithin_18 : decode cX7_rateWithin 18 = .ok (.goto 8, 3) := by decide +kernel
theorem dX7_rateWithin_21 : decode cX7_rateWithin 21 = .ok (.aload_n 0, 1) := by decide +kernel
theorem dX7_rateWithin_22 : decode cX7_rateWithin 22 = .ok (.iconst 1, 1) := by decide +kernel
theorem dX7_rateWithin_23 : decode cX7_rateWithin 23 = .ok (.invokevirtual 67, 3) := by decide +kernel
theorem dX7_rateWithin_26 : decode cX7_rateWithin 26 = .ok (.ireturn, 1) := by decide +kernel
theorem dX7_receiptOf_0 : decode cX7_receiptOf 0 = .ok (.iload_n 1, 1) := by decide +kernel
theorem dX7_receiptOf_1 : decode cX7_receiptOf 1 = .ok (.invokestatic 32, 3) := by decide +kernel
theorem dX7_receiptOf_4 : decode cX7_receiptOf 4 = .ok (.istore 4, 2) := by decide +kernel
theorem dX7_receiptOf_6 : decode cX7_receiptOf 6 = .ok (.aload_n 0, 1) := by decide +kernel
theorem dX7_receiptOf_7 : decode cX7_receiptOf 7 = .ok (.getfield 7, 3) := by decide +kernel
theorem dX7_receiptOf_10 : decode cX7_receiptOf 10 = .ok (.iload 4, 2) := by decide +kernel
theorem dX7_receiptOf_12 : decode cX7_receiptOf 12 = .ok (.iconst 4, 1) := by decide +kernel
theorem dX7_receiptOf_13 : decode cX7_receiptOf 13 = .ok (.iadd, 1) := by decide +kernel
theorem dX7_receiptOf_14 : decode cX7_receiptOf 14 = .ok (.iaload, 1) := by decide +kernel
theorem dX7_receiptOf_15 : decode cX7_receiptOf 15 = .ok (.iload_n 2, 1) := by decide +kernel
theorem dX7_receiptOf_16 : decode cX7_receiptOf 16 = .ok (.invokestatic 100, 3) := by decide +kernel
theorem dX7_receiptOf_19 : decode cX7_receiptOf 19 = .ok (.istore 5, 2) := by decide +kernel
theorem dX7_receiptOf_21 : decode cX7_receiptOf 21 = .ok (.aload_n 0, 1) := by decide +kernel
theorem dX7_receiptOf_22 : decode cX7_receiptOf 22 = .ok (.iload_n 1, 1) := by decide +kernel
theorem dX7_receiptOf_23 : decode cX7_receiptOf 23 = .ok (.iload_n 2, 1) := by decide +kernel
theorem dX7_receiptOf_24 : decode cX7_receiptOf 24 = .ok (.iload_n 3, 1) := by decide +kernel
theorem dX7_receiptOf_25 : decode cX7_receiptOf 25 = .ok (.invokevirtual 104, 3) := by decide +kernel
theorem dX7_receiptOf_28 : decode cX7_receiptOf 28 = .ok (.ifCond .eq 23, 3) := by decide +kernel
theorem dX7_receiptOf_31 : decode cX7_receiptOf 31 = .ok (.ldc 46, 2) := by decide +kernel
theorem dX7_receiptOf_33 : decode cX7_receiptOf 33 = .ok (.iload_n 3, 1) := by decide +kernel
theorem dX7_receiptOf_34 : decode cX7_receiptOf 34 = .ok (.aload_n 0, 1) := by decide +kernel
theorem dX7_receiptOf_35 : decode cX7_receiptOf 35 = .ok (.getfield 7, 3) := by decide +kernel
theorem dX7_receiptOf_38 : decode cX7_receiptOf 38 = .ok (.iload 4, 2) := by decide +kernel
theorem dX7_receiptOf_40 : decode cX7_receiptOf 40 = .ok (.iconst 2, 1) := by decide +kernel
theorem dX7_receiptOf_41 : decode cX7_receiptOf 41 = .ok (.iadd, 1) := by decide +kernel
theorem dX7_receiptOf_42 : decode cX7_receiptOf 42 = .ok (.iaload, 1) := by decide +kernel
theorem dX7_receiptOf_43 : decode cX7_receiptOf 43 = .ok (.invokestatic 49, 3) := by decide +kernel
theorem dX7_receiptOf_46 : decode cX7_receiptOf 46 = .ok (.iload 5, 2) := by decide +kernel
theorem dX7_receiptOf_48 : decode cX7_receiptOf 48 = .ok (.if_icmp .ge 5, 3) := by decide +kernel
theorem dX7_receiptOf_51 : decode cX7_receiptOf 51 = .ok (.iconst (-1), 1) := by decide +kernel
theorem dX7_receiptOf_52 : decode cX7_receiptOf 52 = .ok (.ireturn, 1) := by decide +kernel
theorem dX7_receiptOf_53 : decode cX7_receiptOf 53 = .ok (.iconst 0, 1) := by decide +kernel
theorem dX7_receiptOf_54 : decode cX7_receiptOf 54 = .ok (.istore 6, 2) := by decide +kernel
theorem dX7_receiptOf_56 : decode cX7_receiptOf 56 = .ok (.ldc 46, 2) := by decide +kernel
theorem dX7_receiptOf_58 : decode cX7_receiptOf 58 = .ok (.istore 7, 2) := by decide +kernel
theorem dX7_receiptOf_60 : decode cX7_receiptOf 60 = .ok (.iload 6, 2) := by decide +kernel
theorem dX7_receiptOf_62 : decode cX7_receiptOf 62 = .ok (.iload 7, 2) := by decide +kernel
theorem dX7_receiptOf_64 : decode cX7_receiptOf 64 = .ok (.if_icmp .ge 72, 3) := by decide +kernel
theorem dX7_receiptOf_67 : decode cX7_receiptOf 67 = .ok (.iload 6, 2) := by decide +kernel
theorem dX7_receiptOf_69 : decode cX7_receiptOf 69 = .ok (.iload 7, 2) := by decide +kernel
theorem dX7_receiptOf_71 : decode cX7_receiptOf 71 = .ok (.iadd, 1) := by decide +kernel
theorem dX7_receiptOf_72 : decode cX7_receiptOf 72 = .ok (.iconst 2, 1) := by decide +kernel
theorem dX7_receiptOf_73 : decode cX7_receiptOf 73 = .ok (.idiv, 1) := by decide +kernel
theorem dX7_receiptOf_74 : decode cX7_receiptOf 74 = .ok (.istore 8, 2) := by decide +kernel
theorem dX7_receiptOf_76 : decode cX7_receiptOf 76 = .ok (.iload 8, 2) := by decide +kernel
theorem dX7_receiptOf_78 : decode cX7_receiptOf 78 = .ok (.iload_n 3, 1) := by decide +kernel
theorem dX7_receiptOf_79 : decode cX7_receiptOf 79 = .ok (.aload_n 0, 1) := by decide +kernel
theorem dX7_receiptOf_80 : decode cX7_receiptOf 80 = .ok (.getfield 7, 3) := by decide +kernel
theorem dX7_receiptOf_83 : decode cX7_receiptOf 83 = .ok (.iload 4, 2) := by decide +kernel
theorem dX7_receiptOf_85 : decode cX7_receiptOf 85 = .ok (.iconst 2, 1) := by decide +kernel
theorem dX7_receiptOf_86 : decode cX7_receiptOf 86 = .ok (.iadd, 1) := by decide +kernel
theorem dX7_receiptOf_87 : decode cX7_receiptOf 87 = .ok (.iaload, 1) := by decide +kernel
theorem dX7_receiptOf_88 : decode cX7_receiptOf 88 = .ok (.invokestatic 49, 3) := by decide +kernel
theorem dX7_receiptOf_91 : decode cX7_receiptOf 91 = .ok (.iload 5, 2) := by decide +kernel
theorem dX7_receiptOf_93 : decode cX7_receiptOf 93 = .ok (.if_icmp .lt 7, 3) := by decide +kernel
theorem dX7_receiptOf_96 : decode cX7_receiptOf 96 = .ok (.iconst 1, 1) := by decide +kernel
theorem dX7_receiptOf_97 : decode cX7_receiptOf 97 = .ok (.goto 4, 3) := by decide +kernel
theorem dX7_receiptOf_100 : decode cX7_receiptOf 100 = .ok (.iconst 0, 1) := by decide +kernel
theorem dX7_receiptOf_101 : decode cX7_receiptOf 101 = .ok (.istore 9, 2) := by decide +kernel
theorem dX7_receiptOf_103 : decode cX7_receiptOf 103 = .ok (.iload 9, 2) := by decide +kernel
theorem dX7_receiptOf_105 : decode cX7_receiptOf 105 = .ok (.ifCond .eq 8, 3) := by decide +kernel
theorem dX7_receiptOf_108 : decode cX7_receiptOf 108 = .ok (.iload 8, 2) := by decide +kernel
theorem dX7_receiptOf_110 : decode cX7_receiptOf 110 = .ok (.goto 5, 3) := by decide +kernel
theorem dX7_receiptOf_113 : decode cX7_receiptOf 113 = .ok (.iload 7, 2) := by decide +kernel
theorem dX7_receiptOf_115 : decode cX7_receiptOf 115 = .ok (.istore 7, 2) := by decide +kernel
theorem dX7_receiptOf_117 : decode cX7_receiptOf 117 = .ok (.iload 9, 2) := by decide +kernel
theorem dX7_receiptOf_119 : decode cX7_receiptOf 119 = .ok (.ifCond .eq 8, 3) := by decide +kernel
theorem dX7_receiptOf_122 : decode cX7_receiptOf 122 = .ok (.iload 6, 2) := by decide +kernel
theorem dX7_receiptOf_124 : decode cX7_receiptOf 124 = .ok (.goto 7, 3) := by decide +kernel
theorem dX7_receiptOf_127 : decode cX7_receiptOf 127 = .ok (.iload 8, 2) := by decide +kernel
theorem dX7_receiptOf_129 : decode cX7_receiptOf 129 = .ok (.iconst 1, 1) := by decide +kernel
theorem dX7_receiptOf_130 : decode cX7_receiptOf 130 = .ok (.iadd, 1) := by decide +kernel
theorem dX7_receiptOf_131 : decode cX7_receiptOf 131 = .ok (.istore 6, 2) := by decide +kernel
theorem dX7_receiptOf_133 : decode cX7_receiptOf 133 = .ok (.goto (-73), 3) := by decide +kernel
theorem dX7_receiptOf_136 : decode cX7_receiptOf 136 = .ok (.iload 6, 2) := by decide +kernel
theorem dX7_receiptOf_138 : decode cX7_receiptOf 138 = .ok (.ireturn, 1) := by decide +kernel
theorem dX7_fairReceipt_0 : decode cX7_fairReceipt 0 = .ok (.aload_n 0, 1) := by decide +kernel
theorem dX7_fairReceipt_1 : decode cX7_fairReceipt 1 = .ok (.iconst 0, 1) := by decide +kernel
theorem dX7_fairReceipt_2 : decode cX7_fairReceipt 2 = .ok (.putfield 25, 3) := by decide +kernel
theorem dX7_fairReceipt_5 : decode cX7_fairReceipt 5 = .ok (.aload_n 0, 1) := by decide +kernel
theorem dX7_fairReceipt_6 : decode cX7_fairReceipt 6 = .ok (.iload_n 1, 1) := by decide +kernel
theorem dX7_fairReceipt_7 : decode cX7_fairReceipt 7 = .ok (.invokevirtual 84, 3) := by decide +kernel
theorem dX7_fairReceipt_10 : decode cX7_fairReceipt 10 = .ok (.ifCond .ne 9, 3) := by decide +kernel
theorem dX7_fairReceipt_13 : decode cX7_fairReceipt 13 = .ok (.aload_n 0, 1) := by decide +kernel
theorem dX7_fairReceipt_14 : decode cX7_fairReceipt 14 = .ok (.iconst 1, 1) := by decide +kernel
theorem dX7_fairReceipt_15 : decode cX7_fairReceipt 15 = .ok (.invokevirtual 67, 3) := by decide +kernel
theorem dX7_fairReceipt_18 : decode cX7_fairReceipt 18 = .ok (.ireturn, 1) := by decide +kernel
theorem dX7_fairReceipt_19 : decode cX7_fairReceipt 19 = .ok (.iload_n 2, 1) := by decide +kernel
theorem dX7_fairReceipt_20 : decode cX7_fairReceipt 20 = .ok (.invokestatic 93, 3) := by decide +kernel
theorem dX7_fairReceipt_23 : decode cX7_fairReceipt 23 = .ok (.ifCond .eq 20, 3) := by decide +kernel
theorem dX7_fairReceipt_26 : decode cX7_fairReceipt 26 = .ok (.iload_n 3, 1) := by decide +kernel
theorem dX7_fairReceipt_27 : decode cX7_fairReceipt 27 = .ok (.invokestatic 61, 3) := by decide +kernel
theorem dX7_fairReceipt_30 : decode cX7_fairReceipt 30 = .ok (.ifCond .eq 13, 3) := by decide +kernel
theorem dX7_fairReceipt_33 : decode cX7_fairReceipt 33 = .ok (.aload_n 0, 1) := by decide +kernel
theorem dX7_fairReceipt_34 : decode cX7_fairReceipt 34 = .ok (.iload_n 1, 1) := by decide +kernel
theorem dX7_fairReceipt_35 : decode cX7_fairReceipt 35 = .ok (.iload_n 2, 1) := by decide +kernel
theorem dX7_fairReceipt_36 : decode cX7_fairReceipt 36 = .ok (.iload_n 3, 1) := by decide +kernel
theorem dX7_fairReceipt_37 : decode cX7_fairReceipt 37 = .ok (.invokevirtual 184, 3) := by decide +kernel
theorem dX7_fairReceipt_40 : decode cX7_fairReceipt 40 = .ok (.goto 8, 3) := by decide +kernel
theorem dX7_fairReceipt_43 : decode cX7_fairReceipt 43 = .ok (.aload_n 0, 1) := by decide +kernel
theorem dX7_fairReceipt_44 : decode cX7_fairReceipt 44 = .ok (.iconst 2, 1) := by decide +kernel
theorem dX7_fairReceipt_45 : decode cX7_fairReceipt 45 = .ok (.invokevirtual 67, 3) := by decide +kernel
theorem dX7_fairReceipt_48 : decode cX7_fairReceipt 48 = .ok (.ireturn, 1) := by decide +kernel
theorem dX7_offOf_0 : decode cX7_offOf 0 = .ok (.aload_n 0, 1) := by decide +kernel
theorem dX7_offOf_1 : decode cX7_offOf 1 = .ok (.iconst 3, 1) := by decide +kernel
theorem dX7_offOf_2 : decode cX7_offOf 2 = .ok (.invokevirtual 152, 3) := by decide +kernel
theorem dX7_offOf_5 : decode cX7_offOf 5 = .ok (.istore_n 1, 1) := by decide +kernel
theorem dX7_offOf_6 : decode cX7_offOf 6 = .ok (.iload_n 1, 1) := by decide +kernel
theorem dX7_offOf_7 : decode cX7_offOf 7 = .ok (.ifCond .ne 7, 3) := by decide +kernel
theorem dX7_offOf_10 : decode cX7_offOf 10 = .ok (.dconst 0, 1) := by decide +kernel
theorem dX7_offOf_11 : decode cX7_offOf 11 = .ok (.goto 12, 3) := by decide +kernel
theorem dX7_offOf_14 : decode cX7_offOf 14 = .ok (.aload_n 0, 1) := by decide +kernel
theorem dX7_offOf_15 : decode cX7_offOf 15 = .ok (.iconst 5, 1) := by decide +kernel
theorem dX7_offOf_16 : decode cX7_offOf 16 = .ok (.invokevirtual 152, 3) := by decide +kernel
theorem dX7_offOf_19 : decode cX7_offOf 19 = .ok (.i2d, 1) := by decide +kernel
theorem dX7_offOf_20 : decode cX7_offOf 20 = .ok (.iload_n 1, 1) := by decide +kernel
theorem dX7_offOf_21 : decode cX7_offOf 21 = .ok (.i2d, 1) := by decide +kernel
theorem dX7_offOf_22 : decode cX7_offOf 22 = .ok (.ddiv, 1) := by decide +kernel
theorem dX7_offOf_23 : decode cX7_offOf 23 = .ok (.dreturn, 1) := by decide +kernel
theorem dX7_offShare_0 : decode cX7_offShare 0 = .ok (.aload_n 0, 1) := by decide +kernel
theorem dX7_offShare_1 : decode cX7_offShare 1 = .ok (.iconst 0, 1) := by decide +kernel
theorem dX7_offShare_2 : decode cX7_offShare 2 = .ok (.putfield 25, 3) := by decide +kernel
theorem dX7_offShare_5 : decode cX7_offShare 5 = .ok (.aload_n 0, 1) := by decide +kernel
theorem dX7_offShare_6 : decode cX7_offShare 6 = .ok (.invokevirtual 187, 3) := by decide +kernel
theorem dX7_offShare_9 : decode cX7_offShare 9 = .ok (.dreturn, 1) := by decide +kernel
theorem dX7_mix_0 : decode cX7_mix 0 = .ok (.aload_n 0, 1) := by decide +kernel
theorem dX7_mix_1 : decode cX7_mix 1 = .ok (.ldc2_w 191, 3) := by decide +kernel
theorem dX7_mix_4 : decode cX7_mix 4 = .ok (.aload_n 0, 1) := by decide +kernel
theorem dX7_mix_5 : decode cX7_mix 5 = .ok (.getfield 193, 3) := by decide +kernel
theorem dX7_mix_8 : decode cX7_mix 8 = .ok (.lmul, 1) := by decide +kernel
theorem dX7_mix_9 : decode cX7_mix 9 = .ok (.lload_n 1, 1) := by decide +kernel
theorem dX7_mix_10 : decode cX7_mix 10 = .ok (.ladd, 1) := by decide +kernel
theorem dX7_mix_11 : decode cX7_mix 11 = .ok (.putfield 193, 3) := by decide +kernel
theorem dX7_mix_14 : decode cX7_mix 14 = .ok (.return_, 1) := by decide +kernel
theorem dX7_mixLease_0 : decode cX7_mixLease 0 = .ok (.iconst 0, 1) := by decide +kernel
theorem dX7_mixLease_1 : decode cX7_mixLease 1 = .ok (.istore_n 2, 1) := by decide +kernel
theorem dX7_mixLease_2 : decode cX7_mixLease 2 = .ok (.iload_n 2, 1) := by decide +kernel
theorem dX7_mixLease_3 : decode cX7_mixLease 3 = .ok (.bipush 9, 2) := by decide +kernel
theorem dX7_mixLease_5 : decode cX7_mixLease 5 = .ok (.if_icmp .ge 20, 3) := by decide +kernel
theorem dX7_mixLease_8 : decode cX7_mixLease 8 = .ok (.aload_n 0, 1) := by decide +kernel
theorem dX7_mixLease_9 : decode cX7_mixLease 9 = .ok (.aload_n 0, 1) := by decide +kernel
theorem dX7_mixLease_10 : decode cX7_mixLease 10 = .ok (.iload_n 1, 1) := by decide +kernel
theorem dX7_mixLease_11 : decode cX7_mixLease 11 = .ok (.iload_n 2, 1) := by decide +kernel
theorem dX7_mixLease_12 : decode cX7_mixLease 12 = .ok (.invokevirtual 140, 3) := by decide +kernel
theorem dX7_mixLease_15 : decode cX7_mixLease 15 = .ok (.i2l, 1) := by decide +kernel
theorem dX7_mixLease_16 : decode cX7_mixLease 16 = .ok (.invokevirtual 197, 3) := by decide +kernel
theorem dX7_mixLease_19 : decode cX7_mixLease 19 = .ok (.iinc 2 1, 3) := by decide +kernel
theorem dX7_mixLease_22 : decode cX7_mixLease 22 = .ok (.goto (-20), 3) := by decide +kernel
theorem dX7_mixLease_25 : decode cX7_mixLease 25 = .ok (.iconst 0, 1) := by decide +kernel
theorem dX7_mixLease_26 : decode cX7_mixLease 26 = .ok (.istore_n 2, 1) := by decide +kernel
theorem dX7_mixLease_27 : decode cX7_mixLease 27 = .ok (.iload_n 2, 1) := by decide +kernel
theorem dX7_mixLease_28 : decode cX7_mixLease 28 = .ok (.bipush 17, 2) := by decide +kernel
theorem dX7_mixLease_30 : decode cX7_mixLease 30 = .ok (.if_icmp .ge 20, 3) := by decide +kernel
theorem dX7_mixLease_33 : decode cX7_mixLease 33 = .ok (.aload_n 0, 1) := by decide +kernel
theorem dX7_mixLease_34 : decode cX7_mixLease 34 = .ok (.aload_n 0, 1) := by decide +kernel
theorem dX7_mixLease_35 : decode cX7_mixLease 35 = .ok (.iload_n 1, 1) := by decide +kernel
theorem dX7_mixLease_36 : decode cX7_mixLease 36 = .ok (.iload_n 2, 1) := by decide +kernel
theorem dX7_mixLease_37 : decode cX7_mixLease 37 = .ok (.invokevirtual 143, 3) := by decide +kernel
theorem dX7_mixLease_40 : decode cX7_mixLease 40 = .ok (.i2l, 1) := by decide +kernel
theorem dX7_mixLease_41 : decode cX7_mixLease 41 = .ok (.invokevirtual 197, 3) := by decide +kernel
theorem dX7_mixLease_44 : decode cX7_mixLease 44 = .ok (.iinc 2 1, 3) := by decide +kernel
theorem dX7_mixLease_47 : decode cX7_mixLease 47 = .ok (.goto (-20), 3) := by decide +kernel
theorem dX7_mixLease_50 : decode cX7_mixLease 50 = .ok (.aload_n 0, 1) := by decide +kernel
theorem dX7_mixLease_51 : decode cX7_mixLease 51 = .ok (.aload_n 0, 1) := by decide +kernel
theorem dX7_mixLease_52 : decode cX7_mixLease 52 = .ok (.iload_n 1, 1) := by decide +kernel
theorem dX7_mixLease_53 : decode cX7_mixLease 53 = .ok (.iconst 0, 1) := by decide +kernel
theorem dX7_mixLease_54 : decode cX7_mixLease 54 = .ok (.invokevirtual 146, 3) := by decide +kernel
theorem dX7_mixLease_57 : decode cX7_mixLease 57 = .ok (.i2l, 1) := by decide +kernel
theorem dX7_mixLease_58 : decode cX7_mixLease 58 = .ok (.invokevirtual 197, 3) := by decide +kernel
theorem dX7_mixLease_61 : decode cX7_mixLease 61 = .ok (.aload_n 0, 1) := by decide +kernel
theorem dX7_mixLease_62 : decode cX7_mixLease 62 = .ok (.aload_n 0, 1) := by decide +kernel
theorem dX7_mixLease_63 : decode cX7_mixLease 63 = .ok (.iload_n 1, 1) := by decide +kernel
theorem dX7_mixLease_64 : decode cX7_mixLease 64 = .ok (.iconst 1, 1) := by decide +kernel
theorem dX7_mixLease_65 : decode cX7_mixLease 65 = .ok (.invokevirtual 146, 3) := by decide +kernel
theorem dX7_mixLease_68 : decode cX7_mixLease 68 = .ok (.i2l, 1) := by decide +kernel
theorem dX7_mixLease_69 : decode cX7_mixLease 69 = .ok (.invokevirtual 197, 3) := by decide +kernel
theorem dX7_mixLease_72 : decode cX7_mixLease 72 = .ok (.iconst 0, 1) := by decide +kernel
theorem dX7_mixLease_73 : decode cX7_mixLease 73 = .ok (.istore_n 2, 1) := by decide +kernel
theorem dX7_mixLease_74 : decode cX7_mixLease 74 = .ok (.iload_n 2, 1) := by decide +kernel
theorem dX7_mixLease_75 : decode cX7_mixLease 75 = .ok (.iconst 4, 1) := by decide +kernel
theorem dX7_mixLease_76 : decode cX7_mixLease 76 = .ok (.if_icmp .ge 21, 3) := by decide +kernel
theorem dX7_mixLease_79 : decode cX7_mixLease 79 = .ok (.aload_n 0, 1) := by decide +kernel
theorem dX7_mixLease_80 : decode cX7_mixLease 80 = .ok (.aload_n 0, 1) := by decide +kernel
theorem dX7_mixLease_81 : decode cX7_mixLease 81 = .ok (.iload_n 1, 1) := by decide +kernel
theorem dX7_mixLease_82 : decode cX7_mixLease 82 = .ok (.iconst 3, 1) := by decide +kernel
theorem dX7_mixLease_83 : decode cX7_mixLease 83 = .ok (.iload_n 2, 1) := by decide +kernel
theorem dX7_mixLease_84 : decode cX7_mixLease 84 = .ok (.invokevirtual 170, 3) := by decide +kernel
theorem dX7_mixLease_87 : decode cX7_mixLease 87 = .ok (.i2l, 1) := by decide +kernel
theorem dX7_mixLease_88 : decode cX7_mixLease 88 = .ok (.invokevirtual 197, 3) := by decide +kernel
theorem dX7_mixLease_91 : decode cX7_mixLease 91 = .ok (.iinc 2 1, 3) := by decide +kernel
theorem dX7_mixLease_94 : decode cX7_mixLease 94 = .ok (.goto (-20), 3) := by decide +kernel
theorem dX7_mixLease_97 : decode cX7_mixLease 97 = .ok (.iconst 0, 1) := by decide +kernel
theorem dX7_mixLease_98 : decode cX7_mixLease 98 = .ok (.istore_n 2, 1) := by decide +kernel
theorem dX7_mixLease_99 : decode cX7_mixLease 99 = .ok (.iload_n 2, 1) := by decide +kernel
theorem dX7_mixLease_100 : decode cX7_mixLease 100 = .ok (.iconst 3, 1) := by decide +kernel
theorem dX7_mixLease_101 : decode cX7_mixLease 101 = .ok (.if_icmp .ge 42, 3) := by decide +kernel
theorem dX7_mixLease_104 : decode cX7_mixLease 104 = .ok (.aload_n 0, 1) := by decide +kernel
theorem dX7_mixLease_105 : decode cX7_mixLease 105 = .ok (.aload_n 0, 1) := by decide +kernel
theorem dX7_mixLease_106 : decode cX7_mixLease 106 = .ok (.iload_n 1, 1) := by decide +kernel
theorem dX7_mixLease_107 : decode cX7_mixLease 107 = .ok (.aload_n 0, 1) := by decide +kernel
theorem dX7_mixLease_108 : decode cX7_mixLease 108 = .ok (.getfield 7, 3) := by decide +kernel
theorem dX7_mixLease_111 : decode cX7_mixLease 111 = .ok (.iload_n 1, 1) := by decide +kernel
theorem dX7_mixLease_112 : decode cX7_mixLease 112 = .ok (.invokestatic 32, 3) := by decide +kernel
theorem dX7_mixLease_115 : decode cX7_mixLease 115 = .ok (.iaload, 1) := by decide +kernel
theorem dX7_mixLease_116 : decode cX7_mixLease 116 = .ok (.bipush 12, 2) := by decide +kernel
theorem dX7_mixLease_118 : decode cX7_mixLease 118 = .ok (.aload_n 0, 1) := by decide +kernel
theorem dX7_mixLease_119 : decode cX7_mixLease 119 = .ok (.getfield 7, 3) := by decide +kernel
theorem dX7_mixLease_122 : decode cX7_mixLease 122 = .ok (.iload_n 1, 1) := by decide +kernel
theorem dX7_mixLease_123 : decode cX7_mixLease 123 = .ok (.invokestatic 32, 3) := by decide +kernel
theorem dX7_mixLease_126 : decode cX7_mixLease 126 = .ok (.iconst 2, 1) := by decide +kernel
theorem dX7_mixLease_127 : decode cX7_mixLease 127 = .ok (.iadd, 1) := by decide +kernel
theorem dX7_mixLease_128 : decode cX7_mixLease 128 = .ok (.iaload, 1) := by decide +kernel
theorem dX7_mixLease_129 : decode cX7_mixLease 129 = .ok (.iload_n 2, 1) := by decide +kernel
theorem dX7_mixLease_130 : decode cX7_mixLease 130 = .ok (.invokevirtual 173, 3) := by decide +kernel
theorem dX7_mixLease_133 : decode cX7_mixLease 133 = .ok (.i2l, 1) := by decide +kernel
theorem dX7_mixLease_134 : decode cX7_mixLease 134 = .ok (.invokevirtual 197, 3) := by decide +kernel
theorem dX7_mixLease_137 : decode cX7_mixLease 137 = .ok (.iinc 2 1, 3) := by decide +kernel
theorem dX7_mixLease_140 : decode cX7_mixLease 140 = .ok (.goto (-41), 3) := by decide +kernel
theorem dX7_mixLease_143 : decode cX7_mixLease 143 = .ok (.aload_n 0, 1) := by decide +kernel
theorem dX7_mixLease_144 : decode cX7_mixLease 144 = .ok (.aload_n 0, 1) := by decide +kernel
theorem dX7_mixLease_145 : decode cX7_mixLease 145 = .ok (.iload_n 1, 1) := by decide +kernel
theorem dX7_mixLease_146 : decode cX7_mixLease 146 = .ok (.ldc 201, 2) := by decide +kernel
theorem dX7_mixLease_148 : decode cX7_mixLease 148 = .ok (.invokevirtual 178, 3) := by decide +kernel
theorem dX7_mixLease_151 : decode cX7_mixLease 151 = .ok (.i2l, 1) := by decide +kernel
theorem dX7_mixLease_152 : decode cX7_mixLease 152 = .ok (.invokevirtual 197, 3) := by decide +kernel
theorem dX7_mixLease_155 : decode cX7_mixLease 155 = .ok (.aload_n 0, 1) := by decide +kernel
theorem dX7_mixLease_156 : decode cX7_mixLease 156 = .ok (.aload_n 0, 1) := by decide +kernel
theorem dX7_mixLease_157 : decode cX7_mixLease 157 = .ok (.iload_n 1, 1) := by decide +kernel
theorem dX7_mixLease_158 : decode cX7_mixLease 158 = .ok (.invokevirtual 181, 3) := by decide +kernel
theorem dX7_mixLease_161 : decode cX7_mixLease 161 = .ok (.i2l, 1) := by decide +kernel
theorem dX7_mixLease_162 : decode cX7_mixLease 162 = .ok (.invokevirtual 197, 3) := by decide +kernel
theorem dX7_mixLease_165 : decode cX7_mixLease 165 = .ok (.aload_n 0, 1) := by decide +kernel
theorem dX7_mixLease_166 : decode cX7_mixLease 166 = .ok (.aload_n 0, 1) := by decide +kernel
theorem dX7_mixLease_167 : decode cX7_mixLease 167 = .ok (.iload_n 1, 1) := by decide +kernel
theorem dX7_mixLease_168 : decode cX7_mixLease 168 = .ok (.bipush 100, 2) := by decide +kernel
theorem dX7_mixLease_170 : decode cX7_mixLease 170 = .ok (.iconst 1, 1) := by decide +kernel
theorem dX7_mixLease_171 : decode cX7_mixLease 171 = .ok (.invokevirtual 184, 3) := by decide +kernel
theorem dX7_mixLease_174 : decode cX7_mixLease 174 = .ok (.i2l, 1) := by decide +kernel
theorem dX7_mixLease_175 : decode cX7_mixLease 175 = .ok (.invokevirtual 197, 3) := by decide +kernel
theorem dX7_mixLease_178 : decode cX7_mixLease 178 = .ok (.return_, 1) := by decide +kernel
theorem dX7_digest_0 : decode cX7_digest 0 = .ok (.aload_n 0, 1) := by decide +kernel
theorem dX7_digest_1 : decode cX7_digest 1 = .ok (.iconst 0, 1) := by decide +kernel
theorem dX7_digest_2 : decode cX7_digest 2 = .ok (.putfield 25, 3) := by decide +kernel
theorem dX7_digest_5 : decode cX7_digest 5 = .ok (.aload_n 0, 1) := by decide +kernel
theorem dX7_digest_6 : decode cX7_digest 6 = .ok (.ldc2_w 202, 3) := by decide +kernel
theorem dX7_digest_9 : decode cX7_digest 9 = .ok (.putfield 193, 3) := by decide +kernel
theorem dX7_digest_12 : decode cX7_digest 12 = .ok (.iconst 0, 1) := by decide +kernel
theorem dX7_digest_13 : decode cX7_digest 13 = .ok (.istore_n 1, 1) := by decide +kernel
theorem dX7_digest_14 : decode cX7_digest 14 = .ok (.iload_n 1, 1) := by decide +kernel
theorem dX7_digest_15 : decode cX7_digest 15 = .ok (.bipush 11, 2) := by decide +kernel
theorem dX7_digest_17 : decode cX7_digest 17 = .ok (.if_icmp .ge 19, 3) := by decide +kernel
theorem dX7_digest_20 : decode cX7_digest 20 = .ok (.aload_n 0, 1) := by decide +kernel
theorem dX7_digest_21 : decode cX7_digest 21 = .ok (.aload_n 0, 1) := by decide +kernel
theorem dX7_digest_22 : decode cX7_digest 22 = .ok (.iload_n 1, 1) := by decide +kernel
theorem dX7_digest_23 : decode cX7_digest 23 = .ok (.invokevirtual 161, 3) := by decide +kernel
theorem dX7_digest_26 : decode cX7_digest 26 = .ok (.i2l, 1) := by decide +kernel
theorem dX7_digest_27 : decode cX7_digest 27 = .ok (.invokevirtual 197, 3) := by decide +kernel
theorem dX7_digest_30 : decode cX7_digest 30 = .ok (.iinc 1 1, 3) := by decide +kernel
theorem dX7_digest_33 : decode cX7_digest 33 = .ok (.goto (-19), 3) := by decide +kernel
theorem dX7_digest_36 : decode cX7_digest 36 = .ok (.iconst 0, 1) := by decide +kernel
theorem dX7_digest_37 : decode cX7_digest 37 = .ok (.istore_n 1, 1) := by decide +kernel
theorem dX7_digest_38 : decode cX7_digest 38 = .ok (.iload_n 1, 1) := by decide +kernel
theorem dX7_digest_39 : decode cX7_digest 39 = .ok (.aload_n 0, 1) := by decide +kernel
theorem dX7_digest_40 : decode cX7_digest 40 = .ok (.getfield 7, 3) := by decide +kernel
theorem dX7_digest_43 : decode cX7_digest 43 = .ok (.iconst 0, 1) := by decide +kernel
theorem dX7_digest_44 : decode cX7_digest 44 = .ok (.iaload, 1) := by decide +kernel
theorem dX7_digest_45 : decode cX7_digest 45 = .ok (.if_icmp .ge 14, 3) := by decide +kernel
theorem dX7_digest_48 : decode cX7_digest 48 = .ok (.aload_n 0, 1) := by decide +kernel
theorem dX7_digest_49 : decode cX7_digest 49 = .ok (.iload_n 1, 1) := by decide +kernel
theorem dX7_digest_50 : decode cX7_digest 50 = .ok (.invokevirtual 204, 3) := by decide +kernel
theorem dX7_digest_53 : decode cX7_digest 53 = .ok (.iinc 1 1, 3) := by decide +kernel
theorem dX7_digest_56 : decode cX7_digest 56 = .ok (.goto (-18), 3) := by decide +kernel
theorem dX7_digest_59 : decode cX7_digest 59 = .ok (.iconst 0, 1) := by decide +kernel
theorem dX7_digest_60 : decode cX7_digest 60 = .ok (.istore_n 1, 1) := by decide +kernel
theorem dX7_digest_61 : decode cX7_digest 61 = .ok (.iload_n 1, 1) := by decide +kernel
theorem dX7_digest_62 : decode cX7_digest 62 = .ok (.bipush 6, 2) := by decide +kernel
theorem dX7_digest_64 : decode cX7_digest 64 = .ok (.aload_n 0, 1) := by decide +kernel
theorem dX7_digest_65 : decode cX7_digest 65 = .ok (.getfield 7, 3) := by decide +kernel
theorem dX7_digest_68 : decode cX7_digest 68 = .ok (.iconst 1, 1) := by decide +kernel
theorem dX7_digest_69 : decode cX7_digest 69 = .ok (.iaload, 1) := by decide +kernel
theorem dX7_digest_70 : decode cX7_digest 70 = .ok (.imul, 1) := by decide +kernel
theorem dX7_digest_71 : decode cX7_digest 71 = .ok (.if_icmp .ge 24, 3) := by decide +kernel
theorem dX7_digest_74 : decode cX7_digest 74 = .ok (.aload_n 0, 1) := by decide +kernel
theorem dX7_digest_75 : decode cX7_digest 75 = .ok (.aload_n 0, 1) := by decide +kernel
theorem dX7_digest_76 : decode cX7_digest 76 = .ok (.getfield 7, 3) := by decide +kernel
theorem dX7_digest_79 : decode cX7_digest 79 = .ok (.sipush 179, 3) := by decide +kernel
theorem dX7_digest_82 : decode cX7_digest 82 = .ok (.iload_n 1, 1) := by decide +kernel
theorem dX7_digest_83 : decode cX7_digest 83 = .ok (.iadd, 1) := by decide +kernel
theorem dX7_digest_84 : decode cX7_digest 84 = .ok (.iaload, 1) := by decide +kernel
theorem dX7_digest_85 : decode cX7_digest 85 = .ok (.i2l, 1) := by decide +kernel
theorem dX7_digest_86 : decode cX7_digest 86 = .ok (.invokevirtual 197, 3) := by decide +kernel
theorem dX7_digest_89 : decode cX7_digest 89 = .ok (.iinc 1 1, 3) := by decide +kernel
theorem dX7_digest_92 : decode cX7_digest 92 = .ok (.goto (-31), 3) := by decide +kernel
theorem dX7_digest_95 : decode cX7_digest 95 = .ok (.aload_n 0, 1) := by decide +kernel
theorem dX7_digest_96 : decode cX7_digest 96 = .ok (.aload_n 0, 1) := by decide +kernel
theorem dX7_digest_97 : decode cX7_digest 97 = .ok (.invokevirtual 187, 3) := by decide +kernel
theorem dX7_digest_100 : decode cX7_digest 100 = .ok (.invokestatic 207, 3) := by decide +kernel
theorem dX7_digest_103 : decode cX7_digest 103 = .ok (.invokevirtual 197, 3) := by decide +kernel
theorem dX7_digest_106 : decode cX7_digest 106 = .ok (.aload_n 0, 1) := by decide +kernel
theorem dX7_digest_107 : decode cX7_digest 107 = .ok (.aload_n 0, 1) := by decide +kernel
theorem dX7_digest_108 : decode cX7_digest 108 = .ok (.getfield 114, 3) := by decide +kernel
theorem dX7_digest_111 : decode cX7_digest 111 = .ok (.i2l, 1) := by decide +kernel
theorem dX7_digest_112 : decode cX7_digest 112 = .ok (.invokevirtual 197, 3) := by decide +kernel
theorem dX7_digest_115 : decode cX7_digest 115 = .ok (.iconst 0, 1) := by decide +kernel
theorem dX7_digest_116 : decode cX7_digest 116 = .ok (.istore_n 1, 1) := by decide +kernel
theorem dX7_digest_117 : decode cX7_digest 117 = .ok (.iload_n 1, 1) := by decide +kernel
theorem dX7_digest_118 : decode cX7_digest 118 = .ok (.aload_n 0, 1) := by decide +kernel
theorem dX7_digest_119 : decode cX7_digest 119 = .ok (.getfield 114, 3) := by decide +kernel
theorem dX7_digest_122 : decode cX7_digest 122 = .ok (.if_icmp .ge 20, 3) := by decide +kernel
theorem dX7_digest_125 : decode cX7_digest 125 = .ok (.aload_n 0, 1) := by decide +kernel
theorem dX7_digest_126 : decode cX7_digest 126 = .ok (.aload_n 0, 1) := by decide +kernel
theorem dX7_digest_127 : decode cX7_digest 127 = .ok (.getfield 19, 3) := by decide +kernel
theorem dX7_digest_130 : decode cX7_digest 130 = .ok (.iload_n 1, 1) := by decide +kernel
theorem dX7_digest_131 : decode cX7_digest 131 = .ok (.iaload, 1) := by decide +kernel
theorem dX7_digest_132 : decode cX7_digest 132 = .ok (.i2l, 1) := by decide +kernel
theorem dX7_digest_133 : decode cX7_digest 133 = .ok (.invokevirtual 197, 3) := by decide +kernel
theorem dX7_digest_136 : decode cX7_digest 136 = .ok (.iinc 1 1, 3) := by decide +kernel
theorem dX7_digest_139 : decode cX7_digest 139 = .ok (.goto (-22), 3) := by decide +kernel
theorem dX7_digest_142 : decode cX7_digest 142 = .ok (.aload_n 0, 1) := by decide +kernel
theorem dX7_digest_143 : decode cX7_digest 143 = .ok (.getfield 193, 3) := by decide +kernel
theorem dX7_digest_146 : decode cX7_digest 146 = .ok (.lreturn, 1) := by decide +kernel
theorem dJxe99ae_isNaN_b9ae7_0 : decode cJxe99ae_isNaN_b9ae7 0 = .ok (.dload_n 0, 1) := by decide +kernel
theorem dJxe99ae_isNaN_b9ae7_1 : decode cJxe99ae_isNaN_b9ae7 1 = .ok (.dload_n 0, 1) := by decide +kernel
theorem dJxe99ae_isNaN_b9ae7_2 : decode cJxe99ae_isNaN_b9ae7 2 = .ok (.dcmp .l, 1) := by decide +kernel
theorem dJxe99ae_isNaN_b9ae7_3 : decode cJxe99ae_isNaN_b9ae7 3 = .ok (.ifCond .eq 7, 3) := by decide +kernel
theorem dJxe99ae_isNaN_b9ae7_6 : decode cJxe99ae_isNaN_b9ae7 6 = .ok (.iconst 1, 1) := by decide +kernel
theorem dJxe99ae_isNaN_b9ae7_7 : decode cJxe99ae_isNaN_b9ae7 7 = .ok (.goto 4, 3) := by decide +kernel
theorem dJxe99ae_isNaN_b9ae7_10 : decode cJxe99ae_isNaN_b9ae7 10 = .ok (.iconst 0, 1) := by decide +kernel
theorem dJxe99ae_isNaN_b9ae7_11 : decode cJxe99ae_isNaN_b9ae7 11 = .ok (.ireturn, 1) := by decide +kernel
theorem dJxe99ae_doubleToLongBits_ccdee_0 : decode cJxe99ae_doubleToLongBits_ccdee 0 = .ok (.dload_n 0, 1) := by decide +kernel
theorem dJxe99ae_doubleToLongBits_ccdee_1 : decode cJxe99ae_doubleToLongBits_ccdee 1 = .ok (.invokestatic 122, 3) := by decide +kernel
theorem dJxe99ae_doubleToLongBits_ccdee_4 : decode cJxe99ae_doubleToLongBits_ccdee 4 = .ok (.ifCond .ne 8, 3) := by decide +kernel
theorem dJxe99ae_doubleToLongBits_ccdee_7 : decode cJxe99ae_doubleToLongBits_ccdee 7 = .ok (.dload_n 0, 1) := by decide +kernel
theorem dJxe99ae_doubleToLongBits_ccdee_8 : decode cJxe99ae_doubleToLongBits_ccdee 8 = .ok (.invokestatic 134, 3) := by decide +kernel
theorem dJxe99ae_doubleToLongBits_ccdee_11 : decode cJxe99ae_doubleToLongBits_ccdee 11 = .ok (.lreturn, 1) := by decide +kernel
theorem dJxe99ae_doubleToLongBits_ccdee_12 : decode cJxe99ae_doubleToLongBits_ccdee 12 = .ok (.ldc2_w 137, 3) := by decide +kernel
theorem dJxe99ae_doubleToLongBits_ccdee_15 : decode cJxe99ae_doubleToLongBits_ccdee 15 = .ok (.lreturn, 1) := by decide +kernel
theorem dJ9_max_7cf53_0 : decode cJ9_max_7cf53 0 = .ok (.iload_n 0, 1) := by decide +kernel
theorem dJ9_max_7cf53_1 : decode cJ9_max_7cf53 1 = .ok (.iload_n 1, 1) := by decide +kernel
theorem dJ9_max_7cf53_2 : decode cJ9_max_7cf53 2 = .ok (.if_icmp .lt 7, 3) := by decide +kernel
theorem dJ9_max_7cf53_5 : decode cJ9_max_7cf53 5 = .ok (.iload_n 0, 1) := by decide +kernel
theorem dJ9_max_7cf53_6 : decode cJ9_max_7cf53 6 = .ok (.goto 4, 3) := by decide +kernel
theorem dJ9_max_7cf53_9 : decode cJ9_max_7cf53 9 = .ok (.iload_n 1, 1) := by decide +kernel
theorem dJ9_max_7cf53_10 : decode cJ9_max_7cf53 10 = .ok (.ireturn, 1) := by decide +kernel
theorem dJ9_min_7cf53_0 : decode cJ9_min_7cf53 0 = .ok (.iload_n 0, 1) := by decide +kernel
theorem dJ9_min_7cf53_1 : decode cJ9_min_7cf53 1 = .ok (.iload_n 1, 1) := by decide +kernel
theorem dJ9_min_7cf53_2 : decode cJ9_min_7cf53 2 = .ok (.if_icmp .gt 7, 3) := by decide +kernel
theorem dJ9_min_7cf53_5 : decode cJ9_min_7cf53 5 = .ok (.iload_n 0, 1) := by decide +kernel
theorem dJ9_min_7cf53_6 : decode cJ9_min_7cf53 6 = .ok (.goto 4, 3) := by decide +kernel
theorem dJ9_min_7cf53_9 : decode cJ9_min_7cf53 9 = .ok (.iload_n 1, 1) := by decide +kernel
theorem dJ9_min_7cf53_10 : decode cJ9_min_7cf53 10 = .ok (.ireturn, 1) := by decide +kernel
theorem dL_open_0 : decode cL_open 0 = .ok (.aload 5, 2) := by decide +kernel
theorem dL_open_2 : decode cL_open 2 = .ok (.iconst 0, 1) := by decide +kernel
theorem dL_open_3 : decode cL_open 3 = .ok (.aload_n 0, 1) := by decide +kernel
theorem dL_open_4 : decode cL_open 4 = .ok (.iload_n 1, 1) := by decide +kernel
theorem dL_open_5 : decode cL_open 5 = .ok (.iload_n 2, 1) := by decide +kernel
theorem dL_open_6 : decode cL_open 6 = .ok (.iload_n 3, 1) := by decide +kernel
theorem dL_open_7 : decode cL_open 7 = .ok (.iload 4, 2) := by decide +kernel
theorem dL_open_9 : decode cL_open 9 = .ok (.invokevirtual 7, 3) := by decide +kernel
theorem dL_open_12 : decode cL_open 12 = .ok (.i2l, 1) := by decide +kernel
theorem dL_open_13 : decode cL_open 13 = .ok (.lastore, 1) := by decide +kernel
theorem dL_open_14 : decode cL_open 14 = .ok (.goto 11, 3) := by decide +kernel
theorem dL_open_17 : decode cL_open 17 = .ok (.astore 6, 2) := by decide +kernel
theorem dL_open_19 : decode cL_open 19 = .ok (.iconst 1, 1) := by decide +kernel
theorem dL_open_20 : decode cL_open 20 = .ok (.ireturn, 1) := by decide +kernel
theorem dL_open_21 : decode cL_open 21 = .ok (.astore 6, 2) := by decide +kernel
theorem dL_open_23 : decode cL_open 23 = .ok (.iconst 2, 1) := by decide +kernel
theorem dL_open_24 : decode cL_open 24 = .ok (.ireturn, 1) := by decide +kernel
theorem dL_open_25 : decode cL_open 25 = .ok (.iconst 0, 1) := by decide +kernel
theorem dL_open_26 : decode cL_open 26 = .ok (.ireturn, 1) := by decide +kernel
theorem dL_term_0 : decode cL_term 0 = .ok (.aload 4, 2) := by decide +kernel
theorem dL_term_2 : decode cL_term 2 = .ok (.iconst 0, 1) := by decide +kernel
theorem dL_term_3 : decode cL_term 3 = .ok (.aload_n 0, 1) := by decide +kernel
theorem dL_term_4 : decode cL_term 4 = .ok (.iload_n 1, 1) := by decide +kernel
theorem dL_term_5 : decode cL_term 5 = .ok (.iload_n 2, 1) := by decide +kernel
theorem dL_term_6 : decode cL_term 6 = .ok (.iload_n 3, 1) := by decide +kernel
theorem dL_term_7 : decode cL_term 7 = .ok (.invokevirtual 17, 3) := by decide +kernel
theorem dL_term_10 : decode cL_term 10 = .ok (.i2l, 1) := by decide +kernel
theorem dL_term_11 : decode cL_term 11 = .ok (.lastore, 1) := by decide +kernel
theorem dL_term_12 : decode cL_term 12 = .ok (.goto 15, 3) := by decide +kernel
theorem dL_term_15 : decode cL_term 15 = .ok (.astore 5, 2) := by decide +kernel
theorem dL_term_17 : decode cL_term 17 = .ok (.iconst 1, 1) := by decide +kernel
theorem dL_term_18 : decode cL_term 18 = .ok (.ireturn, 1) := by decide +kernel
theorem dL_term_19 : decode cL_term 19 = .ok (.astore 5, 2) := by decide +kernel
theorem dL_term_21 : decode cL_term 21 = .ok (.iconst 2, 1) := by decide +kernel
theorem dL_term_22 : decode cL_term 22 = .ok (.ireturn, 1) := by decide +kernel
theorem dL_term_23 : decode cL_term 23 = .ok (.astore 5, 2) := by decide +kernel
theorem dL_term_25 : decode cL_term 25 = .ok (.iconst 3, 1) := by decide +kernel
theorem dL_term_26 : decode cL_term 26 = .ok (.ireturn, 1) := by decide +kernel
theorem dL_term_27 : decode cL_term 27 = .ok (.iconst 0, 1) := by decide +kernel
theorem dL_term_28 : decode cL_term 28 = .ok (.ireturn, 1) := by decide +kernel
theorem dL_rent_0 : decode cL_rent 0 = .ok (.aload_n 3, 1) := by decide +kernel
theorem dL_rent_1 : decode cL_rent 1 = .ok (.iconst 0, 1) := by decide +kernel
theorem dL_rent_2 : decode cL_rent 2 = .ok (.aload_n 0, 1) := by decide +kernel
theorem dL_rent_3 : decode cL_rent 3 = .ok (.iload_n 1, 1) := by decide +kernel
theorem dL_rent_4 : decode cL_rent 4 = .ok (.iload_n 2, 1) := by decide +kernel
theorem dL_rent_5 : decode cL_rent 5 = .ok (.invokevirtual 23, 3) := by decide +kernel
theorem dL_rent_8 : decode cL_rent 8 = .ok (.i2l, 1) := by decide +kernel
theorem dL_rent_9 : decode cL_rent 9 = .ok (.lastore, 1) := by decide +kernel
theorem dL_rent_10 : decode cL_rent 10 = .ok (.goto 15, 3) := by decide +kernel
theorem dL_rent_13 : decode cL_rent 13 = .ok (.astore 4, 2) := by decide +kernel
theorem dL_rent_15 : decode cL_rent 15 = .ok (.iconst 1, 1) := by decide +kernel
theorem dL_rent_16 : decode cL_rent 16 = .ok (.ireturn, 1) := by decide +kernel
theorem dL_rent_17 : decode cL_rent 17 = .ok (.astore 4, 2) := by decide +kernel
theorem dL_rent_19 : decode cL_rent 19 = .ok (.iconst 2, 1) := by decide +kernel
theorem dL_rent_20 : decode cL_rent 20 = .ok (.ireturn, 1) := by decide +kernel
theorem dL_rent_21 : decode cL_rent 21 = .ok (.astore 4, 2) := by decide +kernel
theorem dL_rent_23 : decode cL_rent 23 = .ok (.iconst 3, 1) := by decide +kernel
theorem dL_rent_24 : decode cL_rent 24 = .ok (.ireturn, 1) := by decide +kernel
theorem dL_rent_25 : decode cL_rent 25 = .ok (.iconst 0, 1) := by decide +kernel
theorem dL_rent_26 : decode cL_rent 26 = .ok (.ireturn, 1) := by decide +kernel
theorem dL_endPart_0 : decode cL_endPart 0 = .ok (.aload 4, 2) := by decide +kernel
theorem dL_endPart_2 : decode cL_endPart 2 = .ok (.iconst 0, 1) := by decide +kernel
theorem dL_endPart_3 : decode cL_endPart 3 = .ok (.aload_n 0, 1) := by decide +kernel
theorem dL_endPart_4 : decode cL_endPart 4 = .ok (.iload_n 1, 1) := by decide +kernel
theorem dL_endPart_5 : decode cL_endPart 5 = .ok (.iload_n 2, 1) := by decide +kernel
theorem dL_endPart_6 : decode cL_endPart 6 = .ok (.iload_n 3, 1) := by decide +kernel
theorem dL_endPart_7 : decode cL_endPart 7 = .ok (.invokevirtual 27, 3) := by decide +kernel
theorem dL_endPart_10 : decode cL_endPart 10 = .ok (.i2l, 1) := by decide +kernel
theorem dL_endPart_11 : decode cL_endPart 11 = .ok (.lastore, 1) := by decide +kernel
theorem dL_endPart_12 : decode cL_endPart 12 = .ok (.goto 15, 3) := by decide +kernel
theorem dL_endPart_15 : decode cL_endPart 15 = .ok (.astore 5, 2) := by decide +kernel
theorem dL_endPart_17 : decode cL_endPart 17 = .ok (.iconst 1, 1) := by decide +kernel
theorem dL_endPart_18 : decode cL_endPart 18 = .ok (.ireturn, 1) := by decide +kernel
theorem dL_endPart_19 : decode cL_endPart 19 = .ok (.astore 5, 2) := by decide +kernel
theorem dL_endPart_21 : decode cL_endPart 21 = .ok (.iconst 2, 1) := by decide +kernel
theorem dL_endPart_22 : decode cL_endPart 22 = .ok (.ireturn, 1) := by decide +kernel
theorem dL_endPart_23 : decode cL_endPart 23 = .ok (.astore 5, 2) := by decide +kernel
theorem dL_endPart_25 : decode cL_endPart 25 = .ok (.iconst 3, 1) := by decide +kernel
theorem dL_endPart_26 : decode cL_endPart 26 = .ok (.ireturn, 1) := by decide +kernel
theorem dL_endPart_27 : decode cL_endPart 27 = .ok (.iconst 0, 1) := by decide +kernel
theorem dL_endPart_28 : decode cL_endPart 28 = .ok (.ireturn, 1) := by decide +kernel
theorem dL_impair_0 : decode cL_impair 0 = .ok (.aload_n 3, 1) := by decide +kernel
theorem dL_impair_1 : decode cL_impair 1 = .ok (.iconst 0, 1) := by decide +kernel
theorem dL_impair_2 : decode cL_impair 2 = .ok (.aload_n 0, 1) := by decide +kernel
theorem dL_impair_3 : decode cL_impair 3 = .ok (.iload_n 1, 1) := by decide +kernel
theorem dL_impair_4 : decode cL_impair 4 = .ok (.iload_n 2, 1) := by decide +kernel
theorem dL_impair_5 : decode cL_impair 5 = .ok (.invokevirtual 30, 3) := by decide +kernel
theorem dL_impair_8 : decode cL_impair 8 = .ok (.i2l, 1) := by decide +kernel
theorem dL_impair_9 : decode cL_impair 9 = .ok (.lastore, 1) := by decide +kernel
theorem dL_impair_10 : decode cL_impair 10 = .ok (.goto 15, 3) := by decide +kernel
theorem dL_impair_13 : decode cL_impair 13 = .ok (.astore 4, 2) := by decide +kernel
theorem dL_impair_15 : decode cL_impair 15 = .ok (.iconst 1, 1) := by decide +kernel
theorem dL_impair_16 : decode cL_impair 16 = .ok (.ireturn, 1) := by decide +kernel
theorem dL_impair_17 : decode cL_impair 17 = .ok (.astore 4, 2) := by decide +kernel
theorem dL_impair_19 : decode cL_impair 19 = .ok (.iconst 2, 1) := by decide +kernel
theorem dL_impair_20 : decode cL_impair 20 = .ok (.ireturn, 1) := by decide +kernel
theorem dL_impair_21 : decode cL_impair 21 = .ok (.astore 4, 2) := by decide +kernel
theorem dL_impair_23 : decode cL_impair 23 = .ok (.iconst 3, 1) := by decide +kernel
theorem dL_impair_24 : decode cL_impair 24 = .ok (.ireturn, 1) := by decide +kernel
theorem dL_impair_25 : decode cL_impair 25 = .ok (.iconst 0, 1) := by decide +kernel
theorem dL_impair_26 : decode cL_impair 26 = .ok (.ireturn, 1) := by decide +kernel
theorem dL_sublet_0 : decode cL_sublet 0 = .ok (.aload 5, 2) := by decide +kernel
theorem dL_sublet_2 : decode cL_sublet 2 = .ok (.iconst 0, 1) := by decide +kernel
theorem dL_sublet_3 : decode cL_sublet 3 = .ok (.aload_n 0, 1) := by decide +kernel
theorem dL_sublet_4 : decode cL_sublet 4 = .ok (.iload_n 1, 1) := by decide +kernel
theorem dL_sublet_5 : decode cL_sublet 5 = .ok (.iload_n 2, 1) := by decide +kernel
theorem dL_sublet_6 : decode cL_sublet 6 = .ok (.iload_n 3, 1) := by decide +kernel
theorem dL_sublet_7 : decode cL_sublet 7 = .ok (.iload 4, 2) := by decide +kernel
theorem dL_sublet_9 : decode cL_sublet 9 = .ok (.invokevirtual 33, 3) := by decide +kernel
theorem dL_sublet_12 : decode cL_sublet 12 = .ok (.i2l, 1) := by decide +kernel
theorem dL_sublet_13 : decode cL_sublet 13 = .ok (.lastore, 1) := by decide +kernel
theorem dL_sublet_14 : decode cL_sublet 14 = .ok (.goto 15, 3) := by decide +kernel
theorem dL_sublet_17 : decode cL_sublet 17 = .ok (.astore 6, 2) := by decide +kernel
theorem dL_sublet_19 : decode cL_sublet 19 = .ok (.iconst 1, 1) := by decide +kernel
theorem dL_sublet_20 : decode cL_sublet 20 = .ok (.ireturn, 1) := by decide +kernel
theorem dL_sublet_21 : decode cL_sublet 21 = .ok (.astore 6, 2) := by decide +kernel
theorem dL_sublet_23 : decode cL_sublet 23 = .ok (.iconst 2, 1) := by decide +kernel
theorem dL_sublet_24 : decode cL_sublet 24 = .ok (.ireturn, 1) := by decide +kernel
theorem dL_sublet_25 : decode cL_sublet 25 = .ok (.astore 6, 2) := by decide +kernel
theorem dL_sublet_27 : decode cL_sublet 27 = .ok (.iconst 3, 1) := by decide +kernel
theorem dL_sublet_28 : decode cL_sublet 28 = .ok (.ireturn, 1) := by decide +kernel
theorem dL_sublet_29 : decode cL_sublet 29 = .ok (.iconst 0, 1) := by decide +kernel
theorem dL_sublet_30 : decode cL_sublet 30 = .ok (.ireturn, 1) := by decide +kernel
theorem dL_pass_0 : decode cL_pass 0 = .ok (.aload_n 2, 1) := by decide +kernel
theorem dL_pass_1 : decode cL_pass 1 = .ok (.iconst 0, 1) := by decide +kernel
theorem dL_pass_2 : decode cL_pass 2 = .ok (.aload_n 0, 1) := by decide +kernel
theorem dL_pass_3 : decode cL_pass 3 = .ok (.iload_n 1, 1) := by decide +kernel
theorem dL_pass_4 : decode cL_pass 4 = .ok (.invokevirtual 36, 3) := by decide +kernel
theorem dL_pass_7 : decode cL_pass 7 = .ok (.i2l, 1) := by decide +kernel
theorem dL_pass_8 : decode cL_pass 8 = .ok (.lastore, 1) := by decide +kernel
theorem dL_pass_9 : decode cL_pass 9 = .ok (.goto 9, 3) := by decide +kernel
theorem dL_pass_12 : decode cL_pass 12 = .ok (.astore_n 3, 1) := by decide +kernel
theorem dL_pass_13 : decode cL_pass 13 = .ok (.iconst 1, 1) := by decide +kernel
theorem dL_pass_14 : decode cL_pass 14 = .ok (.ireturn, 1) := by decide +kernel
theorem dL_pass_15 : decode cL_pass 15 = .ok (.astore_n 3, 1) := by decide +kernel
theorem dL_pass_16 : decode cL_pass 16 = .ok (.iconst 2, 1) := by decide +kernel
theorem dL_pass_17 : decode cL_pass 17 = .ok (.ireturn, 1) := by decide +kernel
theorem dL_pass_18 : decode cL_pass 18 = .ok (.iconst 0, 1) := by decide +kernel
theorem dL_pass_19 : decode cL_pass 19 = .ok (.ireturn, 1) := by decide +kernel
theorem dL_append_0 : decode cL_append 0 = .ok (.aload_n 2, 1) := by decide +kernel
theorem dL_append_1 : decode cL_append 1 = .ok (.iconst 0, 1) := by decide +kernel
theorem dL_append_2 : decode cL_append 2 = .ok (.aload_n 0, 1) := by decide +kernel
theorem dL_append_3 : decode cL_append 3 = .ok (.iload_n 1, 1) := by decide +kernel
theorem dL_append_4 : decode cL_append 4 = .ok (.invokevirtual 40, 3) := by decide +kernel
theorem dL_append_7 : decode cL_append 7 = .ok (.i2l, 1) := by decide +kernel
theorem dL_append_8 : decode cL_append 8 = .ok (.lastore, 1) := by decide +kernel
theorem dL_append_9 : decode cL_append 9 = .ok (.goto 9, 3) := by decide +kernel
theorem dL_append_12 : decode cL_append 12 = .ok (.astore_n 3, 1) := by decide +kernel
theorem dL_append_13 : decode cL_append 13 = .ok (.iconst 1, 1) := by decide +kernel
theorem dL_append_14 : decode cL_append 14 = .ok (.ireturn, 1) := by decide +kernel
theorem dL_append_15 : decode cL_append 15 = .ok (.astore_n 3, 1) := by decide +kernel
theorem dL_append_16 : decode cL_append 16 = .ok (.iconst 2, 1) := by decide +kernel
theorem dL_append_17 : decode cL_append 17 = .ok (.ireturn, 1) := by decide +kernel
theorem dL_append_18 : decode cL_append 18 = .ok (.iconst 0, 1) := by decide +kernel
theorem dL_append_19 : decode cL_append 19 = .ok (.ireturn, 1) := by decide +kernel
theorem dL_openAll_0 : decode cL_openAll 0 = .ok (.aload_n 1, 1) := by decide +kernel
theorem dL_openAll_1 : decode cL_openAll 1 = .ok (.iconst 0, 1) := by decide +kernel
theorem dL_openAll_2 : decode cL_openAll 2 = .ok (.aload_n 0, 1) := by decide +kernel
theorem dL_openAll_3 : decode cL_openAll 3 = .ok (.invokevirtual 43, 3) := by decide +kernel
theorem dL_openAll_6 : decode cL_openAll 6 = .ok (.i2l, 1) := by decide +kernel
theorem dL_openAll_7 : decode cL_openAll 7 = .ok (.lastore, 1) := by decide +kernel
theorem dL_openAll_8 : decode cL_openAll 8 = .ok (.goto 9, 3) := by decide +kernel
theorem dL_openAll_11 : decode cL_openAll 11 = .ok (.astore_n 2, 1) := by decide +kernel
theorem dL_openAll_12 : decode cL_openAll 12 = .ok (.iconst 1, 1) := by decide +kernel
theorem dL_openAll_13 : decode cL_openAll 13 = .ok (.ireturn, 1) := by decide +kernel
theorem dL_openAll_14 : decode cL_openAll 14 = .ok (.astore_n 2, 1) := by decide +kernel
theorem dL_openAll_15 : decode cL_openAll 15 = .ok (.iconst 2, 1) := by decide +kernel
theorem dL_openAll_16 : decode cL_openAll 16 = .ok (.ireturn, 1) := by decide +kernel
theorem dL_openAll_17 : decode cL_openAll 17 = .ok (.iconst 0, 1) := by decide +kernel
theorem dL_openAll_18 : decode cL_openAll 18 = .ok (.ireturn, 1) := by decide +kernel
theorem dL_undo_0 : decode cL_undo 0 = .ok (.aload_n 1, 1) := by decide +kernel
theorem dL_undo_1 : decode cL_undo 1 = .ok (.iconst 0, 1) := by decide +kernel
theorem dL_undo_2 : decode cL_undo 2 = .ok (.aload_n 0, 1) := by decide +kernel
theorem dL_undo_3 : decode cL_undo 3 = .ok (.invokevirtual 47, 3) := by decide +kernel
theorem dL_undo_6 : decode cL_undo 6 = .ok (.i2l, 1) := by decide +kernel
theorem dL_undo_7 : decode cL_undo 7 = .ok (.lastore, 1) := by decide +kernel
theorem dL_undo_8 : decode cL_undo 8 = .ok (.goto 6, 3) := by decide +kernel
theorem dL_undo_11 : decode cL_undo 11 = .ok (.astore_n 2, 1) := by decide +kernel
theorem dL_undo_12 : decode cL_undo 12 = .ok (.iconst 1, 1) := by decide +kernel
theorem dL_undo_13 : decode cL_undo 13 = .ok (.ireturn, 1) := by decide +kernel
theorem dL_undo_14 : decode cL_undo 14 = .ok (.iconst 0, 1) := by decide +kernel
theorem dL_undo_15 : decode cL_undo 15 = .ok (.ireturn, 1) := by decide +kernel
theorem dL_lease_0 : decode cL_lease 0 = .ok (.aload_n 3, 1) := by decide +kernel
theorem dL_lease_1 : decode cL_lease 1 = .ok (.iconst 0, 1) := by decide +kernel
theorem dL_lease_2 : decode cL_lease 2 = .ok (.aload_n 0, 1) := by decide +kernel
theorem dL_lease_3 : decode cL_lease 3 = .ok (.iload_n 1, 1) := by decide +kernel
theorem dL_lease_4 : decode cL_lease 4 = .ok (.iload_n 2, 1) := by decide +kernel
theorem dL_lease_5 : decode cL_lease 5 = .ok (.invokevirtual 50, 3) := by decide +kernel
theorem dL_lease_8 : decode cL_lease 8 = .ok (.i2l, 1) := by decide +kernel
theorem dL_lease_9 : decode cL_lease 9 = .ok (.lastore, 1) := by decide +kernel
theorem dL_lease_10 : decode cL_lease 10 = .ok (.goto 11, 3) := by decide +kernel
theorem dL_lease_13 : decode cL_lease 13 = .ok (.astore 4, 2) := by decide +kernel
theorem dL_lease_15 : decode cL_lease 15 = .ok (.iconst 1, 1) := by decide +kernel
theorem dL_lease_16 : decode cL_lease 16 = .ok (.ireturn, 1) := by decide +kernel
theorem dL_lease_17 : decode cL_lease 17 = .ok (.astore 4, 2) := by decide +kernel
theorem dL_lease_19 : decode cL_lease 19 = .ok (.iconst 2, 1) := by decide +kernel
theorem dL_lease_20 : decode cL_lease 20 = .ok (.ireturn, 1) := by decide +kernel
theorem dL_lease_21 : decode cL_lease 21 = .ok (.iconst 0, 1) := by decide +kernel
theorem dL_lease_22 : decode cL_lease 22 = .ok (.ireturn, 1) := by decide +kernel
theorem dL_sublease_0 : decode cL_sublease 0 = .ok (.aload_n 3, 1) := by decide +kernel
theorem dL_sublease_1 : decode cL_sublease 1 = .ok (.iconst 0, 1) := by decide +kernel
theorem dL_sublease_2 : decode cL_sublease 2 = .ok (.aload_n 0, 1) := by decide +kernel
theorem dL_sublease_3 : decode cL_sublease 3 = .ok (.iload_n 1, 1) := by decide +kernel
theorem dL_sublease_4 : decode cL_sublease 4 = .ok (.iload_n 2, 1) := by decide +kernel
theorem dL_sublease_5 : decode cL_sublease 5 = .ok (.invokevirtual 53, 3) := by decide +kernel
theorem dL_sublease_8 : decode cL_sublease 8 = .ok (.i2l, 1) := by decide +kernel
theorem dL_sublease_9 : decode cL_sublease 9 = .ok (.lastore, 1) := by decide +kernel
theorem dL_sublease_10 : decode cL_sublease 10 = .ok (.goto 11, 3) := by decide +kernel
theorem dL_sublease_13 : decode cL_sublease 13 = .ok (.astore 4, 2) := by decide +kernel
theorem dL_sublease_15 : decode cL_sublease 15 = .ok (.iconst 1, 1) := by decide +kernel
theorem dL_sublease_16 : decode cL_sublease 16 = .ok (.ireturn, 1) := by decide +kernel
theorem dL_sublease_17 : decode cL_sublease 17 = .ok (.astore 4, 2) := by decide +kernel
theorem dL_sublease_19 : decode cL_sublease 19 = .ok (.iconst 2, 1) := by decide +kernel
theorem dL_sublease_20 : decode cL_sublease 20 = .ok (.ireturn, 1) := by decide +kernel
theorem dL_sublease_21 : decode cL_sublease 21 = .ok (.iconst 0, 1) := by decide +kernel
theorem dL_sublease_22 : decode cL_sublease 22 = .ok (.ireturn, 1) := by decide +kernel
theorem dL_movement_0 : decode cL_movement 0 = .ok (.aload_n 3, 1) := by decide +kernel
theorem dL_movement_1 : decode cL_movement 1 = .ok (.iconst 0, 1) := by decide +kernel
theorem dL_movement_2 : decode cL_movement 2 = .ok (.aload_n 0, 1) := by decide +kernel
theorem dL_movement_3 : decode cL_movement 3 = .ok (.iload_n 1, 1) := by decide +kernel
theorem dL_movement_4 : decode cL_movement 4 = .ok (.iload_n 2, 1) := by decide +kernel
theorem dL_movement_5 : decode cL_movement 5 = .ok (.invokevirtual 56, 3) := by decide +kernel
theorem dL_movement_8 : decode cL_movement 8 = .ok (.i2l, 1) := by decide +kernel
theorem dL_movement_9 : decode cL_movement 9 = .ok (.lastore, 1) := by decide +kernel
theorem dL_movement_10 : decode cL_movement 10 = .ok (.goto 11, 3) := by decide +kernel
theorem dL_movement_13 : decode cL_movement 13 = .ok (.astore 4, 2) := by decide +kernel
theorem dL_movement_15 : decode cL_movement 15 = .ok (.iconst 1, 1) := by decide +kernel
theorem dL_movement_16 : decode cL_movement 16 = .ok (.ireturn, 1) := by decide +kernel
theorem dL_movement_17 : decode cL_movement 17 = .ok (.astore 4, 2) := by decide +kernel
theorem dL_movement_19 : decode cL_movement 19 = .ok (.iconst 2, 1) := by decide +kernel
theorem dL_movement_20 : decode cL_movement 20 = .ok (.ireturn, 1) := by decide +kernel
theorem dL_movement_21 : decode cL_movement 21 = .ok (.iconst 0, 1) := by decide +kernel
theorem dL_movement_22 : decode cL_movement 22 = .ok (.ireturn, 1) := by decide +kernel
theorem dL_profit_0 : decode cL_profit 0 = .ok (.aload_n 3, 1) := by decide +kernel
theorem dL_profit_1 : decode cL_profit 1 = .ok (.iconst 0, 1) := by decide +kernel
theorem dL_profit_2 : decode cL_profit 2 = .ok (.aload_n 0, 1) := by decide +kernel
theorem dL_profit_3 : decode cL_profit 3 = .ok (.iload_n 1, 1) := by decide +kernel
theorem dL_profit_4 : decode cL_profit 4 = .ok (.iload_n 2, 1) := by decide +kernel
theorem dL_profit_5 : decode cL_profit 5 = .ok (.invokevirtual 59, 3) := by decide +kernel
theorem dL_profit_8 : decode cL_profit 8 = .ok (.i2l, 1) := by decide +kernel
theorem dL_profit_9 : decode cL_profit 9 = .ok (.lastore, 1) := by decide +kernel
theorem dL_profit_10 : decode cL_profit 10 = .ok (.goto 11, 3) := by decide +kernel
theorem dL_profit_13 : decode cL_profit 13 = .ok (.astore 4, 2) := by decide +kernel
theorem dL_profit_15 : decode cL_profit 15 = .ok (.iconst 1, 1) := by decide +kernel
theorem dL_profit_16 : decode cL_profit 16 = .ok (.ireturn, 1) := by decide +kernel
theorem dL_profit_17 : decode cL_profit 17 = .ok (.astore 4, 2) := by decide +kernel
theorem dL_profit_19 : decode cL_profit 19 = .ok (.iconst 2, 1) := by decide +kernel
theorem dL_profit_20 : decode cL_profit 20 = .ok (.ireturn, 1) := by decide +kernel
theorem dL_profit_21 : decode cL_profit 21 = .ok (.iconst 0, 1) := by decide +kernel
theorem dL_profit_22 : decode cL_profit 22 = .ok (.ireturn, 1) := by decide +kernel
theorem dL_count_0 : decode cL_count 0 = .ok (.aload_n 2, 1) := by decide +kernel
theorem dL_count_1 : decode cL_count 1 = .ok (.iconst 0, 1) := by decide +kernel
theorem dL_count_2 : decode cL_count 2 = .ok (.aload_n 0, 1) := by decide +kernel
theorem dL_count_3 : decode cL_count 3 = .ok (.iload_n 1, 1) := by decide +kernel
theorem dL_count_4 : decode cL_count 4 = .ok (.invokevirtual 62, 3) := by decide +kernel
theorem dL_count_7 : decode cL_count 7 = .ok (.i2l, 1) := by decide +kernel
theorem dL_count_8 : decode cL_count 8 = .ok (.lastore, 1) := by decide +kernel
theorem dL_count_9 : decode cL_count 9 = .ok (.goto 6, 3) := by decide +kernel
theorem dL_count_12 : decode cL_count 12 = .ok (.astore_n 3, 1) := by decide +kernel
theorem dL_count_13 : decode cL_count 13 = .ok (.iconst 1, 1) := by decide +kernel
theorem dL_count_14 : decode cL_count 14 = .ok (.ireturn, 1) := by decide +kernel
theorem dL_count_15 : decode cL_count 15 = .ok (.iconst 0, 1) := by decide +kernel
theorem dL_count_16 : decode cL_count 16 = .ok (.ireturn, 1) := by decide +kernel
theorem dL_worth_0 : decode cL_worth 0 = .ok (.aload 4, 2) := by decide +kernel
theorem dL_worth_2 : decode cL_worth 2 = .ok (.iconst 0, 1) := by decide +kernel
theorem dL_worth_3 : decode cL_worth 3 = .ok (.aload_n 0, 1) := by decide +kernel
theorem dL_worth_4 : decode cL_worth 4 = .ok (.iload_n 1, 1) := by decide +kernel
theorem dL_worth_5 : decode cL_worth 5 = .ok (.iload_n 2, 1) := by decide +kernel
theorem dL_worth_6 : decode cL_worth 6 = .ok (.iload_n 3, 1) := by decide +kernel
theorem dL_worth_7 : decode cL_worth 7 = .ok (.invokevirtual 65, 3) := by decide +kernel
theorem dL_worth_10 : decode cL_worth 10 = .ok (.i2l, 1) := by decide +kernel
theorem dL_worth_11 : decode cL_worth 11 = .ok (.lastore, 1) := by decide +kernel
theorem dL_worth_12 : decode cL_worth 12 = .ok (.goto 7, 3) := by decide +kernel
theorem dL_worth_15 : decode cL_worth 15 = .ok (.astore 5, 2) := by decide +kernel
theorem dL_worth_17 : decode cL_worth 17 = .ok (.iconst 1, 1) := by decide +kernel
theorem dL_worth_18 : decode cL_worth 18 = .ok (.ireturn, 1) := by decide +kernel
theorem dL_worth_19 : decode cL_worth 19 = .ok (.iconst 0, 1) := by decide +kernel
theorem dL_worth_20 : decode cL_worth 20 = .ok (.ireturn, 1) := by decide +kernel
theorem dL_plan_0 : decode cL_plan 0 = .ok (.aload 4, 2) := by decide +kernel
theorem dL_plan_2 : decode cL_plan 2 = .ok (.iconst 0, 1) := by decide +kernel
theorem dL_plan_3 : decode cL_plan 3 = .ok (.aload_n 0, 1) := by decide +kernel
theorem dL_plan_4 : decode cL_plan 4 = .ok (.iload_n 1, 1) := by decide +kernel
theorem dL_plan_5 : decode cL_plan 5 = .ok (.iload_n 2, 1) := by decide +kernel
theorem dL_plan_6 : decode cL_plan 6 = .ok (.iload_n 3, 1) := by decide +kernel
theorem dL_plan_7 : decode cL_plan 7 = .ok (.invokevirtual 68, 3) := by decide +kernel
theorem dL_plan_10 : decode cL_plan 10 = .ok (.i2l, 1) := by decide +kernel
theorem dL_plan_11 : decode cL_plan 11 = .ok (.lastore, 1) := by decide +kernel
theorem dL_plan_12 : decode cL_plan 12 = .ok (.goto 11, 3) := by decide +kernel
theorem dL_plan_15 : decode cL_plan 15 = .ok (.astore 5, 2) := by decide +kernel
theorem dL_plan_17 : decode cL_plan 17 = .ok (.iconst 1, 1) := by decide +kernel
theorem dL_plan_18 : decode cL_plan 18 = .ok (.ireturn, 1) := by decide +kernel
theorem dL_plan_19 : decode cL_plan 19 = .ok (.astore 5, 2) := by decide +kernel
theorem dL_plan_21 : decode cL_plan 21 = .ok (.iconst 2, 1) := by decide +kernel
theorem dL_plan_22 : decode cL_plan 22 = .ok (.ireturn, 1) := by decide +kernel
theorem dL_plan_23 : decode cL_plan 23 = .ok (.iconst 0, 1) := by decide +kernel
theorem dL_plan_24 : decode cL_plan 24 = .ok (.ireturn, 1) := by decide +kernel
theorem dL_ifMeasured_0 : decode cL_ifMeasured 0 = .ok (.aload 6, 2) := by decide +kernel
theorem dL_ifMeasured_2 : decode cL_ifMeasured 2 = .ok (.iconst 0, 1) := by decide +kernel
theorem dL_ifMeasured_3 : decode cL_ifMeasured 3 = .ok (.aload_n 0, 1) := by decide +kernel
theorem dL_ifMeasured_4 : decode cL_ifMeasured 4 = .ok (.iload_n 1, 1) := by decide +kernel
theorem dL_ifMeasured_5 : decode cL_ifMeasured 5 = .ok (.iload_n 2, 1) := by decide +kernel
theorem dL_ifMeasured_6 : decode cL_ifMeasured 6 = .ok (.iload_n 3, 1) := by decide +kernel
theorem dL_ifMeasured_7 : decode cL_ifMeasured 7 = .ok (.iload 4, 2) := by decide +kernel
theorem dL_ifMeasured_9 : decode cL_ifMeasured 9 = .ok (.iload 5, 2) := by decide +kernel
theorem dL_ifMeasured_11 : decode cL_ifMeasured 11 = .ok (.invokevirtual 71, 3) := by decide +kernel
theorem dL_ifMeasured_14 : decode cL_ifMeasured 14 = .ok (.i2l, 1) := by decide +kernel
theorem dL_ifMeasured_15 : decode cL_ifMeasured 15 = .ok (.lastore, 1) := by decide +kernel
theorem dL_ifMeasured_16 : decode cL_ifMeasured 16 = .ok (.goto 11, 3) := by decide +kernel
theorem dL_ifMeasured_19 : decode cL_ifMeasured 19 = .ok (.astore 7, 2) := by decide +kernel
theorem dL_ifMeasured_21 : decode cL_ifMeasured 21 = .ok (.iconst 1, 1) := by decide +kernel
theorem dL_ifMeasured_22 : decode cL_ifMeasured 22 = .ok (.ireturn, 1) := by decide +kernel
theorem dL_ifMeasured_23 : decode cL_ifMeasured 23 = .ok (.astore 7, 2) := by decide +kernel
theorem dL_ifMeasured_25 : decode cL_ifMeasured 25 = .ok (.iconst 2, 1) := by decide +kernel
theorem dL_ifMeasured_26 : decode cL_ifMeasured 26 = .ok (.ireturn, 1) := by decide +kernel
theorem dL_ifMeasured_27 : decode cL_ifMeasured 27 = .ok (.iconst 0, 1) := by decide +kernel
theorem dL_ifMeasured_28 : decode cL_ifMeasured 28 = .ok (.ireturn, 1) := by decide +kernel
theorem dL_paymentFor_0 : decode cL_paymentFor 0 = .ok (.aload_n 3, 1) := by decide +kernel
theorem dL_paymentFor_1 : decode cL_paymentFor 1 = .ok (.iconst 0, 1) := by decide +kernel
theorem dL_paymentFor_2 : decode cL_paymentFor 2 = .ok (.aload_n 0, 1) := by decide +kernel
theorem dL_paymentFor_3 : decode cL_paymentFor 3 = .ok (.iload_n 1, 1) := by decide +kernel
theorem dL_paymentFor_4 : decode cL_paymentFor 4 = .ok (.iload_n 2, 1) := by decide +kernel
theorem dL_paymentFor_5 : decode cL_paymentFor 5 = .ok (.invokevirtual 75, 3) := by decide +kernel
theorem dL_paymentFor_8 : decode cL_paymentFor 8 = .ok (.i2l, 1) := by decide +kernel
theorem dL_paymentFor_9 : decode cL_paymentFor 9 = .ok (.lastore, 1) := by decide +kernel
theorem dL_paymentFor_10 : decode cL_paymentFor 10 = .ok (.goto 11, 3) := by decide +kernel
theorem dL_paymentFor_13 : decode cL_paymentFor 13 = .ok (.astore 4, 2) := by decide +kernel
theorem dL_paymentFor_15 : decode cL_paymentFor 15 = .ok (.iconst 1, 1) := by decide +kernel
theorem dL_paymentFor_16 : decode cL_paymentFor 16 = .ok (.ireturn, 1) := by decide +kernel
theorem dL_paymentFor_17 : decode cL_paymentFor 17 = .ok (.astore 4, 2) := by decide +kernel
theorem dL_paymentFor_19 : decode cL_paymentFor 19 = .ok (.iconst 2, 1) := by decide +kernel
theorem dL_paymentFor_20 : decode cL_paymentFor 20 = .ok (.ireturn, 1) := by decide +kernel
theorem dL_paymentFor_21 : decode cL_paymentFor 21 = .ok (.iconst 0, 1) := by decide +kernel
theorem dL_paymentFor_22 : decode cL_paymentFor 22 = .ok (.ireturn, 1) := by decide +kernel
theorem dL_rateWithin_0 : decode cL_rateWithin 0 = .ok (.aload_n 2, 1) := by decide +kernel
theorem dL_rateWithin_1 : decode cL_rateWithin 1 = .ok (.iconst 0, 1) := by decide +kernel
theorem dL_rateWithin_2 : decode cL_rateWithin 2 = .ok (.aload_n 0, 1) := by decide +kernel
theorem dL_rateWithin_3 : decode cL_rateWithin 3 = .ok (.iload_n 1, 1) := by decide +kernel
theorem dL_rateWithin_4 : decode cL_rateWithin 4 = .ok (.invokevirtual 78, 3) := by decide +kernel
theorem dL_rateWithin_7 : decode cL_rateWithin 7 = .ok (.i2l, 1) := by decide +kernel
theorem dL_rateWithin_8 : decode cL_rateWithin 8 = .ok (.lastore, 1) := by decide +kernel
theorem dL_rateWithin_9 : decode cL_rateWithin 9 = .ok (.goto 6, 3) := by decide +kernel
theorem dL_rateWithin_12 : decode cL_rateWithin 12 = .ok (.astore_n 3, 1) := by decide +kernel
theorem dL_rateWithin_13 : decode cL_rateWithin 13 = .ok (.iconst 1, 1) := by decide +kernel
theorem dL_rateWithin_14 : decode cL_rateWithin 14 = .ok (.ireturn, 1) := by decide +kernel
theorem dL_rateWithin_15 : decode cL_rateWithin 15 = .ok (.iconst 0, 1) := by decide +kernel
theorem dL_rateWithin_16 : decode cL_rateWithin 16 = .ok (.ireturn, 1) := by decide +kernel
theorem dL_fairReceipt_0 : decode cL_fairReceipt 0 = .ok (.aload 4, 2) := by decide +kernel
theorem dL_fairReceipt_2 : decode cL_fairReceipt 2 = .ok (.iconst 0, 1) := by decide +kernel
theorem dL_fairReceipt_3 : decode cL_fairReceipt 3 = .ok (.aload_n 0, 1) := by decide +kernel
theorem dL_fairReceipt_4 : decode cL_fairReceipt 4 = .ok (.iload_n 1, 1) := by decide +kernel
theorem dL_fairReceipt_5 : decode cL_fairReceipt 5 = .ok (.iload_n 2, 1) := by decide +kernel
theorem dL_fairReceipt_6 : decode cL_fairReceipt 6 = .ok (.iload_n 3, 1) := by decide +kernel
theorem dL_fairReceipt_7 : decode cL_fairReceipt 7 = .ok (.invokevirtual 81, 3) := by decide +kernel
theorem dL_fairReceipt_10 : decode cL_fairReceipt 10 = .ok (.i2l, 1) := by decide +kernel
theorem dL_fairReceipt_11 : decode cL_fairReceipt 11 = .ok (.lastore, 1) := by decide +kernel
theorem dL_fairReceipt_12 : decode cL_fairReceipt 12 = .ok (.goto 11, 3) := by decide +kernel
theorem dL_fairReceipt_15 : decode cL_fairReceipt 15 = .ok (.astore 5, 2) := by decide +kernel
theorem dL_fairReceipt_17 : decode cL_fairReceipt 17 = .ok (.iconst 1, 1) := by decide +kernel
theorem dL_fairReceipt_18 : decode cL_fairReceipt 18 = .ok (.ireturn, 1) := by decide +kernel
theorem dL_fairReceipt_19 : decode cL_fairReceipt 19 = .ok (.astore 5, 2) := by decide +kernel
theorem dL_fairReceipt_21 : decode cL_fairReceipt 21 = .ok (.iconst 2, 1) := by decide +kernel
theorem dL_fairReceipt_22 : decode cL_fairReceipt 22 = .ok (.ireturn, 1) := by decide +kernel
theorem dL_fairReceipt_23 : decode cL_fairReceipt 23 = .ok (.iconst 0, 1) := by decide +kernel
theorem dL_fairReceipt_24 : decode cL_fairReceipt 24 = .ok (.ireturn, 1) := by decide +kernel
theorem dL_law_0 : decode cL_law 0 = .ok (.new 8, 3) := by decide +kernel
theorem dL_law_3 : decode cL_law 3 = .ok (.dup, 1) := by decide +kernel
theorem dL_law_4 : decode cL_law 4 = .ok (.invokespecial 84, 3) := by decide +kernel
theorem dL_law_7 : decode cL_law 7 = .ok (.astore_n 1, 1) := by decide +kernel
theorem dL_law_8 : decode cL_law 8 = .ok (.new 85, 3) := by decide +kernel
theorem dL_law_11 : decode cL_law 11 = .ok (.dup, 1) := by decide +kernel
theorem dL_law_12 : decode cL_law 12 = .ok (.invokespecial 87, 3) := by decide +kernel
theorem dL_law_15 : decode cL_law 15 = .ok (.astore_n 2, 1) := by decide +kernel
theorem dL_law_16 : decode cL_law 16 = .ok (.iconst 1, 1) := by decide +kernel
theorem dL_law_17 : decode cL_law 17 = .ok (.newarray .long, 2) := by decide +kernel
theorem dL_law_19 : decode cL_law 19 = .ok (.astore_n 3, 1) := by decide +kernel
theorem dL_law_20 : decode cL_law 20 = .ok (.iconst 0, 1) := by decide +kernel
theorem dL_law_21 : decode cL_law 21 = .ok (.istore 4, 2) := by decide +kernel
theorem dL_law_23 : decode cL_law 23 = .ok (.iload 4, 2) := by decide +kernel
theorem dL_law_25 : decode cL_law 25 = .ok (.aload_n 0, 1) := by decide +kernel
theorem dL_law_26 : decode cL_law 26 = .ok (.arraylength, 1) := by decide +kernel
theorem dL_law_27 : decode cL_law 27 = .ok (.bipush 6, 2) := by decide +kernel
theorem dL_law_29 : decode cL_law 29 = .ok (.isub, 1) := by decide +kernel
theorem dL_law_30 : decode cL_law 30 = .ok (.if_icmp .gt 1689, 3) := by decide +kernel
theorem dL_law_33 : decode cL_law 33 = .ok (.aload_n 0, 1) := by decide +kernel
theorem dL_law_34 : decode cL_law 34 = .ok (.iload 4, 2) := by decide +kernel
theorem dL_law_36 : decode cL_law 36 = .ok (.iaload, 1) := by decide +kernel
theorem dL_law_37 : decode cL_law 37 = .ok (.bipush 31, 2) := by decide +kernel
theorem dL_law_39 : decode cL_law 39 = .ok (.iand, 1) := by decide +kernel
theorem dL_law_40 : decode cL_law 40 = .ok (.tableswitch 1673 0 24 #[116, 208, 288, 356, 436, 504, 596, 652, 708, 721, 734, 778, 822, 890, 958, 1026, 1094, 1150, 1230, 1310, 1414, 1482, 1538, 1618, 1659], 116) := by decide +kernel
theorem dL_law_156 : decode cL_law 156 = .ok (.aload_n 1, 1) := by decide +kernel
theorem dL_law_157 : decode cL_law 157 = .ok (.aload_n 0, 1) := by decide +kernel
theorem dL_law_158 : decode cL_law 158 = .ok (.iload 4, 2) := by decide +kernel
theorem dL_law_160 : decode cL_law 160 = .ok (.iconst 1, 1) := by decide +kernel
theorem dL_law_161 : decode cL_law 161 = .ok (.iadd, 1) := by decide +kernel
theorem dL_law_162 : decode cL_law 162 = .ok (.iaload, 1) := by decide +kernel
theorem dL_law_163 : decode cL_law 163 = .ok (.aload_n 0, 1) := by decide +kernel
theorem dL_law_164 : decode cL_law 164 = .ok (.iload 4, 2) := by decide +kernel
theorem dL_law_166 : decode cL_law 166 = .ok (.iconst 2, 1) := by decide +kernel
theorem dL_law_167 : decode cL_law 167 = .ok (.iadd, 1) := by decide +kernel
theorem dL_law_168 : decode cL_law 168 = .ok (.iaload, 1) := by decide +kernel
theorem dL_law_169 : decode cL_law 169 = .ok (.aload_n 0, 1) := by decide +kernel
theorem dL_law_170 : decode cL_law 170 = .ok (.iload 4, 2) := by decide +kernel
theorem dL_law_172 : decode cL_law 172 = .ok (.iconst 3, 1) := by decide +kernel
theorem dL_law_173 : decode cL_law 173 = .ok (.iadd, 1) := by decide +kernel
theorem dL_law_174 : decode cL_law 174 = .ok (.iaload, 1) := by decide +kernel
theorem dL_law_175 : decode cL_law 175 = .ok (.aload_n 0, 1) := by decide +kernel
theorem dL_law_176 : decode cL_law 176 = .ok (.iload 4, 2) := by decide +kernel
theorem dL_law_178 : decode cL_law 178 = .ok (.iconst 4, 1) := by decide +kernel
theorem dL_law_179 : decode cL_law 179 = .ok (.iadd, 1) := by decide +kernel
theorem dL_law_180 : decode cL_law 180 = .ok (.iaload, 1) := by decide +kernel
theorem dL_law_181 : decode cL_law 181 = .ok (.aload_n 3, 1) := by decide +kernel
theorem dL_law_182 : decode cL_law 182 = .ok (.invokestatic 88, 3) := by decide +kernel
theorem dL_law_185 : decode cL_law 185 = .ok (.istore 5, 2) := by decide +kernel
theorem dL_law_187 : decode cL_law 187 = .ok (.aload_n 2, 1) := by decide +kernel
theorem dL_law_188 : decode cL_law 188 = .ok (.aload_n 0, 1) := by decide +kernel
theorem dL_law_189 : decode cL_law 189 = .ok (.iload 4, 2) := by decide +kernel
theorem dL_law_191 : decode cL_law 191 = .ok (.iconst 1, 1) := by decide +kernel
theorem dL_law_192 : decode cL_law 192 = .ok (.iadd, 1) := by decide +kernel
theorem dL_law_193 : decode cL_law 193 = .ok (.iaload, 1) := by decide +kernel
theorem dL_law_194 : decode cL_law 194 = .ok (.aload_n 0, 1) := by decide +kernel
theorem dL_law_195 : decode cL_law 195 = .ok (.iload 4, 2) := by decide +kernel
theorem dL_law_197 : decode cL_law 197 = .ok (.iconst 2, 1) := by decide +kernel
theorem dL_law_198 : decode cL_law 198 = .ok (.iadd, 1) := by decide +kernel
theorem dL_law_199 : decode cL_law 199 = .ok (.iaload, 1) := by decide +kernel
theorem dL_law_200 : decode cL_law 200 = .ok (.aload_n 0, 1) := by decide +kernel
theorem dL_law_201 : decode cL_law 201 = .ok (.iload 4, 2) := by decide +kernel
theorem dL_law_203 : decode cL_law 203 = .ok (.iconst 3, 1) := by decide +kernel
theorem dL_law_204 : decode cL_law 204 = .ok (.iadd, 1) := by decide +kernel
theorem dL_law_205 : decode cL_law 205 = .ok (.iaload, 1) := by decide +kernel
theorem dL_law_206 : decode cL_law 206 = .ok (.aload_n 0, 1) := by decide +kernel
theorem dL_law_207 : decode cL_law 207 = .ok (.iload 4, 2) := by decide +kernel
theorem dL_law_209 : decode cL_law 209 = .ok (.iconst 4, 1) := by decide +kernel
theorem dL_law_210 : decode cL_law 210 = .ok (.iadd, 1) := by decide +kernel
theorem dL_law_211 : decode cL_law 211 = .ok (.iaload, 1) := by decide +kernel
theorem dL_law_212 : decode cL_law 212 = .ok (.invokevirtual 93, 3) := by decide +kernel
theorem dL_law_215 : decode cL_law 215 = .ok (.istore 6, 2) := by decide +kernel
theorem dL_law_217 : decode cL_law 217 = .ok (.aload_n 2, 1) := by decide +kernel
theorem dL_law_218 : decode cL_law 218 = .ok (.invokevirtual 94, 3) := by decide +kernel
theorem dL_law_221 : decode cL_law 221 = .ok (.iload 5, 2) := by decide +kernel
theorem dL_law_223 : decode cL_law 223 = .ok (.if_icmp .eq 5, 3) := by decide +kernel
theorem dL_law_226 : decode cL_law 226 = .ok (.iconst 0, 1) := by decide +kernel
theorem dL_law_227 : decode cL_law 227 = .ok (.ireturn, 1) := by decide +kernel
theorem dL_law_228 : decode cL_law 228 = .ok (.iload 5, 2) := by decide +kernel
theorem dL_law_230 : decode cL_law 230 = .ok (.ifCond .ne 15, 3) := by decide +kernel
theorem dL_law_233 : decode cL_law 233 = .ok (.aload_n 3, 1) := by decide +kernel
theorem dL_law_234 : decode cL_law 234 = .ok (.iconst 0, 1) := by decide +kernel
theorem dL_law_235 : decode cL_law 235 = .ok (.laload, 1) := by decide +kernel
theorem dL_law_236 : decode cL_law 236 = .ok (.iload 6, 2) := by decide +kernel
theorem dL_law_238 : decode cL_law 238 = .ok (.i2l, 1) := by decide +kernel
theorem dL_law_239 : decode cL_law 239 = .ok (.lcmp, 1) := by decide +kernel
theorem dL_law_240 : decode cL_law 240 = .ok (.ifCond .eq 5, 3) := by decide +kernel
theorem dL_law_243 : decode cL_law 243 = .ok (.iconst 0, 1) := by decide +kernel
theorem dL_law_244 : decode cL_law 244 = .ok (.ireturn, 1) := by decide +kernel
theorem dL_law_245 : decode cL_law 245 = .ok (.goto 1468, 3) := by decide +kernel
theorem dL_law_248 : decode cL_law 248 = .ok (.aload_n 1, 1) := by decide +kernel
theorem dL_law_249 : decode cL_law 249 = .ok (.aload_n 0, 1) := by decide +kernel
theorem dL_law_250 : decode cL_law 250 = .ok (.iload 4, 2) := by decide +kernel
theorem dL_law_252 : decode cL_law 252 = .ok (.iconst 1, 1) := by decide +kernel
theorem dL_law_253 : decode cL_law 253 = .ok (.iadd, 1) := by decide +kernel
theorem dL_law_254 : decode cL_law 254 = .ok (.iaload, 1) := by decide +kernel
theorem dL_law_255 : decode cL_law 255 = .ok (.aload_n 0, 1) := by decide +kernel
theorem dL_law_256 : decode cL_law 256 = .ok (.iload 4, 2) := by decide +kernel
theorem dL_law_258 : decode cL_law 258 = .ok (.iconst 2, 1) := by decide +kernel
theorem dL_law_259 : decode cL_law 259 = .ok (.iadd, 1) := by decide +kernel
theorem dL_law_260 : decode cL_law 260 = .ok (.iaload, 1) := by decide +kernel
theorem dL_law_261 : decode cL_law 261 = .ok (.aload_n 0, 1) := by decide +kernel
theorem dL_law_262 : decode cL_law 262 = .ok (.iload 4, 2) := by decide +kernel
theorem dL_law_264 : decode cL_law 264 = .ok (.iconst 3, 1) := by decide +kernel
theorem dL_law_265 : decode cL_law 265 = .ok (.iadd, 1) := by decide +kernel
theorem dL_law_266 : decode cL_law 266 = .ok (.iaload, 1) := by decide +kernel
theorem dL_law_267 : decode cL_law 267 = .ok (.aload_n 3, 1) := by decide +kernel
theorem dL_law_268 : decode cL_law 268 = .ok (.invokestatic 97, 3) := by decide +kernel
theorem dL_law_271 : decode cL_law 271 = .ok (.istore 5, 2) := by decide +kernel
theorem dL_law_273 : decode cL_law 273 = .ok (.aload_n 2, 1) := by decide +kernel
theorem dL_law_274 : decode cL_law 274 = .ok (.aload_n 0, 1) := by decide +kernel
theorem dL_law_275 : decode cL_law 275 = .ok (.iload 4, 2) := by decide +kernel
theorem dL_law_277 : decode cL_law 277 = .ok (.iconst 1, 1) := by decide +kernel
theorem dL_law_278 : decode cL_law 278 = .ok (.iadd, 1) := by decide +kernel
theorem dL_law_279 : decode cL_law 279 = .ok (.iaload, 1) := by decide +kernel
theorem dL_law_280 : decode cL_law 280 = .ok (.aload_n 0, 1) := by decide +kernel
theorem dL_law_281 : decode cL_law 281 = .ok (.iload 4, 2) := by decide +kernel
theorem dL_law_283 : decode cL_law 283 = .ok (.iconst 2, 1) := by decide +kernel
theorem dL_law_284 : decode cL_law 284 = .ok (.iadd, 1) := by decide +kernel
theorem dL_law_285 : decode cL_law 285 = .ok (.iaload, 1) := by decide +kernel
theorem dL_law_286 : decode cL_law 286 = .ok (.aload_n 0, 1) := by decide +kernel
theorem dL_law_287 : decode cL_law 287 = .ok (.iload 4, 2) := by decide +kernel
theorem dL_law_289 : decode cL_law 289 = .ok (.iconst 3, 1) := by decide +kernel
theorem dL_law_290 : decode cL_law 290 = .ok (.iadd, 1) := by decide +kernel
theorem dL_law_291 : decode cL_law 291 = .ok (.iaload, 1) := by decide +kernel
theorem dL_law_292 : decode cL_law 292 = .ok (.invokevirtual 100, 3) := by decide +kernel
theorem dL_law_295 : decode cL_law 295 = .ok (.istore 6, 2) := by decide +kernel
theorem dL_law_297 : decode cL_law 297 = .ok (.aload_n 2, 1) := by decide +kernel
theorem dL_law_298 : decode cL_law 298 = .ok (.invokevirtual 94, 3) := by decide +kernel
theorem dL_law_301 : decode cL_law 301 = .ok (.iload 5, 2) := by decide +kernel
theorem dL_law_303 : decode cL_law 303 = .ok (.if_icmp .eq 5, 3) := by decide +kernel
theorem dL_law_306 : decode cL_law 306 = .ok (.iconst 0, 1) := by decide +kernel
theorem dL_law_307 : decode cL_law 307 = .ok (.ireturn, 1) := by decide +kernel
theorem dL_law_308 : decode cL_law 308 = .ok (.iload 5, 2) := by decide +kernel
theorem dL_law_310 : decode cL_law 310 = .ok (.ifCond .ne 15, 3) := by decide +kernel
theorem dL_law_313 : decode cL_law 313 = .ok (.aload_n 3, 1) := by decide +kernel
theorem dL_law_314 : decode cL_law 314 = .ok (.iconst 0, 1) := by decide +kernel
theorem dL_law_315 : decode cL_law 315 = .ok (.laload, 1) := by decide +kernel
theorem dL_law_316 : decode cL_law 316 = .ok (.iload 6, 2) := by decide +kernel
theorem dL_law_318 : decode cL_law 318 = .ok (.i2l, 1) := by decide +kernel
theorem dL_law_319 : decode cL_law 319 = .ok (.lcmp, 1) := by decide +kernel
theorem dL_law_320 : decode cL_law 320 = .ok (.ifCond .eq 5, 3) := by decide +kernel
theorem dL_law_323 : decode cL_law 323 = .ok (.iconst 0, 1) := by decide +kernel
theorem dL_law_324 : decode cL_law 324 = .ok (.ireturn, 1) := by decide +kernel
theorem dL_law_325 : decode cL_law 325 = .ok (.goto 1388, 3) := by decide +kernel
theorem dL_law_328 : decode cL_law 328 = .ok (.aload_n 1, 1) := by decide +kernel
theorem dL_law_329 : decode cL_law 329 = .ok (.aload_n 0, 1) := by decide +kernel
theorem dL_law_330 : decode cL_law 330 = .ok (.iload 4, 2) := by decide +kernel
theorem dL_law_332 : decode cL_law 332 = .ok (.iconst 1, 1) := by decide +kernel
theorem dL_law_333 : decode cL_law 333 = .ok (.iadd, 1) := by decide +kernel
theorem dL_law_334 : decode cL_law 334 = .ok (.iaload, 1) := by decide +kernel
theorem dL_law_335 : decode cL_law 335 = .ok (.aload_n 0, 1) := by decide +kernel
theorem dL_law_336 : decode cL_law 336 = .ok (.iload 4, 2) := by decide +kernel
theorem dL_law_338 : decode cL_law 338 = .ok (.iconst 2, 1) := by decide +kernel
theorem dL_law_339 : decode cL_law 339 = .ok (.iadd, 1) := by decide +kernel
theorem dL_law_340 : decode cL_law 340 = .ok (.iaload, 1) := by decide +kernel
theorem dL_law_341 : decode cL_law 341 = .ok (.aload_n 3, 1) := by decide +kernel
theorem dL_law_342 : decode cL_law 342 = .ok (.invokestatic 101, 3) := by decide +kernel
theorem dL_law_345 : decode cL_law 345 = .ok (.istore 5, 2) := by decide +kernel
theorem dL_law_347 : decode cL_law 347 = .ok (.aload_n 2, 1) := by decide +kernel
theorem dL_law_348 : decode cL_law 348 = .ok (.aload_n 0, 1) := by decide +kernel
theorem dL_law_349 : decode cL_law 349 = .ok (.iload 4, 2) := by decide +kernel
theorem dL_law_351 : decode cL_law 351 = .ok (.iconst 1, 1) := by decide +kernel
theorem dL_law_352 : decode cL_law 352 = .ok (.iadd, 1) := by decide +kernel
theorem dL_law_353 : decode cL_law 353 = .ok (.iaload, 1) := by decide +kernel
theorem dL_law_354 : decode cL_law 354 = .ok (.aload_n 0, 1) := by decide +kernel
theorem dL_law_355 : decode cL_law 355 = .ok (.iload 4, 2) := by decide +kernel
theorem dL_law_357 : decode cL_law 357 = .ok (.iconst 2, 1) := by decide +kernel
theorem dL_law_358 : decode cL_law 358 = .ok (.iadd, 1) := by decide +kernel
theorem dL_law_359 : decode cL_law 359 = .ok (.iaload, 1) := by decide +kernel
theorem dL_law_360 : decode cL_law 360 = .ok (.invokevirtual 104, 3) := by decide +kernel
theorem dL_law_363 : decode cL_law 363 = .ok (.istore 6, 2) := by decide +kernel
theorem dL_law_365 : decode cL_law 365 = .ok (.aload_n 2, 1) := by decide +kernel
theorem dL_law_366 : decode cL_law 366 = .ok (.invokevirtual 94, 3) := by decide +kernel
theorem dL_law_369 : decode cL_law 369 = .ok (.iload 5, 2) := by decide +kernel
theorem dL_law_371 : decode cL_law 371 = .ok (.if_icmp .eq 5, 3) := by decide +kernel
theorem dL_law_374 : decode cL_law 374 = .ok (.iconst 0, 1) := by decide +kernel
theorem dL_law_375 : decode cL_law 375 = .ok (.ireturn, 1) := by decide +kernel
theorem dL_law_376 : decode cL_law 376 = .ok (.iload 5, 2) := by decide +kernel
theorem dL_law_378 : decode cL_law 378 = .ok (.ifCond .ne 15, 3) := by decide +kernel
theorem dL_law_381 : decode cL_law 381 = .ok (.aload_n 3, 1) := by decide +kernel
theorem dL_law_382 : decode cL_law 382 = .ok (.iconst 0, 1) := by decide +kernel
theorem dL_law_383 : decode cL_law 383 = .ok (.laload, 1) := by decide +kernel
theorem dL_law_384 : decode cL_law 384 = .ok (.iload 6, 2) := by decide +kernel
theorem dL_law_386 : decode cL_law 386 = .ok (.i2l, 1) := by decide +kernel
theorem dL_law_387 : decode cL_law 387 = .ok (.lcmp, 1) := by decide +kernel
theorem dL_law_388 : decode cL_law 388 = .ok (.ifCond .eq 5, 3) := by decide +kernel
theorem dL_law_391 : decode cL_law 391 = .ok (.iconst 0, 1) := by decide +kernel
theorem dL_law_392 : decode cL_law 392 = .ok (.ireturn, 1) := by decide +kernel
theorem dL_law_393 : decode cL_law 393 = .ok (.goto 1320, 3) := by decide +kernel
theorem dL_law_396 : decode cL_law 396 = .ok (.aload_n 1, 1) := by decide +kernel
theorem dL_law_397 : decode cL_law 397 = .ok (.aload_n 0, 1) := by decide +kernel
theorem dL_law_398 : decode cL_law 398 = .ok (.iload 4, 2) := by decide +kernel
theorem dL_law_400 : decode cL_law 400 = .ok (.iconst 1, 1) := by decide +kernel
theorem dL_law_401 : decode cL_law 401 = .ok (.iadd, 1) := by decide +kernel
theorem dL_law_402 : decode cL_law 402 = .ok (.iaload, 1) := by decide +kernel
theorem dL_law_403 : decode cL_law 403 = .ok (.aload_n 0, 1) := by decide +kernel
theorem dL_law_404 : decode cL_law 404 = .ok (.iload 4, 2) := by decide +kernel
theorem dL_law_406 : decode cL_law 406 = .ok (.iconst 2, 1) := by decide +kernel
theorem dL_law_407 : decode cL_law 407 = .ok (.iadd, 1) := by decide +kernel
theorem dL_law_408 : decode cL_law 408 = .ok (.iaload, 1) := by decide +kernel
theorem dL_law_409 : decode cL_law 409 = .ok (.aload_n 0, 1) := by decide +kernel
theorem dL_law_410 : decode cL_law 410 = .ok (.iload 4, 2) := by decide +kernel
theorem dL_law_412 : decode cL_law 412 = .ok (.iconst 3, 1) := by decide +kernel
theorem dL_law_413 : decode cL_law 413 = .ok (.iadd, 1) := by decide +kernel
theorem dL_law_414 : decode cL_law 414 = .ok (.iaload, 1) := by decide +kernel
theorem dL_law_415 : decode cL_law 415 = .ok (.aload_n 3, 1) := by decide +kernel
theorem dL_law_416 : decode cL_law 416 = .ok (.invokestatic 105, 3) := by decide +kernel
theorem dL_law_419 : decode cL_law 419 = .ok (.istore 5, 2) := by decide +kernel
theorem dL_law_421 : decode cL_law 421 = .ok (.aload_n 2, 1) := by decide +kernel
theorem dL_law_422 : decode cL_law 422 = .ok (.aload_n 0, 1) := by decide +kernel
theorem dL_law_423 : decode cL_law 423 = .ok (.iload 4, 2) := by decide +kernel
theorem dL_law_425 : decode cL_law 425 = .ok (.iconst 1, 1) := by decide +kernel
theorem dL_law_426 : decode cL_law 426 = .ok (.iadd, 1) := by decide +kernel
theorem dL_law_427 : decode cL_law 427 = .ok (.iaload, 1) := by decide +kernel
theorem dL_law_428 : decode cL_law 428 = .ok (.aload_n 0, 1) := by decide +kernel
theorem dL_law_429 : decode cL_law 429 = .ok (.iload 4, 2) := by decide +kernel
theorem dL_law_431 : decode cL_law 431 = .ok (.iconst 2, 1) := by decide +kernel
theorem dL_law_432 : decode cL_law 432 = .ok (.iadd, 1) := by decide +kernel
theorem dL_law_433 : decode cL_law 433 = .ok (.iaload, 1) := by decide +kernel
theorem dL_law_434 : decode cL_law 434 = .ok (.aload_n 0, 1) := by decide +kernel
theorem dL_law_435 : decode cL_law 435 = .ok (.iload 4, 2) := by decide +kernel
theorem dL_law_437 : decode cL_law 437 = .ok (.iconst 3, 1) := by decide +kernel
theorem dL_law_438 : decode cL_law 438 = .ok (.iadd, 1) := by decide +kernel
theorem dL_law_439 : decode cL_law 439 = .ok (.iaload, 1) := by decide +kernel
theorem dL_law_440 : decode cL_law 440 = .ok (.invokevirtual 107, 3) := by decide +kernel
theorem dL_law_443 : decode cL_law 443 = .ok (.istore 6, 2) := by decide +kernel
theorem dL_law_445 : decode cL_law 445 = .ok (.aload_n 2, 1) := by decide +kernel
theorem dL_law_446 : decode cL_law 446 = .ok (.invokevirtual 94, 3) := by decide +kernel
theorem dL_law_449 : decode cL_law 449 = .ok (.iload 5, 2) := by decide +kernel
theorem dL_law_451 : decode cL_law 451 = .ok (.if_icmp .eq 5, 3) := by decide +kernel
theorem dL_law_454 : decode cL_law 454 = .ok (.iconst 0, 1) := by decide +kernel
theorem dL_law_455 : decode cL_law 455 = .ok (.ireturn, 1) := by decide +kernel
theorem dL_law_456 : decode cL_law 456 = .ok (.iload 5, 2) := by decide +kernel
theorem dL_law_458 : decode cL_law 458 = .ok (.ifCond .ne 15, 3) := by decide +kernel
theorem dL_law_461 : decode cL_law 461 = .ok (.aload_n 3, 1) := by decide +kernel
theorem dL_law_462 : decode cL_law 462 = .ok (.iconst 0, 1) := by decide +kernel
theorem dL_law_463 : decode cL_law 463 = .ok (.laload, 1) := by decide +kernel
theorem dL_law_464 : decode cL_law 464 = .ok (.iload 6, 2) := by decide +kernel
theorem dL_law_466 : decode cL_law 466 = .ok (.i2l, 1) := by decide +kernel
theorem dL_law_467 : decode cL_law 467 = .ok (.lcmp, 1) := by decide +kernel
theorem dL_law_468 : decode cL_law 468 = .ok (.ifCond .eq 5, 3) := by decide +kernel
theorem dL_law_471 : decode cL_law 471 = .ok (.iconst 0, 1) := by decide +kernel
theorem dL_law_472 : decode cL_law 472 = .ok (.ireturn, 1) := by decide +kernel
theorem dL_law_473 : decode cL_law 473 = .ok (.goto 1240, 3) := by decide +kernel
theorem dL_law_476 : decode cL_law 476 = .ok (.aload_n 1, 1) := by decide +kernel
theorem dL_law_477 : decode cL_law 477 = .ok (.aload_n 0, 1) := by decide +kernel
theorem dL_law_478 : decode cL_law 478 = .ok (.iload 4, 2) := by decide +kernel
theorem dL_law_480 : decode cL_law 480 = .ok (.iconst 1, 1) := by decide +kernel
theorem dL_law_481 : decode cL_law 481 = .ok (.iadd, 1) := by decide +kernel
theorem dL_law_482 : decode cL_law 482 = .ok (.iaload, 1) := by decide +kernel
theorem dL_law_483 : decode cL_law 483 = .ok (.aload_n 0, 1) := by decide +kernel
theorem dL_law_484 : decode cL_law 484 = .ok (.iload 4, 2) := by decide +kernel
theorem dL_law_486 : decode cL_law 486 = .ok (.iconst 2, 1) := by decide +kernel
theorem dL_law_487 : decode cL_law 487 = .ok (.iadd, 1) := by decide +kernel
theorem dL_law_488 : decode cL_law 488 = .ok (.iaload, 1) := by decide +kernel
theorem dL_law_489 : decode cL_law 489 = .ok (.aload_n 3, 1) := by decide +kernel
theorem dL_law_490 : decode cL_law 490 = .ok (.invokestatic 108, 3) := by decide +kernel
theorem dL_law_493 : decode cL_law 493 = .ok (.istore 5, 2) := by decide +kernel
theorem dL_law_495 : decode cL_law 495 = .ok (.aload_n 2, 1) := by decide +kernel
theorem dL_law_496 : decode cL_law 496 = .ok (.aload_n 0, 1) := by decide +kernel
theorem dL_law_497 : decode cL_law 497 = .ok (.iload 4, 2) := by decide +kernel
theorem dL_law_499 : decode cL_law 499 = .ok (.iconst 1, 1) := by decide +kernel
theorem dL_law_500 : decode cL_law 500 = .ok (.iadd, 1) := by decide +kernel
theorem dL_law_501 : decode cL_law 501 = .ok (.iaload, 1) := by decide +kernel
theorem dL_law_502 : decode cL_law 502 = .ok (.aload_n 0, 1) := by decide +kernel
theorem dL_law_503 : decode cL_law 503 = .ok (.iload 4, 2) := by decide +kernel
theorem dL_law_505 : decode cL_law 505 = .ok (.iconst 2, 1) := by decide +kernel
theorem dL_law_506 : decode cL_law 506 = .ok (.iadd, 1) := by decide +kernel
theorem dL_law_507 : decode cL_law 507 = .ok (.iaload, 1) := by decide +kernel
theorem dL_law_508 : decode cL_law 508 = .ok (.invokevirtual 110, 3) := by decide +kernel
theorem dL_law_511 : decode cL_law 511 = .ok (.istore 6, 2) := by decide +kernel
theorem dL_law_513 : decode cL_law 513 = .ok (.aload_n 2, 1) := by decide +kernel
theorem dL_law_514 : decode cL_law 514 = .ok (.invokevirtual 94, 3) := by decide +kernel
theorem dL_law_517 : decode cL_law 517 = .ok (.iload 5, 2) := by decide +kernel
theorem dL_law_519 : decode cL_law 519 = .ok (.if_icmp .eq 5, 3) := by decide +kernel
theorem dL_law_522 : decode cL_law 522 = .ok (.iconst 0, 1) := by decide +kernel
theorem dL_law_523 : decode cL_law 523 = .ok (.ireturn, 1) := by decide +kernel
theorem dL_law_524 : decode cL_law 524 = .ok (.iload 5, 2) := by decide +kernel
theorem dL_law_526 : decode cL_law 526 = .ok (.ifCond .ne 15, 3) := by decide +kernel
theorem dL_law_529 : decode cL_law 529 = .ok (.aload_n 3, 1) := by decide +kernel
theorem dL_law_530 : decode cL_law 530 = .ok (.iconst 0, 1) := by decide +kernel
theorem dL_law_531 : decode cL_law 531 = .ok (.laload, 1) := by decide +kernel
theorem dL_law_532 : decode cL_law 532 = .ok (.iload 6, 2) := by decide +kernel
theorem dL_law_534 : decode cL_law 534 = .ok (.i2l, 1) := by decide +kernel
theorem dL_law_535 : decode cL_law 535 = .ok (.lcmp, 1) := by decide +kernel
theorem dL_law_536 : decode cL_law 536 = .ok (.ifCond .eq 5, 3) := by decide +kernel
theorem dL_law_539 : decode cL_law 539 = .ok (.iconst 0, 1) := by decide +kernel
theorem dL_law_540 : decode cL_law 540 = .ok (.ireturn, 1) := by decide +kernel
theorem dL_law_541 : decode cL_law 541 = .ok (.goto 1172, 3) := by decide +kernel
theorem dL_law_544 : decode cL_law 544 = .ok (.aload_n 1, 1) := by decide +kernel
theorem dL_law_545 : decode cL_law 545 = .ok (.aload_n 0, 1) := by decide +kernel
theorem dL_law_546 : decode cL_law 546 = .ok (.iload 4, 2) := by decide +kernel
theorem dL_law_548 : decode cL_law 548 = .ok (.iconst 1, 1) := by decide +kernel
theorem dL_law_549 : decode cL_law 549 = .ok (.iadd, 1) := by decide +kernel
theorem dL_law_550 : decode cL_law 550 = .ok (.iaload, 1) := by decide +kernel
theorem dL_law_551 : decode cL_law 551 = .ok (.aload_n 0, 1) := by decide +kernel
theorem dL_law_552 : decode cL_law 552 = .ok (.iload 4, 2) := by decide +kernel
theorem dL_law_554 : decode cL_law 554 = .ok (.iconst 2, 1) := by decide +kernel
theorem dL_law_555 : decode cL_law 555 = .ok (.iadd, 1) := by decide +kernel
theorem dL_law_556 : decode cL_law 556 = .ok (.iaload, 1) := by decide +kernel
theorem dL_law_557 : decode cL_law 557 = .ok (.aload_n 0, 1) := by decide +kernel
theorem dL_law_558 : decode cL_law 558 = .ok (.iload 4, 2) := by decide +kernel
theorem dL_law_560 : decode cL_law 560 = .ok (.iconst 3, 1) := by decide +kernel
theorem dL_law_561 : decode cL_law 561 = .ok (.iadd, 1) := by decide +kernel
theorem dL_law_562 : decode cL_law 562 = .ok (.iaload, 1) := by decide +kernel
theorem dL_law_563 : decode cL_law 563 = .ok (.aload_n 0, 1) := by decide +kernel
theorem dL_law_564 : decode cL_law 564 = .ok (.iload 4, 2) := by decide +kernel
theorem dL_law_566 : decode cL_law 566 = .ok (.iconst 4, 1) := by decide +kernel
theorem dL_law_567 : decode cL_law 567 = .ok (.iadd, 1) := by decide +kernel
theorem dL_law_568 : decode cL_law 568 = .ok (.iaload, 1) := by decide +kernel
theorem dL_law_569 : decode cL_law 569 = .ok (.aload_n 3, 1) := by decide +kernel
theorem dL_law_570 : decode cL_law 570 = .ok (.invokestatic 111, 3) := by decide +kernel
theorem dL_law_573 : decode cL_law 573 = .ok (.istore 5, 2) := by decide +kernel
theorem dL_law_575 : decode cL_law 575 = .ok (.aload_n 2, 1) := by decide +kernel
theorem dL_law_576 : decode cL_law 576 = .ok (.aload_n 0, 1) := by decide +kernel
theorem dL_law_577 : decode cL_law 577 = .ok (.iload 4, 2) := by decide +kernel
theorem dL_law_579 : decode cL_law 579 = .ok (.iconst 1, 1) := by decide +kernel
theorem dL_law_580 : decode cL_law 580 = .ok (.iadd, 1) := by decide +kernel
theorem dL_law_581 : decode cL_law 581 = .ok (.iaload, 1) := by decide +kernel
theorem dL_law_582 : decode cL_law 582 = .ok (.aload_n 0, 1) := by decide +kernel
theorem dL_law_583 : decode cL_law 583 = .ok (.iload 4, 2) := by decide +kernel
theorem dL_law_585 : decode cL_law 585 = .ok (.iconst 2, 1) := by decide +kernel
theorem dL_law_586 : decode cL_law 586 = .ok (.iadd, 1) := by decide +kernel
theorem dL_law_587 : decode cL_law 587 = .ok (.iaload, 1) := by decide +kernel
theorem dL_law_588 : decode cL_law 588 = .ok (.aload_n 0, 1) := by decide +kernel
theorem dL_law_589 : decode cL_law 589 = .ok (.iload 4, 2) := by decide +kernel
theorem dL_law_591 : decode cL_law 591 = .ok (.iconst 3, 1) := by decide +kernel
theorem dL_law_592 : decode cL_law 592 = .ok (.iadd, 1) := by decide +kernel
theorem dL_law_593 : decode cL_law 593 = .ok (.iaload, 1) := by decide +kernel
theorem dL_law_594 : decode cL_law 594 = .ok (.aload_n 0, 1) := by decide +kernel
theorem dL_law_595 : decode cL_law 595 = .ok (.iload 4, 2) := by decide +kernel
theorem dL_law_597 : decode cL_law 597 = .ok (.iconst 4, 1) := by decide +kernel
theorem dL_law_598 : decode cL_law 598 = .ok (.iadd, 1) := by decide +kernel
theorem dL_law_599 : decode cL_law 599 = .ok (.iaload, 1) := by decide +kernel
theorem dL_law_600 : decode cL_law 600 = .ok (.invokevirtual 113, 3) := by decide +kernel
theorem dL_law_603 : decode cL_law 603 = .ok (.istore 6, 2) := by decide +kernel
theorem dL_law_605 : decode cL_law 605 = .ok (.aload_n 2, 1) := by decide +kernel
theorem dL_law_606 : decode cL_law 606 = .ok (.invokevirtual 94, 3) := by decide +kernel
theorem dL_law_609 : decode cL_law 609 = .ok (.iload 5, 2) := by decide +kernel
theorem dL_law_611 : decode cL_law 611 = .ok (.if_icmp .eq 5, 3) := by decide +kernel
theorem dL_law_614 : decode cL_law 614 = .ok (.iconst 0, 1) := by decide +kernel
theorem dL_law_615 : decode cL_law 615 = .ok (.ireturn, 1) := by decide +kernel
theorem dL_law_616 : decode cL_law 616 = .ok (.iload 5, 2) := by decide +kernel
theorem dL_law_618 : decode cL_law 618 = .ok (.ifCond .ne 15, 3) := by decide +kernel
theorem dL_law_621 : decode cL_law 621 = .ok (.aload_n 3, 1) := by decide +kernel
theorem dL_law_622 : decode cL_law 622 = .ok (.iconst 0, 1) := by decide +kernel
theorem dL_law_623 : decode cL_law 623 = .ok (.laload, 1) := by decide +kernel
theorem dL_law_624 : decode cL_law 624 = .ok (.iload 6, 2) := by decide +kernel
theorem dL_law_626 : decode cL_law 626 = .ok (.i2l, 1) := by decide +kernel
theorem dL_law_627 : decode cL_law 627 = .ok (.lcmp, 1) := by decide +kernel
theorem dL_law_628 : decode cL_law 628 = .ok (.ifCond .eq 5, 3) := by decide +kernel
theorem dL_law_631 : decode cL_law 631 = .ok (.iconst 0, 1) := by decide +kernel
theorem dL_law_632 : decode cL_law 632 = .ok (.ireturn, 1) := by decide +kernel
theorem dL_law_633 : decode cL_law 633 = .ok (.goto 1080, 3) := by decide +kernel
theorem dL_law_636 : decode cL_law 636 = .ok (.aload_n 1, 1) := by decide +kernel
theorem dL_law_637 : decode cL_law 637 = .ok (.aload_n 0, 1) := by decide +kernel
theorem dL_law_638 : decode cL_law 638 = .ok (.iload 4, 2) := by decide +kernel
theorem dL_law_640 : decode cL_law 640 = .ok (.iconst 1, 1) := by decide +kernel
theorem dL_law_641 : decode cL_law 641 = .ok (.iadd, 1) := by decide +kernel
theorem dL_law_642 : decode cL_law 642 = .ok (.iaload, 1) := by decide +kernel
theorem dL_law_643 : decode cL_law 643 = .ok (.aload_n 3, 1) := by decide +kernel
theorem dL_law_644 : decode cL_law 644 = .ok (.invokestatic 114, 3) := by decide +kernel
theorem dL_law_647 : decode cL_law 647 = .ok (.istore 5, 2) := by decide +kernel
theorem dL_law_649 : decode cL_law 649 = .ok (.aload_n 2, 1) := by decide +kernel
theorem dL_law_650 : decode cL_law 650 = .ok (.aload_n 0, 1) := by decide +kernel
theorem dL_law_651 : decode cL_law 651 = .ok (.iload 4, 2) := by decide +kernel
theorem dL_law_653 : decode cL_law 653 = .ok (.iconst 1, 1) := by decide +kernel
theorem dL_law_654 : decode cL_law 654 = .ok (.iadd, 1) := by decide +kernel
theorem dL_law_655 : decode cL_law 655 = .ok (.iaload, 1) := by decide +kernel
theorem dL_law_656 : decode cL_law 656 = .ok (.invokevirtual 117, 3) := by decide +kernel
theorem dL_law_659 : decode cL_law 659 = .ok (.istore 6, 2) := by decide +kernel
theorem dL_law_661 : decode cL_law 661 = .ok (.aload_n 2, 1) := by decide +kernel
theorem dL_law_662 : decode cL_law 662 = .ok (.invokevirtual 94, 3) := by decide +kernel
theorem dL_law_665 : decode cL_law 665 = .ok (.iload 5, 2) := by decide +kernel
theorem dL_law_667 : decode cL_law 667 = .ok (.if_icmp .eq 5, 3) := by decide +kernel
theorem dL_law_670 : decode cL_law 670 = .ok (.iconst 0, 1) := by decide +kernel
theorem dL_law_671 : decode cL_law 671 = .ok (.ireturn, 1) := by decide +kernel
theorem dL_law_672 : decode cL_law 672 = .ok (.iload 5, 2) := by decide +kernel
theorem dL_law_674 : decode cL_law 674 = .ok (.ifCond .ne 15, 3) := by decide +kernel
theorem dL_law_677 : decode cL_law 677 = .ok (.aload_n 3, 1) := by decide +kernel
theorem dL_law_678 : decode cL_law 678 = .ok (.iconst 0, 1) := by decide +kernel
theorem dL_law_679 : decode cL_law 679 = .ok (.laload, 1) := by decide +kernel
theorem dL_law_680 : decode cL_law 680 = .ok (.iload 6, 2) := by decide +kernel
theorem dL_law_682 : decode cL_law 682 = .ok (.i2l, 1) := by decide +kernel
theorem dL_law_683 : decode cL_law 683 = .ok (.lcmp, 1) := by decide +kernel
theorem dL_law_684 : decode cL_law 684 = .ok (.ifCond .eq 5, 3) := by decide +kernel
theorem dL_law_687 : decode cL_law 687 = .ok (.iconst 0, 1) := by decide +kernel
theorem dL_law_688 : decode cL_law 688 = .ok (.ireturn, 1) := by decide +kernel
theorem dL_law_689 : decode cL_law 689 = .ok (.goto 1024, 3) := by decide +kernel
theorem dL_law_692 : decode cL_law 692 = .ok (.aload_n 1, 1) := by decide +kernel
theorem dL_law_693 : decode cL_law 693 = .ok (.aload_n 0, 1) := by decide +kernel
theorem dL_law_694 : decode cL_law 694 = .ok (.iload 4, 2) := by decide +kernel
theorem dL_law_696 : decode cL_law 696 = .ok (.iconst 1, 1) := by decide +kernel
theorem dL_law_697 : decode cL_law 697 = .ok (.iadd, 1) := by decide +kernel
theorem dL_law_698 : decode cL_law 698 = .ok (.iaload, 1) := by decide +kernel
theorem dL_law_699 : decode cL_law 699 = .ok (.aload_n 3, 1) := by decide +kernel
theorem dL_law_700 : decode cL_law 700 = .ok (.invokestatic 118, 3) := by decide +kernel
theorem dL_law_703 : decode cL_law 703 = .ok (.istore 5, 2) := by decide +kernel
theorem dL_law_705 : decode cL_law 705 = .ok (.aload_n 2, 1) := by decide +kernel
theorem dL_law_706 : decode cL_law 706 = .ok (.aload_n 0, 1) := by decide +kernel
theorem dL_law_707 : decode cL_law 707 = .ok (.iload 4, 2) := by decide +kernel
theorem dL_law_709 : decode cL_law 709 = .ok (.iconst 1, 1) := by decide +kernel
theorem dL_law_710 : decode cL_law 710 = .ok (.iadd, 1) := by decide +kernel
theorem dL_law_711 : decode cL_law 711 = .ok (.iaload, 1) := by decide +kernel
theorem dL_law_712 : decode cL_law 712 = .ok (.invokevirtual 120, 3) := by decide +kernel
theorem dL_law_715 : decode cL_law 715 = .ok (.istore 6, 2) := by decide +kernel
theorem dL_law_717 : decode cL_law 717 = .ok (.aload_n 2, 1) := by decide +kernel
theorem dL_law_718 : decode cL_law 718 = .ok (.invokevirtual 94, 3) := by decide +kernel
theorem dL_law_721 : decode cL_law 721 = .ok (.iload 5, 2) := by decide +kernel
theorem dL_law_723 : decode cL_law 723 = .ok (.if_icmp .eq 5, 3) := by decide +kernel
theorem dL_law_726 : decode cL_law 726 = .ok (.iconst 0, 1) := by decide +kernel
theorem dL_law_727 : decode cL_law 727 = .ok (.ireturn, 1) := by decide +kernel
theorem dL_law_728 : decode cL_law 728 = .ok (.iload 5, 2) := by decide +kernel
theorem dL_law_730 : decode cL_law 730 = .ok (.ifCond .ne 15, 3) := by decide +kernel
theorem dL_law_733 : decode cL_law 733 = .ok (.aload_n 3, 1) := by decide +kernel
theorem dL_law_734 : decode cL_law 734 = .ok (.iconst 0, 1) := by decide +kernel
theorem dL_law_735 : decode cL_law 735 = .ok (.laload, 1) := by decide +kernel
theorem dL_law_736 : decode cL_law 736 = .ok (.iload 6, 2) := by decide +kernel
theorem dL_law_738 : decode cL_law 738 = .ok (.i2l, 1) := by decide +kernel
theorem dL_law_739 : decode cL_law 739 = .ok (.lcmp, 1) := by decide +kernel
theorem dL_law_740 : decode cL_law 740 = .ok (.ifCond .eq 5, 3) := by decide +kernel
theorem dL_law_743 : decode cL_law 743 = .ok (.iconst 0, 1) := by decide +kernel
theorem dL_law_744 : decode cL_law 744 = .ok (.ireturn, 1) := by decide +kernel
theorem dL_law_745 : decode cL_law 745 = .ok (.goto 968, 3) := by decide +kernel
theorem dL_law_748 : decode cL_law 748 = .ok (.aload_n 1, 1) := by decide +kernel
theorem dL_law_749 : decode cL_law 749 = .ok (.invokevirtual 121, 3) := by decide +kernel
theorem dL_law_752 : decode cL_law 752 = .ok (.aload_n 2, 1) := by decide +kernel
theorem dL_law_753 : decode cL_law 753 = .ok (.invokevirtual 124, 3) := by decide +kernel
theorem dL_law_756 : decode cL_law 756 = .ok (.if_icmp .eq 957, 3) := by decide +kernel
theorem dL_law_759 : decode cL_law 759 = .ok (.iconst 0, 1) := by decide +kernel
theorem dL_law_760 : decode cL_law 760 = .ok (.ireturn, 1) := by decide +kernel
theorem dL_law_761 : decode cL_law 761 = .ok (.aload_n 1, 1) := by decide +kernel
theorem dL_law_762 : decode cL_law 762 = .ok (.invokevirtual 125, 3) := by decide +kernel
theorem dL_law_765 : decode cL_law 765 = .ok (.aload_n 2, 1) := by decide +kernel
theorem dL_law_766 : decode cL_law 766 = .ok (.invokevirtual 128, 3) := by decide +kernel
theorem dL_law_769 : decode cL_law 769 = .ok (.if_icmp .eq 944, 3) := by decide +kernel
theorem dL_law_772 : decode cL_law 772 = .ok (.iconst 0, 1) := by decide +kernel
theorem dL_law_773 : decode cL_law 773 = .ok (.ireturn, 1) := by decide +kernel
theorem dL_law_774 : decode cL_law 774 = .ok (.aload_n 1, 1) := by decide +kernel
theorem dL_law_775 : decode cL_law 775 = .ok (.aload_n 3, 1) := by decide +kernel
theorem dL_law_776 : decode cL_law 776 = .ok (.invokestatic 129, 3) := by decide +kernel
theorem dL_law_779 : decode cL_law 779 = .ok (.istore 5, 2) := by decide +kernel
theorem dL_law_781 : decode cL_law 781 = .ok (.aload_n 2, 1) := by decide +kernel
theorem dL_law_782 : decode cL_law 782 = .ok (.invokevirtual 132, 3) := by decide +kernel
theorem dL_law_785 : decode cL_law 785 = .ok (.istore 6, 2) := by decide +kernel
theorem dL_law_787 : decode cL_law 787 = .ok (.aload_n 2, 1) := by decide +kernel
theorem dL_law_788 : decode cL_law 788 = .ok (.invokevirtual 94, 3) := by decide +kernel
theorem dL_law_791 : decode cL_law 791 = .ok (.iload 5, 2) := by decide +kernel
theorem dL_law_793 : decode cL_law 793 = .ok (.if_icmp .eq 5, 3) := by decide +kernel
theorem dL_law_796 : decode cL_law 796 = .ok (.iconst 0, 1) := by decide +kernel
theorem dL_law_797 : decode cL_law 797 = .ok (.ireturn, 1) := by decide +kernel
theorem dL_law_798 : decode cL_law 798 = .ok (.iload 5, 2) := by decide +kernel
theorem dL_law_800 : decode cL_law 800 = .ok (.ifCond .ne 15, 3) := by decide +kernel
theorem dL_law_803 : decode cL_law 803 = .ok (.aload_n 3, 1) := by decide +kernel
theorem dL_law_804 : decode cL_law 804 = .ok (.iconst 0, 1) := by decide +kernel
theorem dL_law_805 : decode cL_law 805 = .ok (.laload, 1) := by decide +kernel
theorem dL_law_806 : decode cL_law 806 = .ok (.iload 6, 2) := by decide +kernel
theorem dL_law_808 : decode cL_law 808 = .ok (.i2l, 1) := by decide +kernel
theorem dL_law_809 : decode cL_law 809 = .ok (.lcmp, 1) := by decide +kernel
theorem dL_law_810 : decode cL_law 810 = .ok (.ifCond .eq 5, 3) := by decide +kernel
theorem dL_law_813 : decode cL_law 813 = .ok (.iconst 0, 1) := by decide +kernel
theorem dL_law_814 : decode cL_law 814 = .ok (.ireturn, 1) := by decide +kernel
theorem dL_law_815 : decode cL_law 815 = .ok (.goto 898, 3) := by decide +kernel
theorem dL_law_818 : decode cL_law 818 = .ok (.aload_n 1, 1) := by decide +kernel
theorem dL_law_819 : decode cL_law 819 = .ok (.aload_n 3, 1) := by decide +kernel
theorem dL_law_820 : decode cL_law 820 = .ok (.invokestatic 133, 3) := by decide +kernel
theorem dL_law_823 : decode cL_law 823 = .ok (.istore 5, 2) := by decide +kernel
theorem dL_law_825 : decode cL_law 825 = .ok (.aload_n 2, 1) := by decide +kernel
theorem dL_law_826 : decode cL_law 826 = .ok (.invokevirtual 135, 3) := by decide +kernel
theorem dL_law_829 : decode cL_law 829 = .ok (.istore 6, 2) := by decide +kernel
theorem dL_law_831 : decode cL_law 831 = .ok (.aload_n 2, 1) := by decide +kernel
theorem dL_law_832 : decode cL_law 832 = .ok (.invokevirtual 94, 3) := by decide +kernel
theorem dL_law_835 : decode cL_law 835 = .ok (.iload 5, 2) := by decide +kernel
theorem dL_law_837 : decode cL_law 837 = .ok (.if_icmp .eq 5, 3) := by decide +kernel
theorem dL_law_840 : decode cL_law 840 = .ok (.iconst 0, 1) := by decide +kernel
theorem dL_law_841 : decode cL_law 841 = .ok (.ireturn, 1) := by decide +kernel
theorem dL_law_842 : decode cL_law 842 = .ok (.iload 5, 2) := by decide +kernel
theorem dL_law_844 : decode cL_law 844 = .ok (.ifCond .ne 15, 3) := by decide +kernel
theorem dL_law_847 : decode cL_law 847 = .ok (.aload_n 3, 1) := by decide +kernel
theorem dL_law_848 : decode cL_law 848 = .ok (.iconst 0, 1) := by decide +kernel
theorem dL_law_849 : decode cL_law 849 = .ok (.laload, 1) := by decide +kernel
theorem dL_law_850 : decode cL_law 850 = .ok (.iload 6, 2) := by decide +kernel
theorem dL_law_852 : decode cL_law 852 = .ok (.i2l, 1) := by decide +kernel
theorem dL_law_853 : decode cL_law 853 = .ok (.lcmp, 1) := by decide +kernel
theorem dL_law_854 : decode cL_law 854 = .ok (.ifCond .eq 5, 3) := by decide +kernel
theorem dL_law_857 : decode cL_law 857 = .ok (.iconst 0, 1) := by decide +kernel
theorem dL_law_858 : decode cL_law 858 = .ok (.ireturn, 1) := by decide +kernel
theorem dL_law_859 : decode cL_law 859 = .ok (.goto 854, 3) := by decide +kernel
theorem dL_law_862 : decode cL_law 862 = .ok (.aload_n 1, 1) := by decide +kernel
theorem dL_law_863 : decode cL_law 863 = .ok (.aload_n 0, 1) := by decide +kernel
theorem dL_law_864 : decode cL_law 864 = .ok (.iload 4, 2) := by decide +kernel
theorem dL_law_866 : decode cL_law 866 = .ok (.iconst 1, 1) := by decide +kernel
theorem dL_law_867 : decode cL_law 867 = .ok (.iadd, 1) := by decide +kernel
theorem dL_law_868 : decode cL_law 868 = .ok (.iaload, 1) := by decide +kernel
theorem dL_law_869 : decode cL_law 869 = .ok (.aload_n 0, 1) := by decide +kernel
theorem dL_law_870 : decode cL_law 870 = .ok (.iload 4, 2) := by decide +kernel
theorem dL_law_872 : decode cL_law 872 = .ok (.iconst 2, 1) := by decide +kernel
theorem dL_law_873 : decode cL_law 873 = .ok (.iadd, 1) := by decide +kernel
theorem dL_law_874 : decode cL_law 874 = .ok (.iaload, 1) := by decide +kernel
theorem dL_law_875 : decode cL_law 875 = .ok (.aload_n 3, 1) := by decide +kernel
theorem dL_law_876 : decode cL_law 876 = .ok (.invokestatic 136, 3) := by decide +kernel
theorem dL_law_879 : decode cL_law 879 = .ok (.istore 5, 2) := by decide +kernel
theorem dL_law_881 : decode cL_law 881 = .ok (.aload_n 2, 1) := by decide +kernel
theorem dL_law_882 : decode cL_law 882 = .ok (.aload_n 0, 1) := by decide +kernel
theorem dL_law_883 : decode cL_law 883 = .ok (.iload 4, 2) := by decide +kernel
theorem dL_law_885 : decode cL_law 885 = .ok (.iconst 1, 1) := by decide +kernel
theorem dL_law_886 : decode cL_law 886 = .ok (.iadd, 1) := by decide +kernel
theorem dL_law_887 : decode cL_law 887 = .ok (.iaload, 1) := by decide +kernel
theorem dL_law_888 : decode cL_law 888 = .ok (.aload_n 0, 1) := by decide +kernel
theorem dL_law_889 : decode cL_law 889 = .ok (.iload 4, 2) := by decide +kernel
theorem dL_law_891 : decode cL_law 891 = .ok (.iconst 2, 1) := by decide +kernel
theorem dL_law_892 : decode cL_law 892 = .ok (.iadd, 1) := by decide +kernel
theorem dL_law_893 : decode cL_law 893 = .ok (.iaload, 1) := by decide +kernel
theorem dL_law_894 : decode cL_law 894 = .ok (.invokevirtual 138, 3) := by decide +kernel
theorem dL_law_897 : decode cL_law 897 = .ok (.istore 6, 2) := by decide +kernel
theorem dL_law_899 : decode cL_law 899 = .ok (.aload_n 2, 1) := by decide +kernel
theorem dL_law_900 : decode cL_law 900 = .ok (.invokevirtual 94, 3) := by decide +kernel
theorem dL_law_903 : decode cL_law 903 = .ok (.iload 5, 2) := by decide +kernel
theorem dL_law_905 : decode cL_law 905 = .ok (.if_icmp .eq 5, 3) := by decide +kernel
theorem dL_law_908 : decode cL_law 908 = .ok (.iconst 0, 1) := by decide +kernel
theorem dL_law_909 : decode cL_law 909 = .ok (.ireturn, 1) := by decide +kernel
theorem dL_law_910 : decode cL_law 910 = .ok (.iload 5, 2) := by decide +kernel
theorem dL_law_912 : decode cL_law 912 = .ok (.ifCond .ne 15, 3) := by decide +kernel
theorem dL_law_915 : decode cL_law 915 = .ok (.aload_n 3, 1) := by decide +kernel
theorem dL_law_916 : decode cL_law 916 = .ok (.iconst 0, 1) := by decide +kernel
theorem dL_law_917 : decode cL_law 917 = .ok (.laload, 1) := by decide +kernel
theorem dL_law_918 : decode cL_law 918 = .ok (.iload 6, 2) := by decide +kernel
theorem dL_law_920 : decode cL_law 920 = .ok (.i2l, 1) := by decide +kernel
theorem dL_law_921 : decode cL_law 921 = .ok (.lcmp, 1) := by decide +kernel
theorem dL_law_922 : decode cL_law 922 = .ok (.ifCond .eq 5, 3) := by decide +kernel
theorem dL_law_925 : decode cL_law 925 = .ok (.iconst 0, 1) := by decide +kernel
theorem dL_law_926 : decode cL_law 926 = .ok (.ireturn, 1) := by decide +kernel
theorem dL_law_927 : decode cL_law 927 = .ok (.goto 786, 3) := by decide +kernel
theorem dL_law_930 : decode cL_law 930 = .ok (.aload_n 1, 1) := by decide +kernel
theorem dL_law_931 : decode cL_law 931 = .ok (.aload_n 0, 1) := by decide +kernel
theorem dL_law_932 : decode cL_law 932 = .ok (.iload 4, 2) := by decide +kernel
theorem dL_law_934 : decode cL_law 934 = .ok (.iconst 1, 1) := by decide +kernel
theorem dL_law_935 : decode cL_law 935 = .ok (.iadd, 1) := by decide +kernel
theorem dL_law_936 : decode cL_law 936 = .ok (.iaload, 1) := by decide +kernel
theorem dL_law_937 : decode cL_law 937 = .ok (.aload_n 0, 1) := by decide +kernel
theorem dL_law_938 : decode cL_law 938 = .ok (.iload 4, 2) := by decide +kernel
theorem dL_law_940 : decode cL_law 940 = .ok (.iconst 2, 1) := by decide +kernel
theorem dL_law_941 : decode cL_law 941 = .ok (.iadd, 1) := by decide +kernel
theorem dL_law_942 : decode cL_law 942 = .ok (.iaload, 1) := by decide +kernel
theorem dL_law_943 : decode cL_law 943 = .ok (.aload_n 3, 1) := by decide +kernel
theorem dL_law_944 : decode cL_law 944 = .ok (.invokestatic 139, 3) := by decide +kernel
theorem dL_law_947 : decode cL_law 947 = .ok (.istore 5, 2) := by decide +kernel
theorem dL_law_949 : decode cL_law 949 = .ok (.aload_n 2, 1) := by decide +kernel
theorem dL_law_950 : decode cL_law 950 = .ok (.aload_n 0, 1) := by decide +kernel
theorem dL_law_951 : decode cL_law 951 = .ok (.iload 4, 2) := by decide +kernel
theorem dL_law_953 : decode cL_law 953 = .ok (.iconst 1, 1) := by decide +kernel
theorem dL_law_954 : decode cL_law 954 = .ok (.iadd, 1) := by decide +kernel
theorem dL_law_955 : decode cL_law 955 = .ok (.iaload, 1) := by decide +kernel
theorem dL_law_956 : decode cL_law 956 = .ok (.aload_n 0, 1) := by decide +kernel
theorem dL_law_957 : decode cL_law 957 = .ok (.iload 4, 2) := by decide +kernel
theorem dL_law_959 : decode cL_law 959 = .ok (.iconst 2, 1) := by decide +kernel
theorem dL_law_960 : decode cL_law 960 = .ok (.iadd, 1) := by decide +kernel
theorem dL_law_961 : decode cL_law 961 = .ok (.iaload, 1) := by decide +kernel
theorem dL_law_962 : decode cL_law 962 = .ok (.invokevirtual 141, 3) := by decide +kernel
theorem dL_law_965 : decode cL_law 965 = .ok (.istore 6, 2) := by decide +kernel
theorem dL_law_967 : decode cL_law 967 = .ok (.aload_n 2, 1) := by decide +kernel
theorem dL_law_968 : decode cL_law 968 = .ok (.invokevirtual 94, 3) := by decide +kernel
theorem dL_law_971 : decode cL_law 971 = .ok (.iload 5, 2) := by decide +kernel
theorem dL_law_973 : decode cL_law 973 = .ok (.if_icmp .eq 5, 3) := by decide +kernel
theorem dL_law_976 : decode cL_law 976 = .ok (.iconst 0, 1) := by decide +kernel
theorem dL_law_977 : decode cL_law 977 = .ok (.ireturn, 1) := by decide +kernel
theorem dL_law_978 : decode cL_law 978 = .ok (.iload 5, 2) := by decide +kernel
theorem dL_law_980 : decode cL_law 980 = .ok (.ifCond .ne 15, 3) := by decide +kernel
theorem dL_law_983 : decode cL_law 983 = .ok (.aload_n 3, 1) := by decide +kernel
theorem dL_law_984 : decode cL_law 984 = .ok (.iconst 0, 1) := by decide +kernel
theorem dL_law_985 : decode cL_law 985 = .ok (.laload, 1) := by decide +kernel
theorem dL_law_986 : decode cL_law 986 = .ok (.iload 6, 2) := by decide +kernel
theorem dL_law_988 : decode cL_law 988 = .ok (.i2l, 1) := by decide +kernel
theorem dL_law_989 : decode cL_law 989 = .ok (.lcmp, 1) := by decide +kernel
theorem dL_law_990 : decode cL_law 990 = .ok (.ifCond .eq 5, 3) := by decide +kernel
theorem dL_law_993 : decode cL_law 993 = .ok (.iconst 0, 1) := by decide +kernel
theorem dL_law_994 : decode cL_law 994 = .ok (.ireturn, 1) := by decide +kernel
theorem dL_law_995 : decode cL_law 995 = .ok (.goto 718, 3) := by decide +kernel
theorem dL_law_998 : decode cL_law 998 = .ok (.aload_n 1, 1) := by decide +kernel
theorem dL_law_999 : decode cL_law 999 = .ok (.aload_n 0, 1) := by decide +kernel
theorem dL_law_1000 : decode cL_law 1000 = .ok (.iload 4, 2) := by decide +kernel
theorem dL_law_1002 : decode cL_law 1002 = .ok (.iconst 1, 1) := by decide +kernel
theorem dL_law_1003 : decode cL_law 1003 = .ok (.iadd, 1) := by decide +kernel
theorem dL_law_1004 : decode cL_law 1004 = .ok (.iaload, 1) := by decide +kernel
theorem dL_law_1005 : decode cL_law 1005 = .ok (.aload_n 0, 1) := by decide +kernel
theorem dL_law_1006 : decode cL_law 1006 = .ok (.iload 4, 2) := by decide +kernel
theorem dL_law_1008 : decode cL_law 1008 = .ok (.iconst 2, 1) := by decide +kernel
theorem dL_law_1009 : decode cL_law 1009 = .ok (.iadd, 1) := by decide +kernel
theorem dL_law_1010 : decode cL_law 1010 = .ok (.iaload, 1) := by decide +kernel
theorem dL_law_1011 : decode cL_law 1011 = .ok (.aload_n 3, 1) := by decide +kernel
theorem dL_law_1012 : decode cL_law 1012 = .ok (.invokestatic 142, 3) := by decide +kernel
theorem dL_law_1015 : decode cL_law 1015 = .ok (.istore 5, 2) := by decide +kernel
theorem dL_law_1017 : decode cL_law 1017 = .ok (.aload_n 2, 1) := by decide +kernel
theorem dL_law_1018 : decode cL_law 1018 = .ok (.aload_n 0, 1) := by decide +kernel
theorem dL_law_1019 : decode cL_law 1019 = .ok (.iload 4, 2) := by decide +kernel
theorem dL_law_1021 : decode cL_law 1021 = .ok (.iconst 1, 1) := by decide +kernel
theorem dL_law_1022 : decode cL_law 1022 = .ok (.iadd, 1) := by decide +kernel
theorem dL_law_1023 : decode cL_law 1023 = .ok (.iaload, 1) := by decide +kernel
theorem dL_law_1024 : decode cL_law 1024 = .ok (.aload_n 0, 1) := by decide +kernel
theorem dL_law_1025 : decode cL_law 1025 = .ok (.iload 4, 2) := by decide +kernel
theorem dL_law_1027 : decode cL_law 1027 = .ok (.iconst 2, 1) := by decide +kernel
theorem dL_law_1028 : decode cL_law 1028 = .ok (.iadd, 1) := by decide +kernel
theorem dL_law_1029 : decode cL_law 1029 = .ok (.iaload, 1) := by decide +kernel
theorem dL_law_1030 : decode cL_law 1030 = .ok (.invokevirtual 144, 3) := by decide +kernel
theorem dL_law_1033 : decode cL_law 1033 = .ok (.istore 6, 2) := by decide +kernel
theorem dL_law_1035 : decode cL_law 1035 = .ok (.aload_n 2, 1) := by decide +kernel
theorem dL_law_1036 : decode cL_law 1036 = .ok (.invokevirtual 94, 3) := by decide +kernel
theorem dL_law_1039 : decode cL_law 1039 = .ok (.iload 5, 2) := by decide +kernel
theorem dL_law_1041 : decode cL_law 1041 = .ok (.if_icmp .eq 5, 3) := by decide +kernel
theorem dL_law_1044 : decode cL_law 1044 = .ok (.iconst 0, 1) := by decide +kernel
theorem dL_law_1045 : decode cL_law 1045 = .ok (.ireturn, 1) := by decide +kernel
theorem dL_law_1046 : decode cL_law 1046 = .ok (.iload 5, 2) := by decide +kernel
theorem dL_law_1048 : decode cL_law 1048 = .ok (.ifCond .ne 15, 3) := by decide +kernel
theorem dL_law_1051 : decode cL_law 1051 = .ok (.aload_n 3, 1) := by decide +kernel
theorem dL_law_1052 : decode cL_law 1052 = .ok (.iconst 0, 1) := by decide +kernel
theorem dL_law_1053 : decode cL_law 1053 = .ok (.laload, 1) := by decide +kernel
theorem dL_law_1054 : decode cL_law 1054 = .ok (.iload 6, 2) := by decide +kernel
theorem dL_law_1056 : decode cL_law 1056 = .ok (.i2l, 1) := by decide +kernel
theorem dL_law_1057 : decode cL_law 1057 = .ok (.lcmp, 1) := by decide +kernel
theorem dL_law_1058 : decode cL_law 1058 = .ok (.ifCond .eq 5, 3) := by decide +kernel
theorem dL_law_1061 : decode cL_law 1061 = .ok (.iconst 0, 1) := by decide +kernel
theorem dL_law_1062 : decode cL_law 1062 = .ok (.ireturn, 1) := by decide +kernel
theorem dL_law_1063 : decode cL_law 1063 = .ok (.goto 650, 3) := by decide +kernel
theorem dL_law_1066 : decode cL_law 1066 = .ok (.aload_n 1, 1) := by decide +kernel
theorem dL_law_1067 : decode cL_law 1067 = .ok (.aload_n 0, 1) := by decide +kernel
theorem dL_law_1068 : decode cL_law 1068 = .ok (.iload 4, 2) := by decide +kernel
theorem dL_law_1070 : decode cL_law 1070 = .ok (.iconst 1, 1) := by decide +kernel
theorem dL_law_1071 : decode cL_law 1071 = .ok (.iadd, 1) := by decide +kernel
theorem dL_law_1072 : decode cL_law 1072 = .ok (.iaload, 1) := by decide +kernel
theorem dL_law_1073 : decode cL_law 1073 = .ok (.aload_n 0, 1) := by decide +kernel
theorem dL_law_1074 : decode cL_law 1074 = .ok (.iload 4, 2) := by decide +kernel
theorem dL_law_1076 : decode cL_law 1076 = .ok (.iconst 2, 1) := by decide +kernel
theorem dL_law_1077 : decode cL_law 1077 = .ok (.iadd, 1) := by decide +kernel
theorem dL_law_1078 : decode cL_law 1078 = .ok (.iaload, 1) := by decide +kernel
theorem dL_law_1079 : decode cL_law 1079 = .ok (.aload_n 3, 1) := by decide +kernel
theorem dL_law_1080 : decode cL_law 1080 = .ok (.invokestatic 145, 3) := by decide +kernel
theorem dL_law_1083 : decode cL_law 1083 = .ok (.istore 5, 2) := by decide +kernel
theorem dL_law_1085 : decode cL_law 1085 = .ok (.aload_n 2, 1) := by decide +kernel
theorem dL_law_1086 : decode cL_law 1086 = .ok (.aload_n 0, 1) := by decide +kernel
theorem dL_law_1087 : decode cL_law 1087 = .ok (.iload 4, 2) := by decide +kernel
theorem dL_law_1089 : decode cL_law 1089 = .ok (.iconst 1, 1) := by decide +kernel
theorem dL_law_1090 : decode cL_law 1090 = .ok (.iadd, 1) := by decide +kernel
theorem dL_law_1091 : decode cL_law 1091 = .ok (.iaload, 1) := by decide +kernel
theorem dL_law_1092 : decode cL_law 1092 = .ok (.aload_n 0, 1) := by decide +kernel
theorem dL_law_1093 : decode cL_law 1093 = .ok (.iload 4, 2) := by decide +kernel
theorem dL_law_1095 : decode cL_law 1095 = .ok (.iconst 2, 1) := by decide +kernel
theorem dL_law_1096 : decode cL_law 1096 = .ok (.iadd, 1) := by decide +kernel
theorem dL_law_1097 : decode cL_law 1097 = .ok (.iaload, 1) := by decide +kernel
theorem dL_law_1098 : decode cL_law 1098 = .ok (.invokevirtual 147, 3) := by decide +kernel
theorem dL_law_1101 : decode cL_law 1101 = .ok (.istore 6, 2) := by decide +kernel
theorem dL_law_1103 : decode cL_law 1103 = .ok (.aload_n 2, 1) := by decide +kernel
theorem dL_law_1104 : decode cL_law 1104 = .ok (.invokevirtual 94, 3) := by decide +kernel
theorem dL_law_1107 : decode cL_law 1107 = .ok (.iload 5, 2) := by decide +kernel
theorem dL_law_1109 : decode cL_law 1109 = .ok (.if_icmp .eq 5, 3) := by decide +kernel
theorem dL_law_1112 : decode cL_law 1112 = .ok (.iconst 0, 1) := by decide +kernel
theorem dL_law_1113 : decode cL_law 1113 = .ok (.ireturn, 1) := by decide +kernel
theorem dL_law_1114 : decode cL_law 1114 = .ok (.iload 5, 2) := by decide +kernel
theorem dL_law_1116 : decode cL_law 1116 = .ok (.ifCond .ne 15, 3) := by decide +kernel
theorem dL_law_1119 : decode cL_law 1119 = .ok (.aload_n 3, 1) := by decide +kernel
theorem dL_law_1120 : decode cL_law 1120 = .ok (.iconst 0, 1) := by decide +kernel
theorem dL_law_1121 : decode cL_law 1121 = .ok (.laload, 1) := by decide +kernel
theorem dL_law_1122 : decode cL_law 1122 = .ok (.iload 6, 2) := by decide +kernel
theorem dL_law_1124 : decode cL_law 1124 = .ok (.i2l, 1) := by decide +kernel
theorem dL_law_1125 : decode cL_law 1125 = .ok (.lcmp, 1) := by decide +kernel
theorem dL_law_1126 : decode cL_law 1126 = .ok (.ifCond .eq 5, 3) := by decide +kernel
theorem dL_law_1129 : decode cL_law 1129 = .ok (.iconst 0, 1) := by decide +kernel
theorem dL_law_1130 : decode cL_law 1130 = .ok (.ireturn, 1) := by decide +kernel
theorem dL_law_1131 : decode cL_law 1131 = .ok (.goto 582, 3) := by decide +kernel
theorem dL_law_1134 : decode cL_law 1134 = .ok (.aload_n 1, 1) := by decide +kernel
theorem dL_law_1135 : decode cL_law 1135 = .ok (.aload_n 0, 1) := by decide +kernel
theorem dL_law_1136 : decode cL_law 1136 = .ok (.iload 4, 2) := by decide +kernel
theorem dL_law_1138 : decode cL_law 1138 = .ok (.iconst 1, 1) := by decide +kernel
theorem dL_law_1139 : decode cL_law 1139 = .ok (.iadd, 1) := by decide +kernel
theorem dL_law_1140 : decode cL_law 1140 = .ok (.iaload, 1) := by decide +kernel
theorem dL_law_1141 : decode cL_law 1141 = .ok (.aload_n 3, 1) := by decide +kernel
theorem dL_law_1142 : decode cL_law 1142 = .ok (.invokestatic 148, 3) := by decide +kernel
theorem dL_law_1145 : decode cL_law 1145 = .ok (.istore 5, 2) := by decide +kernel
theorem dL_law_1147 : decode cL_law 1147 = .ok (.aload_n 2, 1) := by decide +kernel
theorem dL_law_1148 : decode cL_law 1148 = .ok (.aload_n 0, 1) := by decide +kernel
theorem dL_law_1149 : decode cL_law 1149 = .ok (.iload 4, 2) := by decide +kernel
theorem dL_law_1151 : decode cL_law 1151 = .ok (.iconst 1, 1) := by decide +kernel
theorem dL_law_1152 : decode cL_law 1152 = .ok (.iadd, 1) := by decide +kernel
theorem dL_law_1153 : decode cL_law 1153 = .ok (.iaload, 1) := by decide +kernel
theorem dL_law_1154 : decode cL_law 1154 = .ok (.invokevirtual 150, 3) := by decide +kernel
theorem dL_law_1157 : decode cL_law 1157 = .ok (.istore 6, 2) := by decide +kernel
theorem dL_law_1159 : decode cL_law 1159 = .ok (.aload_n 2, 1) := by decide +kernel
theorem dL_law_1160 : decode cL_law 1160 = .ok (.invokevirtual 94, 3) := by decide +kernel
theorem dL_law_1163 : decode cL_law 1163 = .ok (.iload 5, 2) := by decide +kernel
theorem dL_law_1165 : decode cL_law 1165 = .ok (.if_icmp .eq 5, 3) := by decide +kernel
theorem dL_law_1168 : decode cL_law 1168 = .ok (.iconst 0, 1) := by decide +kernel
theorem dL_law_1169 : decode cL_law 1169 = .ok (.ireturn, 1) := by decide +kernel
theorem dL_law_1170 : decode cL_law 1170 = .ok (.iload 5, 2) := by decide +kernel
theorem dL_law_1172 : decode cL_law 1172 = .ok (.ifCond .ne 15, 3) := by decide +kernel
theorem dL_law_1175 : decode cL_law 1175 = .ok (.aload_n 3, 1) := by decide +kernel
theorem dL_law_1176 : decode cL_law 1176 = .ok (.iconst 0, 1) := by decide +kernel
theorem dL_law_1177 : decode cL_law 1177 = .ok (.laload, 1) := by decide +kernel
theorem dL_law_1178 : decode cL_law 1178 = .ok (.iload 6, 2) := by decide +kernel
theorem dL_law_1180 : decode cL_law 1180 = .ok (.i2l, 1) := by decide +kernel
theorem dL_law_1181 : decode cL_law 1181 = .ok (.lcmp, 1) := by decide +kernel
theorem dL_law_1182 : decode cL_law 1182 = .ok (.ifCond .eq 5, 3) := by decide +kernel
theorem dL_law_1185 : decode cL_law 1185 = .ok (.iconst 0, 1) := by decide +kernel
theorem dL_law_1186 : decode cL_law 1186 = .ok (.ireturn, 1) := by decide +kernel
theorem dL_law_1187 : decode cL_law 1187 = .ok (.goto 526, 3) := by decide +kernel
theorem dL_law_1190 : decode cL_law 1190 = .ok (.aload_n 1, 1) := by decide +kernel
theorem dL_law_1191 : decode cL_law 1191 = .ok (.aload_n 0, 1) := by decide +kernel
theorem dL_law_1192 : decode cL_law 1192 = .ok (.iload 4, 2) := by decide +kernel
theorem dL_law_1194 : decode cL_law 1194 = .ok (.iconst 1, 1) := by decide +kernel
theorem dL_law_1195 : decode cL_law 1195 = .ok (.iadd, 1) := by decide +kernel
theorem dL_law_1196 : decode cL_law 1196 = .ok (.iaload, 1) := by decide +kernel
theorem dL_law_1197 : decode cL_law 1197 = .ok (.aload_n 0, 1) := by decide +kernel
theorem dL_law_1198 : decode cL_law 1198 = .ok (.iload 4, 2) := by decide +kernel
theorem dL_law_1200 : decode cL_law 1200 = .ok (.iconst 2, 1) := by decide +kernel
theorem dL_law_1201 : decode cL_law 1201 = .ok (.iadd, 1) := by decide +kernel
theorem dL_law_1202 : decode cL_law 1202 = .ok (.iaload, 1) := by decide +kernel
theorem dL_law_1203 : decode cL_law 1203 = .ok (.aload_n 0, 1) := by decide +kernel
theorem dL_law_1204 : decode cL_law 1204 = .ok (.iload 4, 2) := by decide +kernel
theorem dL_law_1206 : decode cL_law 1206 = .ok (.iconst 3, 1) := by decide +kernel
theorem dL_law_1207 : decode cL_law 1207 = .ok (.iadd, 1) := by decide +kernel
theorem dL_law_1208 : decode cL_law 1208 = .ok (.iaload, 1) := by decide +kernel
theorem dL_law_1209 : decode cL_law 1209 = .ok (.aload_n 3, 1) := by decide +kernel
theorem dL_law_1210 : decode cL_law 1210 = .ok (.invokestatic 151, 3) := by decide +kernel
theorem dL_law_1213 : decode cL_law 1213 = .ok (.istore 5, 2) := by decide +kernel
theorem dL_law_1215 : decode cL_law 1215 = .ok (.aload_n 2, 1) := by decide +kernel
theorem dL_law_1216 : decode cL_law 1216 = .ok (.aload_n 0, 1) := by decide +kernel
theorem dL_law_1217 : decode cL_law 1217 = .ok (.iload 4, 2) := by decide +kernel
theorem dL_law_1219 : decode cL_law 1219 = .ok (.iconst 1, 1) := by decide +kernel
theorem dL_law_1220 : decode cL_law 1220 = .ok (.iadd, 1) := by decide +kernel
theorem dL_law_1221 : decode cL_law 1221 = .ok (.iaload, 1) := by decide +kernel
theorem dL_law_1222 : decode cL_law 1222 = .ok (.aload_n 0, 1) := by decide +kernel
theorem dL_law_1223 : decode cL_law 1223 = .ok (.iload 4, 2) := by decide +kernel
theorem dL_law_1225 : decode cL_law 1225 = .ok (.iconst 2, 1) := by decide +kernel
theorem dL_law_1226 : decode cL_law 1226 = .ok (.iadd, 1) := by decide +kernel
theorem dL_law_1227 : decode cL_law 1227 = .ok (.iaload, 1) := by decide +kernel
theorem dL_law_1228 : decode cL_law 1228 = .ok (.aload_n 0, 1) := by decide +kernel
theorem dL_law_1229 : decode cL_law 1229 = .ok (.iload 4, 2) := by decide +kernel
theorem dL_law_1231 : decode cL_law 1231 = .ok (.iconst 3, 1) := by decide +kernel
theorem dL_law_1232 : decode cL_law 1232 = .ok (.iadd, 1) := by decide +kernel
theorem dL_law_1233 : decode cL_law 1233 = .ok (.iaload, 1) := by decide +kernel
theorem dL_law_1234 : decode cL_law 1234 = .ok (.invokevirtual 153, 3) := by decide +kernel
theorem dL_law_1237 : decode cL_law 1237 = .ok (.istore 6, 2) := by decide +kernel
theorem dL_law_1239 : decode cL_law 1239 = .ok (.aload_n 2, 1) := by decide +kernel
theorem dL_law_1240 : decode cL_law 1240 = .ok (.invokevirtual 94, 3) := by decide +kernel
theorem dL_law_1243 : decode cL_law 1243 = .ok (.iload 5, 2) := by decide +kernel
theorem dL_law_1245 : decode cL_law 1245 = .ok (.if_icmp .eq 5, 3) := by decide +kernel
theorem dL_law_1248 : decode cL_law 1248 = .ok (.iconst 0, 1) := by decide +kernel
theorem dL_law_1249 : decode cL_law 1249 = .ok (.ireturn, 1) := by decide +kernel
theorem dL_law_1250 : decode cL_law 1250 = .ok (.iload 5, 2) := by decide +kernel
theorem dL_law_1252 : decode cL_law 1252 = .ok (.ifCond .ne 15, 3) := by decide +kernel
theorem dL_law_1255 : decode cL_law 1255 = .ok (.aload_n 3, 1) := by decide +kernel
theorem dL_law_1256 : decode cL_law 1256 = .ok (.iconst 0, 1) := by decide +kernel
theorem dL_law_1257 : decode cL_law 1257 = .ok (.laload, 1) := by decide +kernel
theorem dL_law_1258 : decode cL_law 1258 = .ok (.iload 6, 2) := by decide +kernel
theorem dL_law_1260 : decode cL_law 1260 = .ok (.i2l, 1) := by decide +kernel
theorem dL_law_1261 : decode cL_law 1261 = .ok (.lcmp, 1) := by decide +kernel
theorem dL_law_1262 : decode cL_law 1262 = .ok (.ifCond .eq 5, 3) := by decide +kernel
theorem dL_law_1265 : decode cL_law 1265 = .ok (.iconst 0, 1) := by decide +kernel
theorem dL_law_1266 : decode cL_law 1266 = .ok (.ireturn, 1) := by decide +kernel
theorem dL_law_1267 : decode cL_law 1267 = .ok (.goto 446, 3) := by decide +kernel
theorem dL_law_1270 : decode cL_law 1270 = .ok (.aload_n 1, 1) := by decide +kernel
theorem dL_law_1271 : decode cL_law 1271 = .ok (.aload_n 0, 1) := by decide +kernel
theorem dL_law_1272 : decode cL_law 1272 = .ok (.iload 4, 2) := by decide +kernel
theorem dL_law_1274 : decode cL_law 1274 = .ok (.iconst 1, 1) := by decide +kernel
theorem dL_law_1275 : decode cL_law 1275 = .ok (.iadd, 1) := by decide +kernel
theorem dL_law_1276 : decode cL_law 1276 = .ok (.iaload, 1) := by decide +kernel
theorem dL_law_1277 : decode cL_law 1277 = .ok (.aload_n 0, 1) := by decide +kernel
theorem dL_law_1278 : decode cL_law 1278 = .ok (.iload 4, 2) := by decide +kernel
theorem dL_law_1280 : decode cL_law 1280 = .ok (.iconst 2, 1) := by decide +kernel
theorem dL_law_1281 : decode cL_law 1281 = .ok (.iadd, 1) := by decide +kernel
theorem dL_law_1282 : decode cL_law 1282 = .ok (.iaload, 1) := by decide +kernel
theorem dL_law_1283 : decode cL_law 1283 = .ok (.aload_n 0, 1) := by decide +kernel
theorem dL_law_1284 : decode cL_law 1284 = .ok (.iload 4, 2) := by decide +kernel
theorem dL_law_1286 : decode cL_law 1286 = .ok (.iconst 3, 1) := by decide +kernel
theorem dL_law_1287 : decode cL_law 1287 = .ok (.iadd, 1) := by decide +kernel
theorem dL_law_1288 : decode cL_law 1288 = .ok (.iaload, 1) := by decide +kernel
theorem dL_law_1289 : decode cL_law 1289 = .ok (.aload_n 3, 1) := by decide +kernel
theorem dL_law_1290 : decode cL_law 1290 = .ok (.invokestatic 154, 3) := by decide +kernel
theorem dL_law_1293 : decode cL_law 1293 = .ok (.istore 5, 2) := by decide +kernel
theorem dL_law_1295 : decode cL_law 1295 = .ok (.aload_n 2, 1) := by decide +kernel
theorem dL_law_1296 : decode cL_law 1296 = .ok (.aload_n 0, 1) := by decide +kernel
theorem dL_law_1297 : decode cL_law 1297 = .ok (.iload 4, 2) := by decide +kernel
theorem dL_law_1299 : decode cL_law 1299 = .ok (.iconst 1, 1) := by decide +kernel
theorem dL_law_1300 : decode cL_law 1300 = .ok (.iadd, 1) := by decide +kernel
theorem dL_law_1301 : decode cL_law 1301 = .ok (.iaload, 1) := by decide +kernel
theorem dL_law_1302 : decode cL_law 1302 = .ok (.aload_n 0, 1) := by decide +kernel
theorem dL_law_1303 : decode cL_law 1303 = .ok (.iload 4, 2) := by decide +kernel
theorem dL_law_1305 : decode cL_law 1305 = .ok (.iconst 2, 1) := by decide +kernel
theorem dL_law_1306 : decode cL_law 1306 = .ok (.iadd, 1) := by decide +kernel
theorem dL_law_1307 : decode cL_law 1307 = .ok (.iaload, 1) := by decide +kernel
theorem dL_law_1308 : decode cL_law 1308 = .ok (.aload_n 0, 1) := by decide +kernel
theorem dL_law_1309 : decode cL_law 1309 = .ok (.iload 4, 2) := by decide +kernel
theorem dL_law_1311 : decode cL_law 1311 = .ok (.iconst 3, 1) := by decide +kernel
theorem dL_law_1312 : decode cL_law 1312 = .ok (.iadd, 1) := by decide +kernel
theorem dL_law_1313 : decode cL_law 1313 = .ok (.iaload, 1) := by decide +kernel
theorem dL_law_1314 : decode cL_law 1314 = .ok (.invokevirtual 156, 3) := by decide +kernel
theorem dL_law_1317 : decode cL_law 1317 = .ok (.istore 6, 2) := by decide +kernel
theorem dL_law_1319 : decode cL_law 1319 = .ok (.aload_n 2, 1) := by decide +kernel
theorem dL_law_1320 : decode cL_law 1320 = .ok (.invokevirtual 94, 3) := by decide +kernel
theorem dL_law_1323 : decode cL_law 1323 = .ok (.iload 5, 2) := by decide +kernel
theorem dL_law_1325 : decode cL_law 1325 = .ok (.if_icmp .eq 5, 3) := by decide +kernel
theorem dL_law_1328 : decode cL_law 1328 = .ok (.iconst 0, 1) := by decide +kernel
theorem dL_law_1329 : decode cL_law 1329 = .ok (.ireturn, 1) := by decide +kernel
theorem dL_law_1330 : decode cL_law 1330 = .ok (.iload 5, 2) := by decide +kernel
theorem dL_law_1332 : decode cL_law 1332 = .ok (.ifCond .ne 15, 3) := by decide +kernel
theorem dL_law_1335 : decode cL_law 1335 = .ok (.aload_n 3, 1) := by decide +kernel
theorem dL_law_1336 : decode cL_law 1336 = .ok (.iconst 0, 1) := by decide +kernel
theorem dL_law_1337 : decode cL_law 1337 = .ok (.laload, 1) := by decide +kernel
theorem dL_law_1338 : decode cL_law 1338 = .ok (.iload 6, 2) := by decide +kernel
theorem dL_law_1340 : decode cL_law 1340 = .ok (.i2l, 1) := by decide +kernel
theorem dL_law_1341 : decode cL_law 1341 = .ok (.lcmp, 1) := by decide +kernel
theorem dL_law_1342 : decode cL_law 1342 = .ok (.ifCond .eq 5, 3) := by decide +kernel
theorem dL_law_1345 : decode cL_law 1345 = .ok (.iconst 0, 1) := by decide +kernel
theorem dL_law_1346 : decode cL_law 1346 = .ok (.ireturn, 1) := by decide +kernel
theorem dL_law_1347 : decode cL_law 1347 = .ok (.goto 366, 3) := by decide +kernel
theorem dL_law_1350 : decode cL_law 1350 = .ok (.aload_n 1, 1) := by decide +kernel
theorem dL_law_1351 : decode cL_law 1351 = .ok (.aload_n 0, 1) := by decide +kernel
theorem dL_law_1352 : decode cL_law 1352 = .ok (.iload 4, 2) := by decide +kernel
theorem dL_law_1354 : decode cL_law 1354 = .ok (.iconst 1, 1) := by decide +kernel
theorem dL_law_1355 : decode cL_law 1355 = .ok (.iadd, 1) := by decide +kernel
theorem dL_law_1356 : decode cL_law 1356 = .ok (.iaload, 1) := by decide +kernel
theorem dL_law_1357 : decode cL_law 1357 = .ok (.aload_n 0, 1) := by decide +kernel
theorem dL_law_1358 : decode cL_law 1358 = .ok (.iload 4, 2) := by decide +kernel
theorem dL_law_1360 : decode cL_law 1360 = .ok (.iconst 2, 1) := by decide +kernel
theorem dL_law_1361 : decode cL_law 1361 = .ok (.iadd, 1) := by decide +kernel
theorem dL_law_1362 : decode cL_law 1362 = .ok (.iaload, 1) := by decide +kernel
theorem dL_law_1363 : decode cL_law 1363 = .ok (.aload_n 0, 1) := by decide +kernel
theorem dL_law_1364 : decode cL_law 1364 = .ok (.iload 4, 2) := by decide +kernel
theorem dL_law_1366 : decode cL_law 1366 = .ok (.iconst 3, 1) := by decide +kernel
theorem dL_law_1367 : decode cL_law 1367 = .ok (.iadd, 1) := by decide +kernel
theorem dL_law_1368 : decode cL_law 1368 = .ok (.iaload, 1) := by decide +kernel
theorem dL_law_1369 : decode cL_law 1369 = .ok (.aload_n 0, 1) := by decide +kernel
theorem dL_law_1370 : decode cL_law 1370 = .ok (.iload 4, 2) := by decide +kernel
theorem dL_law_1372 : decode cL_law 1372 = .ok (.iconst 4, 1) := by decide +kernel
theorem dL_law_1373 : decode cL_law 1373 = .ok (.iadd, 1) := by decide +kernel
theorem dL_law_1374 : decode cL_law 1374 = .ok (.iaload, 1) := by decide +kernel
theorem dL_law_1375 : decode cL_law 1375 = .ok (.aload_n 0, 1) := by decide +kernel
theorem dL_law_1376 : decode cL_law 1376 = .ok (.iload 4, 2) := by decide +kernel
theorem dL_law_1378 : decode cL_law 1378 = .ok (.iconst 5, 1) := by decide +kernel
theorem dL_law_1379 : decode cL_law 1379 = .ok (.iadd, 1) := by decide +kernel
theorem dL_law_1380 : decode cL_law 1380 = .ok (.iaload, 1) := by decide +kernel
theorem dL_law_1381 : decode cL_law 1381 = .ok (.aload_n 3, 1) := by decide +kernel
theorem dL_law_1382 : decode cL_law 1382 = .ok (.invokestatic 157, 3) := by decide +kernel
theorem dL_law_1385 : decode cL_law 1385 = .ok (.istore 5, 2) := by decide +kernel
theorem dL_law_1387 : decode cL_law 1387 = .ok (.aload_n 2, 1) := by decide +kernel
theorem dL_law_1388 : decode cL_law 1388 = .ok (.aload_n 0, 1) := by decide +kernel
theorem dL_law_1389 : decode cL_law 1389 = .ok (.iload 4, 2) := by decide +kernel
theorem dL_law_1391 : decode cL_law 1391 = .ok (.iconst 1, 1) := by decide +kernel
theorem dL_law_1392 : decode cL_law 1392 = .ok (.iadd, 1) := by decide +kernel
theorem dL_law_1393 : decode cL_law 1393 = .ok (.iaload, 1) := by decide +kernel
theorem dL_law_1394 : decode cL_law 1394 = .ok (.aload_n 0, 1) := by decide +kernel
theorem dL_law_1395 : decode cL_law 1395 = .ok (.iload 4, 2) := by decide +kernel
theorem dL_law_1397 : decode cL_law 1397 = .ok (.iconst 2, 1) := by decide +kernel
theorem dL_law_1398 : decode cL_law 1398 = .ok (.iadd, 1) := by decide +kernel
theorem dL_law_1399 : decode cL_law 1399 = .ok (.iaload, 1) := by decide +kernel
theorem dL_law_1400 : decode cL_law 1400 = .ok (.aload_n 0, 1) := by decide +kernel
theorem dL_law_1401 : decode cL_law 1401 = .ok (.iload 4, 2) := by decide +kernel
theorem dL_law_1403 : decode cL_law 1403 = .ok (.iconst 3, 1) := by decide +kernel
theorem dL_law_1404 : decode cL_law 1404 = .ok (.iadd, 1) := by decide +kernel
theorem dL_law_1405 : decode cL_law 1405 = .ok (.iaload, 1) := by decide +kernel
theorem dL_law_1406 : decode cL_law 1406 = .ok (.aload_n 0, 1) := by decide +kernel
theorem dL_law_1407 : decode cL_law 1407 = .ok (.iload 4, 2) := by decide +kernel
theorem dL_law_1409 : decode cL_law 1409 = .ok (.iconst 4, 1) := by decide +kernel
theorem dL_law_1410 : decode cL_law 1410 = .ok (.iadd, 1) := by decide +kernel
theorem dL_law_1411 : decode cL_law 1411 = .ok (.iaload, 1) := by decide +kernel
theorem dL_law_1412 : decode cL_law 1412 = .ok (.aload_n 0, 1) := by decide +kernel
theorem dL_law_1413 : decode cL_law 1413 = .ok (.iload 4, 2) := by decide +kernel
theorem dL_law_1415 : decode cL_law 1415 = .ok (.iconst 5, 1) := by decide +kernel
theorem dL_law_1416 : decode cL_law 1416 = .ok (.iadd, 1) := by decide +kernel
theorem dL_law_1417 : decode cL_law 1417 = .ok (.iaload, 1) := by decide +kernel
theorem dL_law_1418 : decode cL_law 1418 = .ok (.invokevirtual 160, 3) := by decide +kernel
theorem dL_law_1421 : decode cL_law 1421 = .ok (.istore 6, 2) := by decide +kernel
theorem dL_law_1423 : decode cL_law 1423 = .ok (.aload_n 2, 1) := by decide +kernel
theorem dL_law_1424 : decode cL_law 1424 = .ok (.invokevirtual 94, 3) := by decide +kernel
theorem dL_law_1427 : decode cL_law 1427 = .ok (.iload 5, 2) := by decide +kernel
theorem dL_law_1429 : decode cL_law 1429 = .ok (.if_icmp .eq 5, 3) := by decide +kernel
theorem dL_law_1432 : decode cL_law 1432 = .ok (.iconst 0, 1) := by decide +kernel
theorem dL_law_1433 : decode cL_law 1433 = .ok (.ireturn, 1) := by decide +kernel
theorem dL_law_1434 : decode cL_law 1434 = .ok (.iload 5, 2) := by decide +kernel
theorem dL_law_1436 : decode cL_law 1436 = .ok (.ifCond .ne 15, 3) := by decide +kernel
theorem dL_law_1439 : decode cL_law 1439 = .ok (.aload_n 3, 1) := by decide +kernel
theorem dL_law_1440 : decode cL_law 1440 = .ok (.iconst 0, 1) := by decide +kernel
theorem dL_law_1441 : decode cL_law 1441 = .ok (.laload, 1) := by decide +kernel
theorem dL_law_1442 : decode cL_law 1442 = .ok (.iload 6, 2) := by decide +kernel
theorem dL_law_1444 : decode cL_law 1444 = .ok (.i2l, 1) := by decide +kernel
theorem dL_law_1445 : decode cL_law 1445 = .ok (.lcmp, 1) := by decide +kernel
theorem dL_law_1446 : decode cL_law 1446 = .ok (.ifCond .eq 5, 3) := by decide +kernel
theorem dL_law_1449 : decode cL_law 1449 = .ok (.iconst 0, 1) := by decide +kernel
theorem dL_law_1450 : decode cL_law 1450 = .ok (.ireturn, 1) := by decide +kernel
theorem dL_law_1451 : decode cL_law 1451 = .ok (.goto 262, 3) := by decide +kernel
theorem dL_law_1454 : decode cL_law 1454 = .ok (.aload_n 1, 1) := by decide +kernel
theorem dL_law_1455 : decode cL_law 1455 = .ok (.aload_n 0, 1) := by decide +kernel
theorem dL_law_1456 : decode cL_law 1456 = .ok (.iload 4, 2) := by decide +kernel
theorem dL_law_1458 : decode cL_law 1458 = .ok (.iconst 1, 1) := by decide +kernel
theorem dL_law_1459 : decode cL_law 1459 = .ok (.iadd, 1) := by decide +kernel
theorem dL_law_1460 : decode cL_law 1460 = .ok (.iaload, 1) := by decide +kernel
theorem dL_law_1461 : decode cL_law 1461 = .ok (.aload_n 0, 1) := by decide +kernel
theorem dL_law_1462 : decode cL_law 1462 = .ok (.iload 4, 2) := by decide +kernel
theorem dL_law_1464 : decode cL_law 1464 = .ok (.iconst 2, 1) := by decide +kernel
theorem dL_law_1465 : decode cL_law 1465 = .ok (.iadd, 1) := by decide +kernel
theorem dL_law_1466 : decode cL_law 1466 = .ok (.iaload, 1) := by decide +kernel
theorem dL_law_1467 : decode cL_law 1467 = .ok (.aload_n 3, 1) := by decide +kernel
theorem dL_law_1468 : decode cL_law 1468 = .ok (.invokestatic 161, 3) := by decide +kernel
theorem dL_law_1471 : decode cL_law 1471 = .ok (.istore 5, 2) := by decide +kernel
theorem dL_law_1473 : decode cL_law 1473 = .ok (.aload_n 2, 1) := by decide +kernel
theorem dL_law_1474 : decode cL_law 1474 = .ok (.aload_n 0, 1) := by decide +kernel
theorem dL_law_1475 : decode cL_law 1475 = .ok (.iload 4, 2) := by decide +kernel
theorem dL_law_1477 : decode cL_law 1477 = .ok (.iconst 1, 1) := by decide +kernel
theorem dL_law_1478 : decode cL_law 1478 = .ok (.iadd, 1) := by decide +kernel
theorem dL_law_1479 : decode cL_law 1479 = .ok (.iaload, 1) := by decide +kernel
theorem dL_law_1480 : decode cL_law 1480 = .ok (.aload_n 0, 1) := by decide +kernel
theorem dL_law_1481 : decode cL_law 1481 = .ok (.iload 4, 2) := by decide +kernel
theorem dL_law_1483 : decode cL_law 1483 = .ok (.iconst 2, 1) := by decide +kernel
theorem dL_law_1484 : decode cL_law 1484 = .ok (.iadd, 1) := by decide +kernel
theorem dL_law_1485 : decode cL_law 1485 = .ok (.iaload, 1) := by decide +kernel
theorem dL_law_1486 : decode cL_law 1486 = .ok (.invokevirtual 163, 3) := by decide +kernel
theorem dL_law_1489 : decode cL_law 1489 = .ok (.istore 6, 2) := by decide +kernel
theorem dL_law_1491 : decode cL_law 1491 = .ok (.aload_n 2, 1) := by decide +kernel
theorem dL_law_1492 : decode cL_law 1492 = .ok (.invokevirtual 94, 3) := by decide +kernel
theorem dL_law_1495 : decode cL_law 1495 = .ok (.iload 5, 2) := by decide +kernel
theorem dL_law_1497 : decode cL_law 1497 = .ok (.if_icmp .eq 5, 3) := by decide +kernel
theorem dL_law_1500 : decode cL_law 1500 = .ok (.iconst 0, 1) := by decide +kernel
theorem dL_law_1501 : decode cL_law 1501 = .ok (.ireturn, 1) := by decide +kernel
theorem dL_law_1502 : decode cL_law 1502 = .ok (.iload 5, 2) := by decide +kernel
theorem dL_law_1504 : decode cL_law 1504 = .ok (.ifCond .ne 15, 3) := by decide +kernel
theorem dL_law_1507 : decode cL_law 1507 = .ok (.aload_n 3, 1) := by decide +kernel
theorem dL_law_1508 : decode cL_law 1508 = .ok (.iconst 0, 1) := by decide +kernel
theorem dL_law_1509 : decode cL_law 1509 = .ok (.laload, 1) := by decide +kernel
theorem dL_law_1510 : decode cL_law 1510 = .ok (.iload 6, 2) := by decide +kernel
theorem dL_law_1512 : decode cL_law 1512 = .ok (.i2l, 1) := by decide +kernel
theorem dL_law_1513 : decode cL_law 1513 = .ok (.lcmp, 1) := by decide +kernel
theorem dL_law_1514 : decode cL_law 1514 = .ok (.ifCond .eq 5, 3) := by decide +kernel
theorem dL_law_1517 : decode cL_law 1517 = .ok (.iconst 0, 1) := by decide +kernel
theorem dL_law_1518 : decode cL_law 1518 = .ok (.ireturn, 1) := by decide +kernel
theorem dL_law_1519 : decode cL_law 1519 = .ok (.goto 194, 3) := by decide +kernel
theorem dL_law_1522 : decode cL_law 1522 = .ok (.aload_n 1, 1) := by decide +kernel
theorem dL_law_1523 : decode cL_law 1523 = .ok (.aload_n 0, 1) := by decide +kernel
theorem dL_law_1524 : decode cL_law 1524 = .ok (.iload 4, 2) := by decide +kernel
theorem dL_law_1526 : decode cL_law 1526 = .ok (.iconst 1, 1) := by decide +kernel
theorem dL_law_1527 : decode cL_law 1527 = .ok (.iadd, 1) := by decide +kernel
theorem dL_law_1528 : decode cL_law 1528 = .ok (.iaload, 1) := by decide +kernel
theorem dL_law_1529 : decode cL_law 1529 = .ok (.aload_n 3, 1) := by decide +kernel
theorem dL_law_1530 : decode cL_law 1530 = .ok (.invokestatic 164, 3) := by decide +kernel
theorem dL_law_1533 : decode cL_law 1533 = .ok (.istore 5, 2) := by decide +kernel
theorem dL_law_1535 : decode cL_law 1535 = .ok (.aload_n 2, 1) := by decide +kernel
theorem dL_law_1536 : decode cL_law 1536 = .ok (.aload_n 0, 1) := by decide +kernel
theorem dL_law_1537 : decode cL_law 1537 = .ok (.iload 4, 2) := by decide +kernel
theorem dL_law_1539 : decode cL_law 1539 = .ok (.iconst 1, 1) := by decide +kernel
theorem dL_law_1540 : decode cL_law 1540 = .ok (.iadd, 1) := by decide +kernel
theorem dL_law_1541 : decode cL_law 1541 = .ok (.iaload, 1) := by decide +kernel
theorem dL_law_1542 : decode cL_law 1542 = .ok (.invokevirtual 166, 3) := by decide +kernel
theorem dL_law_1545 : decode cL_law 1545 = .ok (.istore 6, 2) := by decide +kernel
theorem dL_law_1547 : decode cL_law 1547 = .ok (.aload_n 2, 1) := by decide +kernel
theorem dL_law_1548 : decode cL_law 1548 = .ok (.invokevirtual 94, 3) := by decide +kernel
theorem dL_law_1551 : decode cL_law 1551 = .ok (.iload 5, 2) := by decide +kernel
theorem dL_law_1553 : decode cL_law 1553 = .ok (.if_icmp .eq 5, 3) := by decide +kernel
theorem dL_law_1556 : decode cL_law 1556 = .ok (.iconst 0, 1) := by decide +kernel
theorem dL_law_1557 : decode cL_law 1557 = .ok (.ireturn, 1) := by decide +kernel
theorem dL_law_1558 : decode cL_law 1558 = .ok (.iload 5, 2) := by decide +kernel
theorem dL_law_1560 : decode cL_law 1560 = .ok (.ifCond .ne 15, 3) := by decide +kernel
theorem dL_law_1563 : decode cL_law 1563 = .ok (.aload_n 3, 1) := by decide +kernel
theorem dL_law_1564 : decode cL_law 1564 = .ok (.iconst 0, 1) := by decide +kernel
theorem dL_law_1565 : decode cL_law 1565 = .ok (.laload, 1) := by decide +kernel
theorem dL_law_1566 : decode cL_law 1566 = .ok (.iload 6, 2) := by decide +kernel
theorem dL_law_1568 : decode cL_law 1568 = .ok (.i2l, 1) := by decide +kernel
theorem dL_law_1569 : decode cL_law 1569 = .ok (.lcmp, 1) := by decide +kernel
theorem dL_law_1570 : decode cL_law 1570 = .ok (.ifCond .eq 5, 3) := by decide +kernel
theorem dL_law_1573 : decode cL_law 1573 = .ok (.iconst 0, 1) := by decide +kernel
theorem dL_law_1574 : decode cL_law 1574 = .ok (.ireturn, 1) := by decide +kernel
theorem dL_law_1575 : decode cL_law 1575 = .ok (.goto 138, 3) := by decide +kernel
theorem dL_law_1578 : decode cL_law 1578 = .ok (.aload_n 1, 1) := by decide +kernel
theorem dL_law_1579 : decode cL_law 1579 = .ok (.aload_n 0, 1) := by decide +kernel
theorem dL_law_1580 : decode cL_law 1580 = .ok (.iload 4, 2) := by decide +kernel
theorem dL_law_1582 : decode cL_law 1582 = .ok (.iconst 1, 1) := by decide +kernel
theorem dL_law_1583 : decode cL_law 1583 = .ok (.iadd, 1) := by decide +kernel
theorem dL_law_1584 : decode cL_law 1584 = .ok (.iaload, 1) := by decide +kernel
theorem dL_law_1585 : decode cL_law 1585 = .ok (.aload_n 0, 1) := by decide +kernel
theorem dL_law_1586 : decode cL_law 1586 = .ok (.iload 4, 2) := by decide +kernel
theorem dL_law_1588 : decode cL_law 1588 = .ok (.iconst 2, 1) := by decide +kernel
theorem dL_law_1589 : decode cL_law 1589 = .ok (.iadd, 1) := by decide +kernel
theorem dL_law_1590 : decode cL_law 1590 = .ok (.iaload, 1) := by decide +kernel
theorem dL_law_1591 : decode cL_law 1591 = .ok (.aload_n 0, 1) := by decide +kernel
theorem dL_law_1592 : decode cL_law 1592 = .ok (.iload 4, 2) := by decide +kernel
theorem dL_law_1594 : decode cL_law 1594 = .ok (.iconst 3, 1) := by decide +kernel
theorem dL_law_1595 : decode cL_law 1595 = .ok (.iadd, 1) := by decide +kernel
theorem dL_law_1596 : decode cL_law 1596 = .ok (.iaload, 1) := by decide +kernel
theorem dL_law_1597 : decode cL_law 1597 = .ok (.aload_n 3, 1) := by decide +kernel
theorem dL_law_1598 : decode cL_law 1598 = .ok (.invokestatic 167, 3) := by decide +kernel
theorem dL_law_1601 : decode cL_law 1601 = .ok (.istore 5, 2) := by decide +kernel
theorem dL_law_1603 : decode cL_law 1603 = .ok (.aload_n 2, 1) := by decide +kernel
theorem dL_law_1604 : decode cL_law 1604 = .ok (.aload_n 0, 1) := by decide +kernel
theorem dL_law_1605 : decode cL_law 1605 = .ok (.iload 4, 2) := by decide +kernel
theorem dL_law_1607 : decode cL_law 1607 = .ok (.iconst 1, 1) := by decide +kernel
theorem dL_law_1608 : decode cL_law 1608 = .ok (.iadd, 1) := by decide +kernel
theorem dL_law_1609 : decode cL_law 1609 = .ok (.iaload, 1) := by decide +kernel
theorem dL_law_1610 : decode cL_law 1610 = .ok (.aload_n 0, 1) := by decide +kernel
theorem dL_law_1611 : decode cL_law 1611 = .ok (.iload 4, 2) := by decide +kernel
theorem dL_law_1613 : decode cL_law 1613 = .ok (.iconst 2, 1) := by decide +kernel
theorem dL_law_1614 : decode cL_law 1614 = .ok (.iadd, 1) := by decide +kernel
theorem dL_law_1615 : decode cL_law 1615 = .ok (.iaload, 1) := by decide +kernel
theorem dL_law_1616 : decode cL_law 1616 = .ok (.aload_n 0, 1) := by decide +kernel
theorem dL_law_1617 : decode cL_law 1617 = .ok (.iload 4, 2) := by decide +kernel
theorem dL_law_1619 : decode cL_law 1619 = .ok (.iconst 3, 1) := by decide +kernel
theorem dL_law_1620 : decode cL_law 1620 = .ok (.iadd, 1) := by decide +kernel
theorem dL_law_1621 : decode cL_law 1621 = .ok (.iaload, 1) := by decide +kernel
theorem dL_law_1622 : decode cL_law 1622 = .ok (.invokevirtual 169, 3) := by decide +kernel
theorem dL_law_1625 : decode cL_law 1625 = .ok (.istore 6, 2) := by decide +kernel
theorem dL_law_1627 : decode cL_law 1627 = .ok (.aload_n 2, 1) := by decide +kernel
theorem dL_law_1628 : decode cL_law 1628 = .ok (.invokevirtual 94, 3) := by decide +kernel
theorem dL_law_1631 : decode cL_law 1631 = .ok (.iload 5, 2) := by decide +kernel
theorem dL_law_1633 : decode cL_law 1633 = .ok (.if_icmp .eq 5, 3) := by decide +kernel
theorem dL_law_1636 : decode cL_law 1636 = .ok (.iconst 0, 1) := by decide +kernel
theorem dL_law_1637 : decode cL_law 1637 = .ok (.ireturn, 1) := by decide +kernel
theorem dL_law_1638 : decode cL_law 1638 = .ok (.iload 5, 2) := by decide +kernel
theorem dL_law_1640 : decode cL_law 1640 = .ok (.ifCond .ne 15, 3) := by decide +kernel
theorem dL_law_1643 : decode cL_law 1643 = .ok (.aload_n 3, 1) := by decide +kernel
theorem dL_law_1644 : decode cL_law 1644 = .ok (.iconst 0, 1) := by decide +kernel
theorem dL_law_1645 : decode cL_law 1645 = .ok (.laload, 1) := by decide +kernel
theorem dL_law_1646 : decode cL_law 1646 = .ok (.iload 6, 2) := by decide +kernel
theorem dL_law_1648 : decode cL_law 1648 = .ok (.i2l, 1) := by decide +kernel
theorem dL_law_1649 : decode cL_law 1649 = .ok (.lcmp, 1) := by decide +kernel
theorem dL_law_1650 : decode cL_law 1650 = .ok (.ifCond .eq 5, 3) := by decide +kernel
theorem dL_law_1653 : decode cL_law 1653 = .ok (.iconst 0, 1) := by decide +kernel
theorem dL_law_1654 : decode cL_law 1654 = .ok (.ireturn, 1) := by decide +kernel
theorem dL_law_1655 : decode cL_law 1655 = .ok (.goto 58, 3) := by decide +kernel
theorem dL_law_1658 : decode cL_law 1658 = .ok (.aload_n 1, 1) := by decide +kernel
theorem dL_law_1659 : decode cL_law 1659 = .ok (.invokevirtual 170, 3) := by decide +kernel
theorem dL_law_1662 : decode cL_law 1662 = .ok (.dstore 5, 2) := by decide +kernel
theorem dL_law_1664 : decode cL_law 1664 = .ok (.aload_n 2, 1) := by decide +kernel
theorem dL_law_1665 : decode cL_law 1665 = .ok (.invokevirtual 174, 3) := by decide +kernel
theorem dL_law_1668 : decode cL_law 1668 = .ok (.dstore 7, 2) := by decide +kernel
theorem dL_law_1670 : decode cL_law 1670 = .ok (.dload 5, 2) := by decide +kernel
theorem dL_law_1672 : decode cL_law 1672 = .ok (.dload 7, 2) := by decide +kernel
theorem dL_law_1674 : decode cL_law 1674 = .ok (.dcmp .l, 1) := by decide +kernel
theorem dL_law_1675 : decode cL_law 1675 = .ok (.ifCond .eq 21, 3) := by decide +kernel
theorem dL_law_1678 : decode cL_law 1678 = .ok (.dload 5, 2) := by decide +kernel
theorem dL_law_1680 : decode cL_law 1680 = .ok (.dload 5, 2) := by decide +kernel
theorem dL_law_1682 : decode cL_law 1682 = .ok (.dcmp .l, 1) := by decide +kernel
theorem dL_law_1683 : decode cL_law 1683 = .ok (.ifCond .eq 11, 3) := by decide +kernel
theorem dL_law_1686 : decode cL_law 1686 = .ok (.dload 7, 2) := by decide +kernel
theorem dL_law_1688 : decode cL_law 1688 = .ok (.dload 7, 2) := by decide +kernel
theorem dL_law_1690 : decode cL_law 1690 = .ok (.dcmp .l, 1) := by decide +kernel
theorem dL_law_1691 : decode cL_law 1691 = .ok (.ifCond .ne 5, 3) := by decide +kernel
theorem dL_law_1694 : decode cL_law 1694 = .ok (.iconst 0, 1) := by decide +kernel
theorem dL_law_1695 : decode cL_law 1695 = .ok (.ireturn, 1) := by decide +kernel
theorem dL_law_1696 : decode cL_law 1696 = .ok (.goto 17, 3) := by decide +kernel
theorem dL_law_1699 : decode cL_law 1699 = .ok (.aload_n 1, 1) := by decide +kernel
theorem dL_law_1700 : decode cL_law 1700 = .ok (.invokevirtual 175, 3) := by decide +kernel
theorem dL_law_1703 : decode cL_law 1703 = .ok (.aload_n 2, 1) := by decide +kernel
theorem dL_law_1704 : decode cL_law 1704 = .ok (.invokevirtual 179, 3) := by decide +kernel
theorem dL_law_1707 : decode cL_law 1707 = .ok (.lcmp, 1) := by decide +kernel
theorem dL_law_1708 : decode cL_law 1708 = .ok (.ifCond .eq 5, 3) := by decide +kernel
theorem dL_law_1711 : decode cL_law 1711 = .ok (.iconst 0, 1) := by decide +kernel
theorem dL_law_1712 : decode cL_law 1712 = .ok (.ireturn, 1) := by decide +kernel
theorem dL_law_1713 : decode cL_law 1713 = .ok (.iinc 4 6, 3) := by decide +kernel
theorem dL_law_1716 : decode cL_law 1716 = .ok (.goto (-1693), 3) := by decide +kernel
theorem dL_law_1719 : decode cL_law 1719 = .ok (.iconst 1, 1) := by decide +kernel
theorem dL_law_1720 : decode cL_law 1720 = .ok (.ireturn, 1) := by decide +kernel
abbrev vwCl : List vw_C := [(RX0, TX0, 3), (RX1, TX1, 2), (RX2, TX2, 6), (RX3, TX3, 3), (RX4, TX4, 5), (RX5, TX5, 6), (RX6, TX6, 4), (RX7, TX7, 11)]
end
section
/-! CORE. Both sides' cells as one memory of ints (roles 0..230), and a judgement J over it. -/
abbrev Mem : Type := Nat → Nat → Int32
abbrev LMem : Type := Nat → Int64
def mset (V : Mem) (k i : Nat) (x : Int32) : Mem := fun a b => if a = k ∧ b = i then x else V a b
def lset (L : LMem) (i : Nat) (x : Int64) : LMem := fun a => if a = i then x else L a
theorem mset_row {V : Mem} {k i j : Nat} {x : Int32} (h : j ≠ k) : mset V k i x j = V j := by
  funext b
  simp [mset, h]
theorem mset_at (V : Mem) (k i : Nat) (x : Int32) : mset V k i x k i = x := by simp [mset]
theorem mset_ne {V : Mem} {k i a b : Nat} {x : Int32} (h : ¬ (a = k ∧ b = i)) : mset V k i x a b = V a b := by simp only [mset, if_neg h]
theorem mset_upd (V : Mem) (k i : Nat) (x : Int32) : mset V k i x k = upd (V k) i x := by
  funext b
  simp [mset, upd]
/-- a role's kind -/
def kd (k : Nat) : Nat := if k < 217 then (if k % 31 = 0 then 0 else if k % 31 = 1 then 1 else if k % 31 = 2 then 2 else if k % 31 < 11 then 3 else if k % 31 < 19 then 4 else 5) else k - 211
/-- the global context: class ids, slots, the roles' addresses, the array classes, the heap at the law's entry -/
abbrev GC : Type := (Nat → ClassId) × (Nat → Nat → Nat) × (Nat → Nat) × (Nat → ClassId) × Heap
abbrev gD (g : GC) : va_G := (g.1, g.2.1)
abbrev ad (g : GC) : Nat → Nat := g.2.2.1
abbrev ca (g : GC) : Nat → ClassId := g.2.2.2.1
abbrev gH (g : GC) : Heap := g.2.2.2.2
def AA (g : GC) : Nat → Prop := fun q => (gH g).size ≤ q
def tysG (g : GC) : List (ClassId × FieldType) := [(ca g 0, .int), (ca g 1, .char), (ca g 2, .object RX2), (ca g 3, .object RX5), (ca g 4, .object RX4), (ca g 5, .long)]
def rfs (f : Nat → Nat) : (Nat → Int32) ⊕ (Nat → Int64) ⊕ (Nat → UInt32) ⊕ (Nat → UInt64) ⊕ (Nat → Option Nat) := .inr (.inr (.inr (.inr (fun i => some (f i)))))
def cellK (g : GC) (V : Mem) (L : LMem) (k : Nat) : Nat → va_E
  | 0 => .inr (4, [.ref (ad g (k + 1)), .ref (ad g (k + 2)), .int (V k 2), .int (V k 3), .int (V k 4)])
  | 1 => .inl (ca g 2, 8, rfs (fun i => ad g (k + 2 + i)))
  | 2 => .inl (ca g 3, 12, rfs (fun i => ad g (k + 17 + i)))
  | 3 => .inr (2, [.int (V k 0), .int (V k 1), .int (V k 2), .int (V k 3), .int (V k 4), .ref (ad g (k + 8))])
  | 4 => .inl (ca g 0, 17, .inl (V k))
  | 5 => .inr (5, [.int (V k 0), .int (V k 1), .int (V k 2), .int (V k 3), .int (V k 4), .int (V k 5)])
  | 6 => .inr (0, [.ref (ad g 218), .int (V k 1), .int (V k 2)])
  | 7 => .inl (ca g 4, 6, rfs (fun i => ad g (31 * (i + 1))))
  | 8 => .inr (1, [.ref (ad g 220), .int (V k 1)])
  | 9 => .inl (ca g 1, 60, .inl (V k))
  | 10 => .inr (3, [.ref (ad g 222), .int (V k 1), .int (V k 2)])
  | 11 => .inl (ca g 0, 4, .inl (V k))
  | 12 => .inr (6, [.ref (ad g 0), .ref (ad g 217), .ref (ad g 219), .ref (ad g 221)])
  | 13 => .inr (7, [.ref (ad g 225), .ref (ad g 226), .ref (ad g 227), .int (V k 3), .ref (ad g 228), .int (V k 5), .int (V k 6), .int (V k 7), .int (V k 8), .ref (ad g 229), .long (L 0)])
  | 14 => .inl (ca g 0, 251, .inl (V k))
  | 15 => .inl (ca g 0, 1506, .inl (V k))
  | 16 => .inl (ca g 0, 251, .inl (V k))
  | 17 => .inl (ca g 0, 60, .inl (V k))
  | 18 => .inl (ca g 0, 60, .inl (V k))
  | _ => .inl (ca g 5, 1, .inr (.inl (fun i => L (i + 1))))
def cellOf (g : GC) (V : Mem) (L : LMem) (k : Nat) : va_E := cellK g V L k (kd k)
def TW (g : GC) (V : Mem) (L : LMem) : va_W := (List.range 231).map (fun k => (ad g k, cellOf g V L k))
theorem TW_at {g : GC} {V : Mem} {L : LMem} {k : Nat} (h : k < 231) : (TW g V L)[k]? = some (ad g k, cellOf g V L k) := by
  unfold TW
  rw [List.getElem?_map, List.getElem?_range h]
  rfl
theorem TW_k {g : GC} {V : Mem} {L : LMem} {k : Nat} {q : Nat × va_E} (h : (TW g V L)[k]? = some q) : k < 231 ∧ q = (ad g k, cellOf g V L k) := by
  have hl : k < 231 := by
    have h1 := (List.getElem?_eq_some_iff.mp h).1
    simpa [TW] using h1
  rw [TW_at hl] at h
  exact ⟨hl, (Option.some.inj h).symm⟩
theorem TW_set {g : GC} {V V' : Mem} {L L' : LMem} {k : Nat} {e : va_E} (hk : k < 231) (he : cellOf g V' L' k = e) (ho : ∀ j, j < 231 → j ≠ k → cellOf g V' L' j = cellOf g V L j) : (TW g V L).set k (ad g k, e) = TW g V' L' := by
  apply List.ext_getElem?
  intro j
  by_cases hj : j = k
  · subst hj
    rw [List.getElem?_set_self (by simpa [TW] using hk), TW_at hk, he]
  · rw [List.getElem?_set_ne (Ne.symm hj)]
    by_cases hl : j < 231
    · rw [TW_at hl, TW_at hl, ho j hl hj]
    · rw [List.getElem?_eq_none (by simp [TW]; omega), List.getElem?_eq_none (by simp [TW]; omega)]
theorem cellK_row {g : GC} {V V' : Mem} {L : LMem} {k : Nat} (h : V' k = V k) (c : Nat) : cellK g V' L k c = cellK g V L k c := by
  unfold cellK
  rw [h]
theorem cellOf_row {g : GC} {V : Mem} {L : LMem} {k i j : Nat} {x : Int32} (h : j ≠ k) : cellOf g (mset V k i x) L j = cellOf g V L j := cellK_row (mset_row h) _
theorem kd_lt {k c : Nat} (h : kd k = c) (hc : c < 20) : k < 231 := by
  unfold kd at h
  split at h <;> omega
/-- addresses are apart and new -/
def DJ (g : GC) : Prop := (∀ i j, i < 231 → j < 231 → ad g i = ad g j → i = j) ∧ ∀ k, k < 231 → AA g (ad g k)
theorem DJ.d {g : GC} (h : DJ g) (V : Mem) (L : LMem) : va_D (AA g) (TW g V L) := by
  refine ⟨fun i j p q hi hj hpq => ?_, fun k q hk => ?_⟩
  · obtain ⟨a1, rfl⟩ := TW_k hi
    obtain ⟨a2, rfl⟩ := TW_k hj
    exact h.1 i j a1 a2 hpq
  · obtain ⟨a1, rfl⟩ := TW_k hk
    exact h.2 k a1
/-! what the tables and old cells say, carried -/
def NWs : List Cond := [.methodLinkNest RX4 23 yX2_init RX6, .methodLinkNest RX4 24 yX5_init RX6, .methodLinkNest RX6 25 yX1_init RX6, .methodLinkNest RX6 32 yX3_init RX6, .methodLinkNest RX2 25 yX6_presentWorth RX6, .methodLinkNest RX5 30 yX6_presentWorth RX6, .methodLinkNest RX2 58 yX6_thousandthsOf RX6, .fieldLinkNest RX3 44 RX6 "LEAST_OF_PART" "[I" RX6, .fieldLinkNest RX3 47 RX6 "MOST_OF_PART" "[I" RX6]
def xIA : String := "java/lang/IllegalArgumentException"
def xIS : String := "java/lang/IllegalStateException"
def xIO : String := "java/lang/IndexOutOfBoundsException"
def CSs : List (String × String) := [(xIA, xIA), (xIS, xIS), (xIO, xIO)]
def NCs : List (String × String) := [(xIS, xIA), (xIO, xIA), (xIA, xIS), (xIO, xIS), (xIA, xIO), (xIS, xIO)]
def DCs : List MethodName := [⟨"java/lang/RuntimeException", "<init>", "()V"⟩, ⟨"java/lang/RuntimeException", "<init>", "(Ljava/lang/String;)V"⟩, ⟨"java/lang/Exception", "<init>", "()V"⟩, ⟨"java/lang/Exception", "<init>", "(Ljava/lang/String;)V"⟩, ⟨"java/lang/Throwable", "<init>", "()V"⟩, ⟨"java/lang/Throwable", "<init>", "(Ljava/lang/String;)V"⟩]
def STs : List (Nat × String) := [(306, "the argument or the buffer does not fit"), (297, "there is no such lease"), (302, "there is no such sublease"), (311, "the register does not allow this now")]
def lopN : Nat → Int32 := fun j => if j = 1 then 1 else 0
def mopN : Nat → Int32 := fun j => if j = 0 then 100000 else if j = 1 then 60 else if j = 2 then 2000 else 100000
/-- a static int array of LeaseBook -/
def SAr (g : GC) (n : String) (f : Nat → Int32) (U : State) : Prop := ∃ t : Nat, va_Z RX6 n "[I" (.ref t) (AA g) U (gH g) ∧ va_T .int t 4 (fun j => .int (f j)) (AA g) U (gH g)
def XT (U : State) : Prop := (∀ w ∈ NWs, va_Nw w U) ∧ (∀ q ∈ CSs, va_Nw (.castable q.1 q.2) U) ∧ (∀ q ∈ NCs, va_Nc q.1 q.2 U) ∧ (∀ q ∈ DCs, va_Nw (.declares q) U) ∧ ∀ q ∈ STs, ∃ a : Nat, vk_R RX6 q.1 q.2 a U
def XH (g : GC) (U : State) : Prop := vx_Zq Bundle.tN "UNASSIGNED_STACK" Bundle.steD (AA g) U (gH g) ∧ vx_Zq Bundle.tN "SUPPRESSED_SENTINEL" Bundle.listD (AA g) U (gH g) ∧ SAr g "LEAST_OF_PART" lopN U ∧ SAr g "MOST_OF_PART" mopN U
theorem XT.warm {s U : State} (hW : s.WarmedH U.vm) (h : XT s) : XT U := by
  obtain ⟨h1, h2, h3, h4, h5⟩ := h
  refine ⟨fun w hw => ?_, fun q hq => va_Nw.warmC hW (h2 q hq), fun q hq => va_Nc.moved hW.alike (h3 q hq), fun q hq => va_Nw.warmD hW (h4 q hq), fun q hq => ?_⟩
  · have h0 := h1 w hw
    simp only [NWs, List.mem_cons, List.not_mem_nil, or_false] at hw
    rcases hw with rfl | rfl | rfl | rfl | rfl | rfl | rfl | rfl | rfl <;> first | exact va_Nw.warmM hW h0 | exact va_Nw.warmF hW h0
  · obtain ⟨a, ha⟩ := h5 q hq
    exact ⟨a, vk_R.warm hW ha⟩
theorem XT.same {s U : State} (hv : s.vm = U.vm) (h : XT s) : XT U := by
  obtain ⟨h1, h2, h3, h4, h5⟩ := h
  have hal : s.vm.Alike U.vm := by rw [hv]; exact Vm.Alike.refl U.vm
  refine ⟨fun w hw => ?_, fun q hq => va_Nw.same rfl hv (h2 q hq), fun q hq => va_Nc.moved hal (h3 q hq), fun q hq => va_Nw.same rfl hv (h4 q hq), fun q hq => ?_⟩
  · have h0 := h1 w hw
    simp only [NWs, List.mem_cons, List.not_mem_nil, or_false] at hw
    rcases hw with rfl | rfl | rfl | rfl | rfl | rfl | rfl | rfl | rfl <;> exact va_Nw.same rfl hv h0
  · obtain ⟨a, ha⟩ := h5 q hq
    exact ⟨a, vk_R.same hv.symm ha⟩
theorem SAr.moved {g : GC} {n : String} {f : Nat → Int32} {s U : State} (hv : s.vm.Alike U.vm) (h : SAr g n f s) : SAr g n f U := by
  obtain ⟨t, h1, h2⟩ := h
  exact ⟨t, va_Z.moved hv h1, va_T.moved hv h2⟩
theorem XH.moved {g : GC} {s U : State} (hv : s.vm.Alike U.vm) (h : XH g s) : XH g U := ⟨vx_Zq.moved hv h.1, vx_Zq.moved hv h.2.1, h.2.2.1.moved hv, h.2.2.2.moved hv⟩
/-- the old cells are as they were at the law's entry -/
def OldH (g : GC) (H : Heap) : Prop := (gH g).size ≤ H.size ∧ ∀ q : Nat, q < (gH g).size → H[q]? = (gH g)[q]?
def CW (g : GC) (U : State) : Prop := va_K (gD g) vwCl (tysG g) U ∧ DJ g ∧ OldH g U.heap ∧ XT U ∧ XH g U
def PW (g : GC) (V : Mem) (L : LMem) (U : State) : Prop := va_P (gD g) vwCl (TW g V L) U.heap
def AtW (g : GC) (V : Mem) (L : LMem) (U : State) : Prop := PW g V L U ∧ CW g U
theorem OldH.step {g : GC} {H0 H : Heap} {locs : List Loc} (h : OldH g H0) (hS : va_S (AA g) H0 H locs) : OldH g H := by
  refine ⟨Nat.le_trans h.1 hS.1, fun q hq => ?_⟩
  rw [hS.2.1 q (Nat.lt_of_lt_of_le hq h.1) (Nat.not_le.mpr hq)]
  exact h.2 q hq
theorem CW.warm {g : GC} {s U : State} {H : Heap} {locs : List Loc} (h : CW g s) (hU : U.heap = H) (hW : s.WarmedH U.vm) (hS : va_S (AA g) s.heap H locs) : CW g U :=
  ⟨va_K.moved hW.alike h.1, h.2.1, by rw [hU]; exact h.2.2.1.step hS, h.2.2.2.1.warm hW, h.2.2.2.2.moved hW.alike⟩
theorem CW.calling {g : GC} {U : State} (f : JFrame) (mk : MethodId) (a : Array Value) (h : CW g U) : CW g (U.calling f mk a) :=
  ⟨va_K.moved (u := U) (U := U.calling f mk a) (Vm.Alike.refl U.vm) h.1, h.2.1, h.2.2.1, XT.same (s := U) (U := U.calling f mk a) rfl h.2.2.2.1, XH.moved (s := U) (U := U.calling f mk a) (Vm.Alike.refl U.vm) h.2.2.2.2⟩
theorem AtW.blind {g : GC} {V : Mem} {L : LMem} {As : List Value} : FrameBlind (va_Pc As (AtW g V L)) := fun a U f mk h => ⟨h.1, h.2.1, h.2.2.calling f mk a⟩
/-! words -/
def TG : List Cond := lw_tbl.filter goodWord
theorem TG_in {w : Cond} (h : w ∈ lw_tbl) (hg : goodWord w = true) : w ∈ TG := List.mem_filter.mpr ⟨h, hg⟩
theorem TG_ix {w : Cond} (i : Nat) (h : lw_tbl[i]? = some w) (hg : goodWord w = true) : w ∈ TG := TG_in (List.mem_of_getElem? h) hg
theorem TG_sub {ws : List Cond} (h : ∀ w ∈ ws, w ∈ TG) : GoodIn TG ws := fun w hw => ⟨h w hw, good_of_word (List.mem_filter.mp (h w hw)).2⟩
abbrev WS (y : MethodName) (b : ByteArray) (n : Nat) (ret : Option FieldType) : List Cond := Cond.code y b n ret :: TG
theorem TG_ws {y : MethodName} {b : ByteArray} {n : Nat} {ret : Option FieldType} (h : Cond.code y b n ret ∈ TG) : ∀ w ∈ WS y b n ret, w ∈ TG := fun w hw => (List.mem_cons.mp hw).elim (fun e => by rw [e]; exact h) id
theorem TG_c {w : Cond} {ws : List Cond} (h : w ∈ TG) (hs : ∀ w ∈ ws, w ∈ TG) : ∀ x ∈ w :: ws, x ∈ TG := fun x hx => (List.mem_cons.mp hx).elim (fun e => by rw [e]; exact h) (hs x)
/-! locals: a list, by place; none where nothing is known -/
def en : Nat → List (Option Value) → List (Nat × Value)
  | _, [] => []
  | i, none :: t => en (i + 1) t
  | i, some v :: t => (i, v) :: en (i + 1) t
theorem en_iff : ∀ (lv : List (Option Value)) (i : Nat) (q : Nat × Value), q ∈ en i lv ↔ ∃ k, q.1 = i + k ∧ lv[k]? = some (some q.2)
  | [], i, q => by simp [en]
  | none :: t, i, q => by
    rw [en, en_iff t (i + 1) q]
    constructor
    · rintro ⟨k, h1, h2⟩
      exact ⟨k + 1, by omega, by simpa using h2⟩
    · rintro ⟨k, h1, h2⟩
      cases k with
      | zero => simp at h2
      | succ k => exact ⟨k, by omega, by simpa using h2⟩
  | some v :: t, i, q => by
    rw [en, List.mem_cons, en_iff t (i + 1) q]
    constructor
    · rintro (rfl | ⟨k, h1, h2⟩)
      · exact ⟨0, by simp, by simp⟩
      · exact ⟨k + 1, by omega, by simpa using h2⟩
    · rintro ⟨k, h1, h2⟩
      cases k with
      | zero =>
        left
        obtain ⟨a, b⟩ := q
        simp at h1 h2
        rw [h1, h2]
      | succ k => exact Or.inr ⟨k, by omega, by simpa using h2⟩
def lvO (ls : Array Slot) (nL : Nat) (lv : List (Option Value)) : Prop := lv_has ls nL (en 0 lv)
theorem lvO.at {ls : Array Slot} {nL : Nat} {lv : List (Option Value)} (h : lvO ls nL lv) {i : Nat} {v : Value} (hi : lv[i]? = some (some v)) : ls[i]? = some (.val v) := h.2.2 (i, v) ((en_iff lv 0 (i, v)).mpr ⟨i, by simp, hi⟩)
theorem lvO.le {ls : Array Slot} {nL : Nat} {lv lv' : List (Option Value)} (h : lvO ls nL lv) (hle : ∀ (i : Nat) (v : Value), lv'[i]? = some (some v) → lv[i]? = some (some v)) : lvO ls nL lv' := by
  refine ⟨h.1, h.2.1, fun q hq => ?_⟩
  obtain ⟨k, h1, h2⟩ := (en_iff lv' 0 q).mp hq
  have h3 := h.at (hle k q.2 h2)
  rw [h1, Nat.zero_add]
  exact h3
/-- the place ahead of i holds no long or double -/
def cOk : List (Option Value) → Nat → Bool
  | _, 0 => true
  | some v :: _, 1 => v.category != 2
  | none :: _, 1 => true
  | [], _ + 1 => true
  | _ :: t, i + 2 => cOk t (i + 1)
theorem cOk_at : ∀ (lv : List (Option Value)) (j : Nat) (w : Value), cOk lv (j + 1) = true → lv[j]? = some (some w) → ¬ w.category = 2
  | [], j, w, _, h => by simp at h
  | a :: t, 0, w, hc, h => by
    simp at h
    subst h
    simpa [cOk] using hc
  | a :: t, j + 1, w, hc, h => cOk_at t j w (by simpa [cOk] using hc) (by simpa using h)
theorem lvO.put1 {ls : Array Slot} {nL : Nat} {lv : List (Option Value)} {i : Nat} {v : Value} (hc : cOk lv i = true) (h : lv_has ls nL ((i, v) :: (en 0 lv).filter (fun q => !(q.1 == i) && !(q.1 + 1 == i && q.2.category == 2)))) : lvO ls nL (lv.set i (some v)) := by
  refine ⟨h.1, h.2.1, fun q hq => ?_⟩
  obtain ⟨k, h1, h2⟩ := (en_iff _ 0 q).mp hq
  obtain ⟨a, b⟩ := q
  simp only [Nat.zero_add] at h1
  subst h1
  refine h.2.2 (a, b) ?_
  by_cases hk : a = i
  · subst hk
    have hl : a < lv.length := by
      have := (List.getElem?_eq_some_iff.mp h2).1
      simpa using this
    rw [List.getElem?_set_self hl] at h2
    cases h2
    exact List.mem_cons_self
  · rw [List.getElem?_set_ne (Ne.symm hk)] at h2
    refine List.mem_cons_of_mem _ (List.mem_filter.mpr ⟨(en_iff lv 0 (a, b)).mpr ⟨a, by simp, h2⟩, ?_⟩)
    simp only [Bool.and_eq_true, Bool.not_eq_true', beq_eq_false_iff_ne, Bool.and_eq_false_iff]
    refine ⟨hk, ?_⟩
    by_cases hk2 : a + 1 = i
    · right
      subst hk2
      exact cOk_at lv a b hc h2
    · exact Or.inl hk2
theorem lvO.put2 {ls : Array Slot} {nL : Nat} {lv : List (Option Value)} {i : Nat} {v : Value} (hc : cOk lv i = true) (h : lv_has ls nL ((i, v) :: (en 0 lv).filter (fun q => !(q.1 == i) && (!(q.1 == i + 1) && !(q.1 + 1 == i && q.2.category == 2))))) : lvO ls nL ((lv.set (i + 1) none).set i (some v)) := by
  refine ⟨h.1, h.2.1, fun q hq => ?_⟩
  obtain ⟨k, h1, h2⟩ := (en_iff _ 0 q).mp hq
  obtain ⟨a, b⟩ := q
  simp only [Nat.zero_add] at h1
  subst h1
  refine h.2.2 (a, b) ?_
  by_cases hk : a = i
  · subst hk
    have hl : a < (lv.set (a + 1) none).length := by
      have := (List.getElem?_eq_some_iff.mp h2).1
      simpa using this
    rw [List.getElem?_set_self hl] at h2
    cases h2
    exact List.mem_cons_self
  · rw [List.getElem?_set_ne (Ne.symm hk)] at h2
    by_cases hk1 : a = i + 1
    · subst hk1
      by_cases hl : i + 1 < lv.length
      · rw [List.getElem?_set_self hl] at h2
        cases h2
      · rw [List.getElem?_eq_none (by simp; omega)] at h2
        cases h2
    · rw [List.getElem?_set_ne (Ne.symm hk1)] at h2
      refine List.mem_cons_of_mem _ (List.mem_filter.mpr ⟨(en_iff lv 0 (a, b)).mpr ⟨a, by simp, h2⟩, ?_⟩)
      simp only [Bool.and_eq_true, Bool.not_eq_true', beq_eq_false_iff_ne, Bool.and_eq_false_iff]
      refine ⟨hk, hk1, ?_⟩
      by_cases hk2 : a + 1 = i
      · right
        subst hk2
        exact cOk_at lv a b hc h2
      · exact Or.inl hk2
/-! the judgement -/
def HW (g : GC) (s : State) (V : Mem) (L : LMem) (H : Heap) (locs : List Loc) : Prop := va_P (gD g) vwCl (TW g V L) H ∧ va_S (AA g) s.heap H locs
def J (p : Program) (l : Launch) (e : Env) (R : Room) (s : State) (m : MethodId) (args : Array Value) (below : List Frame) (meth : Method) (c : Code) (nL : Nat) (g : GC) (cells slots : Nat) (Q : State → Prop) (V : Mem) (L : LMem) (pc : Nat) (lv : List (Option Value)) (st : List Value) : Prop :=
  ∀ (H : Heap) (locs : List Loc) (ls : Array Slot), HW g s V L H locs → lvO ls nL lv → W p l e R s m args below meth c H locs cells slots Q (F0 m pc ls st)
def Cx (p : Program) (s : State) (args : Array Value) (m : MethodId) (meth : Method) (c : Code) (cc : ByteArray) (nL : Nat) (own : String) (ret : Option FieldType) (g : GC) : Prop :=
  p.tables.exec = Jvm.exec ∧ c.code = cc ∧ c.maxLocals = nL ∧ s.vm.findClass own = some m.cls ∧ (∀ w ∈ TG, w.before args s = true) ∧ meth.locks = false ∧ meth.sig.returnType = ret ∧ CW g s
abbrev RM (d : Nat) : Room := { frames := d, cells := 0, slots := 0, locals := 30 * d }
/-- a method's end: it answers v, the world is B, old cells stay -/
def QG (v : Option Value) (B : State → Prop) (A : Nat → Prop) : Array Value → State → Outcome → State → Prop := fun _ st oc t => (oc = .returned v ∧ B t) ∧ va_F A st t
/-- a method's contract -/
def MC (l : Launch) (y : MethodName) (b : ByteArray) (n : Nat) (ret : Option FieldType) (d : Nat) (g : GC) (V : Mem) (L : LMem) (As : List Value) (v : Option Value) (V' : Mem) (L' : LMem) : Prop :=
  Met l y (WS y b n ret) (RM d) (va_Pc As (AtW g V L)) (QG v (PW g V' L') (AA g)) 0 0 (AA g)
theorem MC.of {l : Launch} {y : MethodName} {b : ByteArray} {n : Nat} {ret : Option FieldType} {d : Nat} {g : GC} {V : Mem} {L : LMem} {As : List Value} {v : Option Value} {V' : Mem} {L' : LMem} (lv0 : List (Option Value)) (hy : plainName y.cls = true) (h0 : en 0 lv0 = lv_args 0 As) (hn : (lg_sl As).length ≤ n)
    (body : ∀ (p : Program) (e : Env) (s : State) (m : MethodId) (args : Array Value) (below : List Frame) (meth : Method) (c : Code), Cx p s args m meth c b n y.cls ret g → J p l e (RM d) s m args below meth c n g 0 0 (MQ below (QG v (PW g V' L') (AA g)) args s 0 0 (AA g)) V L 0 lv0 []) : MC l y b n ret d g V L As v V' L' := by
  refine Met.ofW (cc := b) (maxL := n) (ret := ret) hy rfl ?_
  intro p e s m args below meth c s₁ B hml hv
  obtain ⟨rfl, hP, hC⟩ := hv
  have hts0 := atoms_spec (ws := WS y b n ret) B.pre
  have hl := lv_entry As (n := n) hn
  rw [lg_entry_eq]
  refine body p e s m As.toArray below meth c ⟨B.exec, B.bytes, hml, findClass_of_methodNamed B.named, fun w hw => hts0 w (List.mem_cons_of_mem _ hw), B.notSynchronized, B.returns, hC⟩ s.heap [] _ ⟨hP, va_S.rf⟩ ?_
  show lv_has _ n (en 0 lv0)
  rw [h0]
  exact hl
section CORE
variable {p : Program} {l : Launch} {e : Env} {R : Room} {s : State} {m : MethodId} {args : Array Value} {below : List Frame} {meth : Method} {c : Code} {nL : Nat} {g : GC} {cells slots : Nat} {Q : State → Prop} {V : Mem} {L : LMem} {pc : Nat} {lv : List (Option Value)} {st : List Value} {cc : ByteArray} {own : String} {ret : Option FieldType}
theorem j_le {lv' : List (Option Value)} (hle : ∀ (i : Nat) (v : Value), lv'[i]? = some (some v) → lv[i]? = some (some v)) (k : J p l e R s m args below meth c nL g cells slots Q V L pc lv' st) : J p l e R s m args below meth c nL g cells slots Q V L pc lv st := fun H locs ls hw hl => k H locs ls hw (hl.le hle)
/-- the same memory, otherwise written -/
theorem j_mem {V' : Mem} {L' : LMem} (hV : V' = V) (hL : L' = L) (k : J p l e R s m args below meth c nL g cells slots Q V' L' pc lv st) : J p l e R s m args below meth c nL g cells slots Q V L pc lv st := by subst hV; subst hL; exact k
theorem j_iret (C : Cx p s args m meth c cc nL own (some .int) g) {v : Option Value} {V' : Mem} {L' : LMem} {x : Int32} (hd : decode cc pc = .ok (.ireturn, 1)) (hv : v = some (.int x)) (hV : V = V') (hL : L = L') : J p l e R s m args below meth c nL g cells slots (MQ below (QG v (PW g V' L') (AA g)) args s cells slots (AA g)) V L pc lv [.int x] := by
  intro H locs ls hw hl
  subst hv; subst hV; subst hL
  exact W.iret C.1 C.2.1 C.2.2.2.2.2.2.1 (fun t ht hW => ⟨⟨rfl, by show va_P _ _ _ t.heap; rw [ht]; exact hw.1⟩, hw.2.F ht⟩) hw.2.2.2 hd C.2.2.2.2.2.1
theorem j_zret (C : Cx p s args m meth c cc nL own (some .boolean) g) {v : Option Value} {V' : Mem} {L' : LMem} {x : Int32} (hd : decode cc pc = .ok (.ireturn, 1)) (hx : narrow .boolean (.int x) = .int x) (hv : v = some (.int x)) (hV : V = V') (hL : L = L') : J p l e R s m args below meth c nL g cells slots (MQ below (QG v (PW g V' L') (AA g)) args s cells slots (AA g)) V L pc lv [.int x] := by
  intro H locs ls hw hl
  subst hv; subst hV; subst hL
  exact W.zret C.1 C.2.1 C.2.2.2.2.2.2.1 hx (fun t ht hW => ⟨⟨rfl, by show va_P _ _ _ t.heap; rw [ht]; exact hw.1⟩, hw.2.F ht⟩) hw.2.2.2 hd C.2.2.2.2.2.1
theorem j_lret (C : Cx p s args m meth c cc nL own (some .long) g) {v : Option Value} {V' : Mem} {L' : LMem} {x : Int64} (hd : decode cc pc = .ok (.lreturn, 1)) (hv : v = some (.long x)) (hV : V = V') (hL : L = L') : J p l e R s m args below meth c nL g cells slots (MQ below (QG v (PW g V' L') (AA g)) args s cells slots (AA g)) V L pc lv [.long x] := by
  intro H locs ls hw hl
  subst hv; subst hV; subst hL
  exact W.lret C.1 C.2.1 C.2.2.2.2.2.2.1 (fun t ht hW => ⟨⟨rfl, by show va_P _ _ _ t.heap; rw [ht]; exact hw.1⟩, hw.2.F ht⟩) hw.2.2.2 hd C.2.2.2.2.2.1
theorem j_dret (C : Cx p s args m meth c cc nL own (some .double) g) {v : Option Value} {V' : Mem} {L' : LMem} {x : UInt64} (hd : decode cc pc = .ok (.dreturn, 1)) (hv : v = some (.double x)) (hV : V = V') (hL : L = L') : J p l e R s m args below meth c nL g cells slots (MQ below (QG v (PW g V' L') (AA g)) args s cells slots (AA g)) V L pc lv [.double x] := by
  intro H locs ls hw hl
  subst hv; subst hV; subst hL
  exact W.dret C.1 C.2.1 C.2.2.2.2.2.2.1 (fun t ht hW => ⟨⟨rfl, by show va_P _ _ _ t.heap; rw [ht]; exact hw.1⟩, hw.2.F ht⟩) hw.2.2.2 hd C.2.2.2.2.2.1
theorem j_vret (C : Cx p s args m meth c cc nL own none g) {v : Option Value} {V' : Mem} {L' : LMem} (hd : decode cc pc = .ok (.return_, 1)) (hv : v = none) (hV : V = V') (hL : L = L') : J p l e R s m args below meth c nL g cells slots (MQ below (QG v (PW g V' L') (AA g)) args s cells slots (AA g)) V L pc lv [] := by
  intro H locs ls hw hl
  subst hv; subst hV; subst hL
  exact W.vret C.1 C.2.1 C.2.2.2.2.2.2.1 (fun t ht hW => ⟨⟨rfl, by show va_P _ _ _ t.heap; rw [ht]; exact hw.1⟩, hw.2.F ht⟩) hw.2.2.2 hd C.2.2.2.2.2.1
end CORE
end
section
/-! RULES: one an instruction, over J (laid by wip/whole/rules.py) -/
section RULES
variable {p : Program} {l : Launch} {e : Env} {R : Room} {s : State} {m : MethodId} {args : Array Value} {below : List Frame} {meth : Method} {c : Code} {nL : Nat} {g : GC} {cells slots : Nat} {Q : State → Prop} {V : Mem} {L : LMem} {pc : Nat} {lv : List (Option Value)} {st : List Value} {cc : ByteArray} {own : String} {ret : Option FieldType}
theorem j_iconst (C : Cx p s args m meth c cc nL own ret g) {n : Int} {v : Int32} (hd : decode cc pc = .ok (.iconst n, 1)) (hv : Int32.ofInt n = v) (k : J p l e R s m args below meth c nL g cells slots Q V L (pc + 1) lv (.int v :: st)) : J p l e R s m args below meth c nL g cells slots Q V L pc lv st := fun H locs ls hw hl => lv_iconst C.1 C.2.1 hd hv (k H locs ls hw hl)
theorem j_bipush (C : Cx p s args m meth c cc nL own ret g) {n : Int} {v : Int32} (hd : decode cc pc = .ok (.bipush n, 2)) (hv : (Int8.ofInt n).toInt32 = v) (k : J p l e R s m args below meth c nL g cells slots Q V L (pc + 2) lv (.int v :: st)) : J p l e R s m args below meth c nL g cells slots Q V L pc lv st := fun H locs ls hw hl => lv_bipush C.1 C.2.1 hd hv (k H locs ls hw hl)
theorem j_sipush (C : Cx p s args m meth c cc nL own ret g) {n : Int} {v : Int32} (hd : decode cc pc = .ok (.sipush n, 3)) (hv : (Int16.ofInt n).toInt32 = v) (k : J p l e R s m args below meth c nL g cells slots Q V L (pc + 3) lv (.int v :: st)) : J p l e R s m args below meth c nL g cells slots Q V L pc lv st := fun H locs ls hw hl => lv_sipush C.1 C.2.1 hd hv (k H locs ls hw hl)
theorem j_lconst (C : Cx p s args m meth c cc nL own ret g) {n : Fin 2} {v : Int64} (hd : decode cc pc = .ok (.lconst n, 1)) (hv : Int64.ofNat (n : Nat) = v) (k : J p l e R s m args below meth c nL g cells slots Q V L (pc + 1) lv (.long v :: st)) : J p l e R s m args below meth c nL g cells slots Q V L pc lv st := fun H locs ls hw hl => lv_lconst C.1 C.2.1 hd hv (k H locs ls hw hl)
theorem j_dconst0 (C : Cx p s args m meth c cc nL own ret g) (hd : decode cc pc = .ok (.dconst 0, 1)) (k : J p l e R s m args below meth c nL g cells slots Q V L (pc + 1) lv (.double FP.dconst0 :: st)) : J p l e R s m args below meth c nL g cells slots Q V L pc lv st := fun H locs ls hw hl => lv_dconst0 C.1 C.2.1 hd (k H locs ls hw hl)
theorem j_dconst1 (C : Cx p s args m meth c cc nL own ret g) (hd : decode cc pc = .ok (.dconst 1, 1)) (k : J p l e R s m args below meth c nL g cells slots Q V L (pc + 1) lv (.double FP.dconst1 :: st)) : J p l e R s m args below meth c nL g cells slots Q V L pc lv st := fun H locs ls hw hl => lv_dconst1 C.1 C.2.1 hd (k H locs ls hw hl)
theorem j_null (C : Cx p s args m meth c cc nL own ret g) (hd : decode cc pc = .ok (.aconst_null, 1)) (k : J p l e R s m args below meth c nL g cells slots Q V L (pc + 1) lv (.null :: st)) : J p l e R s m args below meth c nL g cells slots Q V L pc lv st := fun H locs ls hw hl => lv_null C.1 C.2.1 hd (k H locs ls hw hl)
theorem j_ldc (C : Cx p s args m meth c cc nL own ret g) {v : Int32} {i : Nat} (hw0 : Cond.constant own i v ∈ TG) (hd : decode cc pc = .ok (.ldc i, 2)) (k : J p l e R s m args below meth c nL g cells slots Q V L (pc + 2) lv (.int v :: st)) : J p l e R s m args below meth c nL g cells slots Q V L pc lv st := fun H locs ls hw hl => lv_ldc C.1 C.2.1 C.2.2.2.1 (C.2.2.2.2.1 _ hw0) hd (k H locs ls hw hl)
theorem j_ldcw (C : Cx p s args m meth c cc nL own ret g) {v : Int32} {i : Nat} (hw0 : Cond.constant own i v ∈ TG) (hd : decode cc pc = .ok (.ldc_w i, 3)) (k : J p l e R s m args below meth c nL g cells slots Q V L (pc + 3) lv (.int v :: st)) : J p l e R s m args below meth c nL g cells slots Q V L pc lv st := fun H locs ls hw hl => lv_ldcw C.1 C.2.1 C.2.2.2.1 (C.2.2.2.2.1 _ hw0) hd (k H locs ls hw hl)
theorem j_ldc2 (C : Cx p s args m meth c cc nL own ret g) {v : Int64} {i : Nat} (hw0 : Cond.constantLong own i v ∈ TG) (hd : decode cc pc = .ok (.ldc2_w i, 3)) (k : J p l e R s m args below meth c nL g cells slots Q V L (pc + 3) lv (.long v :: st)) : J p l e R s m args below meth c nL g cells slots Q V L pc lv st := fun H locs ls hw hl => lv_ldc2 C.1 C.2.1 C.2.2.2.1 (C.2.2.2.2.1 _ hw0) hd (k H locs ls hw hl)
theorem j_ldc2d (C : Cx p s args m meth c cc nL own ret g) {v : UInt64} {i : Nat} (hw0 : Cond.constantDouble own i v ∈ TG) (hd : decode cc pc = .ok (.ldc2_w i, 3)) (k : J p l e R s m args below meth c nL g cells slots Q V L (pc + 3) lv (.double v :: st)) : J p l e R s m args below meth c nL g cells slots Q V L pc lv st := fun H locs ls hw hl => lv_ldc2d C.1 C.2.1 C.2.2.2.1 (C.2.2.2.2.1 _ hw0) hd (k H locs ls hw hl)
theorem j_iload_n (C : Cx p s args m meth c cc nL own ret g) {k0 : Fin 4} {i : Nat} {x : Int32} (hd : decode cc pc = .ok (.iload_n k0, 1)) (hi : (k0 : Nat) = i) (hx : lv[i]? = some (some (.int x))) (k : J p l e R s m args below meth c nL g cells slots Q V L (pc + 1) lv (.int x :: st)) : J p l e R s m args below meth c nL g cells slots Q V L pc lv st := fun H locs ls hw hl => lv_iload_n C.1 C.2.1 hd hi (hl.at hx) (k H locs ls hw hl)
theorem j_iload (C : Cx p s args m meth c cc nL own ret g) {i : Nat} {x : Int32} (hd : decode cc pc = .ok (.iload i, 2)) (hx : lv[i]? = some (some (.int x))) (k : J p l e R s m args below meth c nL g cells slots Q V L (pc + 2) lv (.int x :: st)) : J p l e R s m args below meth c nL g cells slots Q V L pc lv st := fun H locs ls hw hl => lv_iload C.1 C.2.1 hd (hl.at hx) (k H locs ls hw hl)
theorem j_lload_n (C : Cx p s args m meth c cc nL own ret g) {k0 : Fin 4} {i : Nat} {x : Int64} (hd : decode cc pc = .ok (.lload_n k0, 1)) (hi : (k0 : Nat) = i) (hx : lv[i]? = some (some (.long x))) (k : J p l e R s m args below meth c nL g cells slots Q V L (pc + 1) lv (.long x :: st)) : J p l e R s m args below meth c nL g cells slots Q V L pc lv st := fun H locs ls hw hl => lv_lload_n C.1 C.2.1 hd hi (hl.at hx) (k H locs ls hw hl)
theorem j_lload (C : Cx p s args m meth c cc nL own ret g) {i : Nat} {x : Int64} (hd : decode cc pc = .ok (.lload i, 2)) (hx : lv[i]? = some (some (.long x))) (k : J p l e R s m args below meth c nL g cells slots Q V L (pc + 2) lv (.long x :: st)) : J p l e R s m args below meth c nL g cells slots Q V L pc lv st := fun H locs ls hw hl => lv_lload C.1 C.2.1 hd (hl.at hx) (k H locs ls hw hl)
theorem j_dload_n (C : Cx p s args m meth c cc nL own ret g) {k0 : Fin 4} {i : Nat} {x : UInt64} (hd : decode cc pc = .ok (.dload_n k0, 1)) (hi : (k0 : Nat) = i) (hx : lv[i]? = some (some (.double x))) (k : J p l e R s m args below meth c nL g cells slots Q V L (pc + 1) lv (.double x :: st)) : J p l e R s m args below meth c nL g cells slots Q V L pc lv st := fun H locs ls hw hl => lv_dload_n C.1 C.2.1 hd hi (hl.at hx) (k H locs ls hw hl)
theorem j_dload (C : Cx p s args m meth c cc nL own ret g) {i : Nat} {x : UInt64} (hd : decode cc pc = .ok (.dload i, 2)) (hx : lv[i]? = some (some (.double x))) (k : J p l e R s m args below meth c nL g cells slots Q V L (pc + 2) lv (.double x :: st)) : J p l e R s m args below meth c nL g cells slots Q V L pc lv st := fun H locs ls hw hl => lv_dload C.1 C.2.1 hd (hl.at hx) (k H locs ls hw hl)
theorem j_aload_n (C : Cx p s args m meth c cc nL own ret g) {k0 : Fin 4} {i : Nat} {x : Nat} (hd : decode cc pc = .ok (.aload_n k0, 1)) (hi : (k0 : Nat) = i) (hx : lv[i]? = some (some (.ref x))) (k : J p l e R s m args below meth c nL g cells slots Q V L (pc + 1) lv (.ref x :: st)) : J p l e R s m args below meth c nL g cells slots Q V L pc lv st := fun H locs ls hw hl => lv_aload_n C.1 C.2.1 hd hi (hl.at hx) (k H locs ls hw hl)
theorem j_aload (C : Cx p s args m meth c cc nL own ret g) {i : Nat} {x : Nat} (hd : decode cc pc = .ok (.aload i, 2)) (hx : lv[i]? = some (some (.ref x))) (k : J p l e R s m args below meth c nL g cells slots Q V L (pc + 2) lv (.ref x :: st)) : J p l e R s m args below meth c nL g cells slots Q V L pc lv st := fun H locs ls hw hl => lv_aload C.1 C.2.1 hd (hl.at hx) (k H locs ls hw hl)
theorem j_aload_nN (C : Cx p s args m meth c cc nL own ret g) {k0 : Fin 4} {i : Nat} (hd : decode cc pc = .ok (.aload_n k0, 1)) (hi : (k0 : Nat) = i) (hx : lv[i]? = some (some .null)) (k : J p l e R s m args below meth c nL g cells slots Q V L (pc + 1) lv (.null :: st)) : J p l e R s m args below meth c nL g cells slots Q V L pc lv st := fun H locs ls hw hl => lv_aload_nN C.1 C.2.1 hd hi (hl.at hx) (k H locs ls hw hl)
theorem j_aloadN (C : Cx p s args m meth c cc nL own ret g) {i : Nat} (hd : decode cc pc = .ok (.aload i, 2)) (hx : lv[i]? = some (some .null)) (k : J p l e R s m args below meth c nL g cells slots Q V L (pc + 2) lv (.null :: st)) : J p l e R s m args below meth c nL g cells slots Q V L pc lv st := fun H locs ls hw hl => lv_aloadN C.1 C.2.1 hd (hl.at hx) (k H locs ls hw hl)
theorem j_istore_n (C : Cx p s args m meth c cc nL own ret g) {k0 : Fin 4} {i : Nat} {x : Int32} {lv' : List (Option Value)} (hd : decode cc pc = .ok (.istore_n k0, 1)) (hi : (k0 : Nat) = i) (hn : i < nL) (hc : cOk lv i = true) (hs : lv.set i (some (.int x)) = lv') (k : J p l e R s m args below meth c nL g cells slots Q V L (pc + 1) lv' st) : J p l e R s m args below meth c nL g cells slots Q V L pc lv (.int x :: st) := fun H locs ls hw hl => lv_istore_n C.1 C.2.1 hd hi hl hn rfl (fun ls' h' => k H locs ls' hw (by rw [← hs]; exact lvO.put1 hc h'))
theorem j_istore (C : Cx p s args m meth c cc nL own ret g) {i : Nat} {x : Int32} {lv' : List (Option Value)} (hd : decode cc pc = .ok (.istore i, 2)) (hn : i < nL) (hc : cOk lv i = true) (hs : lv.set i (some (.int x)) = lv') (k : J p l e R s m args below meth c nL g cells slots Q V L (pc + 2) lv' st) : J p l e R s m args below meth c nL g cells slots Q V L pc lv (.int x :: st) := fun H locs ls hw hl => lv_istore C.1 C.2.1 hd hl hn rfl (fun ls' h' => k H locs ls' hw (by rw [← hs]; exact lvO.put1 hc h'))
theorem j_astore_n (C : Cx p s args m meth c cc nL own ret g) {k0 : Fin 4} {i : Nat} {x : Nat} {lv' : List (Option Value)} (hd : decode cc pc = .ok (.astore_n k0, 1)) (hi : (k0 : Nat) = i) (hn : i < nL) (hc : cOk lv i = true) (hs : lv.set i (some (.ref x)) = lv') (k : J p l e R s m args below meth c nL g cells slots Q V L (pc + 1) lv' st) : J p l e R s m args below meth c nL g cells slots Q V L pc lv (.ref x :: st) := fun H locs ls hw hl => lv_astore_n C.1 C.2.1 hd hi hl hn rfl (fun ls' h' => k H locs ls' hw (by rw [← hs]; exact lvO.put1 hc h'))
theorem j_astore (C : Cx p s args m meth c cc nL own ret g) {i : Nat} {x : Nat} {lv' : List (Option Value)} (hd : decode cc pc = .ok (.astore i, 2)) (hn : i < nL) (hc : cOk lv i = true) (hs : lv.set i (some (.ref x)) = lv') (k : J p l e R s m args below meth c nL g cells slots Q V L (pc + 2) lv' st) : J p l e R s m args below meth c nL g cells slots Q V L pc lv (.ref x :: st) := fun H locs ls hw hl => lv_astore C.1 C.2.1 hd hl hn rfl (fun ls' h' => k H locs ls' hw (by rw [← hs]; exact lvO.put1 hc h'))
theorem j_astore_nN (C : Cx p s args m meth c cc nL own ret g) {k0 : Fin 4} {i : Nat} {lv' : List (Option Value)} (hd : decode cc pc = .ok (.astore_n k0, 1)) (hi : (k0 : Nat) = i) (hn : i < nL) (hc : cOk lv i = true) (hs : lv.set i (some .null) = lv') (k : J p l e R s m args below meth c nL g cells slots Q V L (pc + 1) lv' st) : J p l e R s m args below meth c nL g cells slots Q V L pc lv (.null :: st) := fun H locs ls hw hl => lv_astore_nN C.1 C.2.1 hd hi hl hn rfl (fun ls' h' => k H locs ls' hw (by rw [← hs]; exact lvO.put1 hc h'))
theorem j_astoreN (C : Cx p s args m meth c cc nL own ret g) {i : Nat} {lv' : List (Option Value)} (hd : decode cc pc = .ok (.astore i, 2)) (hn : i < nL) (hc : cOk lv i = true) (hs : lv.set i (some .null) = lv') (k : J p l e R s m args below meth c nL g cells slots Q V L (pc + 2) lv' st) : J p l e R s m args below meth c nL g cells slots Q V L pc lv (.null :: st) := fun H locs ls hw hl => lv_astoreN C.1 C.2.1 hd hl hn rfl (fun ls' h' => k H locs ls' hw (by rw [← hs]; exact lvO.put1 hc h'))
theorem j_lstore_n (C : Cx p s args m meth c cc nL own ret g) {k0 : Fin 4} {i : Nat} {x : Int64} {lv' : List (Option Value)} (hd : decode cc pc = .ok (.lstore_n k0, 1)) (hi : (k0 : Nat) = i) (hn : i + 1 < nL) (hc : cOk lv i = true) (hs : (lv.set (i + 1) none).set i (some (.long x)) = lv') (k : J p l e R s m args below meth c nL g cells slots Q V L (pc + 1) lv' st) : J p l e R s m args below meth c nL g cells slots Q V L pc lv (.long x :: st) := fun H locs ls hw hl => lv_lstore_n C.1 C.2.1 hd hi hl hn rfl (fun ls' h' => k H locs ls' hw (by rw [← hs]; exact lvO.put2 hc h'))
theorem j_lstore (C : Cx p s args m meth c cc nL own ret g) {i : Nat} {x : Int64} {lv' : List (Option Value)} (hd : decode cc pc = .ok (.lstore i, 2)) (hn : i + 1 < nL) (hc : cOk lv i = true) (hs : (lv.set (i + 1) none).set i (some (.long x)) = lv') (k : J p l e R s m args below meth c nL g cells slots Q V L (pc + 2) lv' st) : J p l e R s m args below meth c nL g cells slots Q V L pc lv (.long x :: st) := fun H locs ls hw hl => lv_lstore C.1 C.2.1 hd hl hn rfl (fun ls' h' => k H locs ls' hw (by rw [← hs]; exact lvO.put2 hc h'))
theorem j_dstore_n (C : Cx p s args m meth c cc nL own ret g) {k0 : Fin 4} {i : Nat} {x : UInt64} {lv' : List (Option Value)} (hd : decode cc pc = .ok (.dstore_n k0, 1)) (hi : (k0 : Nat) = i) (hn : i + 1 < nL) (hc : cOk lv i = true) (hs : (lv.set (i + 1) none).set i (some (.double x)) = lv') (k : J p l e R s m args below meth c nL g cells slots Q V L (pc + 1) lv' st) : J p l e R s m args below meth c nL g cells slots Q V L pc lv (.double x :: st) := fun H locs ls hw hl => lv_dstore_n C.1 C.2.1 hd hi hl hn rfl (fun ls' h' => k H locs ls' hw (by rw [← hs]; exact lvO.put2 hc h'))
theorem j_dstore (C : Cx p s args m meth c cc nL own ret g) {i : Nat} {x : UInt64} {lv' : List (Option Value)} (hd : decode cc pc = .ok (.dstore i, 2)) (hn : i + 1 < nL) (hc : cOk lv i = true) (hs : (lv.set (i + 1) none).set i (some (.double x)) = lv') (k : J p l e R s m args below meth c nL g cells slots Q V L (pc + 2) lv' st) : J p l e R s m args below meth c nL g cells slots Q V L pc lv (.double x :: st) := fun H locs ls hw hl => lv_dstore C.1 C.2.1 hd hl hn rfl (fun ls' h' => k H locs ls' hw (by rw [← hs]; exact lvO.put2 hc h'))
theorem j_iinc (C : Cx p s args m meth c cc nL own ret g) {i : Nat} {n : Int} {x v : Int32} {lv' : List (Option Value)} (hd : decode cc pc = .ok (.iinc i n, 3)) (hx : lv[i]? = some (some (.int x))) (hv : x + Int32.ofInt n = v) (hn : i < nL) (hc : cOk lv i = true) (hs : lv.set i (some (.int v)) = lv') (k : J p l e R s m args below meth c nL g cells slots Q V L (pc + 3) lv' st) : J p l e R s m args below meth c nL g cells slots Q V L pc lv st := by
  intro H locs ls hw hl
  obtain ⟨k1, hk1⟩ := List.getElem?_of_mem ((en_iff lv 0 (i, .int x)).mpr ⟨i, by simp, hx⟩)
  exact lv_iinc C.1 C.2.1 hd hl hk1 hv hn rfl (fun ls' h' => k H locs ls' hw (by rw [← hs]; exact lvO.put1 hc h'))
theorem j_iadd (C : Cx p s args m meth c cc nL own ret g) {x y : Int32} (hd : decode cc pc = .ok (.iadd, 1)) (k : J p l e R s m args below meth c nL g cells slots Q V L (pc + 1) lv (.int (x + y) :: st)) : J p l e R s m args below meth c nL g cells slots Q V L pc lv (.int y :: .int x :: st) := fun H locs ls hw hl => lv_iadd C.1 C.2.1 hd (k H locs ls hw hl)
theorem j_isub (C : Cx p s args m meth c cc nL own ret g) {x y : Int32} (hd : decode cc pc = .ok (.isub, 1)) (k : J p l e R s m args below meth c nL g cells slots Q V L (pc + 1) lv (.int (x - y) :: st)) : J p l e R s m args below meth c nL g cells slots Q V L pc lv (.int y :: .int x :: st) := fun H locs ls hw hl => lv_isub C.1 C.2.1 hd (k H locs ls hw hl)
theorem j_imul (C : Cx p s args m meth c cc nL own ret g) {x y : Int32} (hd : decode cc pc = .ok (.imul, 1)) (k : J p l e R s m args below meth c nL g cells slots Q V L (pc + 1) lv (.int (x * y) :: st)) : J p l e R s m args below meth c nL g cells slots Q V L pc lv (.int y :: .int x :: st) := fun H locs ls hw hl => lv_imul C.1 C.2.1 hd (k H locs ls hw hl)
theorem j_iand (C : Cx p s args m meth c cc nL own ret g) {x y : Int32} (hd : decode cc pc = .ok (.iand, 1)) (k : J p l e R s m args below meth c nL g cells slots Q V L (pc + 1) lv (.int (x &&& y) :: st)) : J p l e R s m args below meth c nL g cells slots Q V L pc lv (.int y :: .int x :: st) := fun H locs ls hw hl => lv_iand C.1 C.2.1 hd (k H locs ls hw hl)
theorem j_idiv (C : Cx p s args m meth c cc nL own ret g) {x y : Int32} (hd : decode cc pc = .ok (.idiv, 1)) (hne : ¬ y = 0) (k : J p l e R s m args below meth c nL g cells slots Q V L (pc + 1) lv (.int (x / y) :: st)) : J p l e R s m args below meth c nL g cells slots Q V L pc lv (.int y :: .int x :: st) := fun H locs ls hw hl => lv_idiv C.1 C.2.1 hd hne (k H locs ls hw hl)
theorem j_irem (C : Cx p s args m meth c cc nL own ret g) {x y : Int32} (hd : decode cc pc = .ok (.irem, 1)) (hne : ¬ y = 0) (k : J p l e R s m args below meth c nL g cells slots Q V L (pc + 1) lv (.int (x - x / y * y) :: st)) : J p l e R s m args below meth c nL g cells slots Q V L pc lv (.int y :: .int x :: st) := fun H locs ls hw hl => lv_irem C.1 C.2.1 hd hne (k H locs ls hw hl)
theorem j_ineg (C : Cx p s args m meth c cc nL own ret g) {x : Int32} (hd : decode cc pc = .ok (.ineg, 1)) (k : J p l e R s m args below meth c nL g cells slots Q V L (pc + 1) lv (.int (-x) :: st)) : J p l e R s m args below meth c nL g cells slots Q V L pc lv (.int x :: st) := fun H locs ls hw hl => lv_ineg C.1 C.2.1 hd (k H locs ls hw hl)
theorem j_ladd (C : Cx p s args m meth c cc nL own ret g) {x y : Int64} (hd : decode cc pc = .ok (.ladd, 1)) (k : J p l e R s m args below meth c nL g cells slots Q V L (pc + 1) lv (.long (x + y) :: st)) : J p l e R s m args below meth c nL g cells slots Q V L pc lv (.long y :: .long x :: st) := fun H locs ls hw hl => lv_ladd C.1 C.2.1 hd (k H locs ls hw hl)
theorem j_lsub (C : Cx p s args m meth c cc nL own ret g) {x y : Int64} (hd : decode cc pc = .ok (.lsub, 1)) (k : J p l e R s m args below meth c nL g cells slots Q V L (pc + 1) lv (.long (x - y) :: st)) : J p l e R s m args below meth c nL g cells slots Q V L pc lv (.long y :: .long x :: st) := fun H locs ls hw hl => lv_lsub C.1 C.2.1 hd (k H locs ls hw hl)
theorem j_lmul (C : Cx p s args m meth c cc nL own ret g) {x y : Int64} (hd : decode cc pc = .ok (.lmul, 1)) (k : J p l e R s m args below meth c nL g cells slots Q V L (pc + 1) lv (.long (x * y) :: st)) : J p l e R s m args below meth c nL g cells slots Q V L pc lv (.long y :: .long x :: st) := fun H locs ls hw hl => lv_lmul C.1 C.2.1 hd (k H locs ls hw hl)
theorem j_ldiv (C : Cx p s args m meth c cc nL own ret g) {x y : Int64} (hd : decode cc pc = .ok (.ldiv, 1)) (hne : ¬ y = 0) (k : J p l e R s m args below meth c nL g cells slots Q V L (pc + 1) lv (.long (x / y) :: st)) : J p l e R s m args below meth c nL g cells slots Q V L pc lv (.long y :: .long x :: st) := fun H locs ls hw hl => lv_ldiv C.1 C.2.1 hd hne (k H locs ls hw hl)
theorem j_ishl (C : Cx p s args m meth c cc nL own ret g) {x y : Int32} (hd : decode cc pc = .ok (.ishl, 1)) (k : J p l e R s m args below meth c nL g cells slots Q V L (pc + 1) lv (.int (x <<< (y &&& 31)) :: st)) : J p l e R s m args below meth c nL g cells slots Q V L pc lv (.int y :: .int x :: st) := fun H locs ls hw hl => lv_ishl C.1 C.2.1 hd (k H locs ls hw hl)
theorem j_lshl (C : Cx p s args m meth c cc nL own ret g) {x : Int64} {y : Int32} (hd : decode cc pc = .ok (.lshl, 1)) (k : J p l e R s m args below meth c nL g cells slots Q V L (pc + 1) lv (.long (x <<< (y.toInt64 &&& 63)) :: st)) : J p l e R s m args below meth c nL g cells slots Q V L pc lv (.int y :: .long x :: st) := fun H locs ls hw hl => lv_lshl C.1 C.2.1 hd rfl (k H locs ls hw hl)
theorem j_i2l (C : Cx p s args m meth c cc nL own ret g) {x : Int32} (hd : decode cc pc = .ok (.i2l, 1)) (k : J p l e R s m args below meth c nL g cells slots Q V L (pc + 1) lv (.long x.toInt64 :: st)) : J p l e R s m args below meth c nL g cells slots Q V L pc lv (.int x :: st) := fun H locs ls hw hl => lv_i2l C.1 C.2.1 hd rfl (k H locs ls hw hl)
theorem j_l2i (C : Cx p s args m meth c cc nL own ret g) {x : Int64} (hd : decode cc pc = .ok (.l2i, 1)) (k : J p l e R s m args below meth c nL g cells slots Q V L (pc + 1) lv (.int x.toInt32 :: st)) : J p l e R s m args below meth c nL g cells slots Q V L pc lv (.long x :: st) := fun H locs ls hw hl => lv_l2i C.1 C.2.1 hd rfl (k H locs ls hw hl)
theorem j_i2c (C : Cx p s args m meth c cc nL own ret g) {x : Int32} (hd : decode cc pc = .ok (.i2c, 1)) (k : J p l e R s m args below meth c nL g cells slots Q V L (pc + 1) lv (.int (x.toUInt32 % 65536).toInt32 :: st)) : J p l e R s m args below meth c nL g cells slots Q V L pc lv (.int x :: st) := fun H locs ls hw hl => lv_i2c C.1 C.2.1 hd rfl (k H locs ls hw hl)
theorem j_i2d (C : Cx p s args m meth c cc nL own ret g) {x : Int32} (hd : decode cc pc = .ok (.i2d, 1)) (k : J p l e R s m args below meth c nL g cells slots Q V L (pc + 1) lv (.double (FP.i2d x) :: st)) : J p l e R s m args below meth c nL g cells slots Q V L pc lv (.int x :: st) := fun H locs ls hw hl => lv_i2d C.1 C.2.1 hd (k H locs ls hw hl)
theorem j_d2l (C : Cx p s args m meth c cc nL own ret g) {x : UInt64} (hd : decode cc pc = .ok (.d2l, 1)) (k : J p l e R s m args below meth c nL g cells slots Q V L (pc + 1) lv (.long (FP.d2l x) :: st)) : J p l e R s m args below meth c nL g cells slots Q V L pc lv (.double x :: st) := fun H locs ls hw hl => lv_d2l C.1 C.2.1 hd (k H locs ls hw hl)
theorem j_dsub (C : Cx p s args m meth c cc nL own ret g) {x y z : UInt64} (hd : decode cc pc = .ok (.dsub, 1)) (hz : FP.dsub x y = z) (hne : vf_n64 z) (k : J p l e R s m args below meth c nL g cells slots Q V L (pc + 1) lv (.double z :: st)) : J p l e R s m args below meth c nL g cells slots Q V L pc lv (.double y :: .double x :: st) := fun H locs ls hw hl => (hz ▸ lv_dsub (H := H) (locs := locs) (ls := ls) (rest := st) C.1 C.2.1 hd (by rw [hz]; exact hne)) (k H locs ls hw hl)
theorem j_dmul (C : Cx p s args m meth c cc nL own ret g) {x y z : UInt64} (hd : decode cc pc = .ok (.dmul, 1)) (hz : FP.dmul x y = z) (hne : vf_n64 z) (k : J p l e R s m args below meth c nL g cells slots Q V L (pc + 1) lv (.double z :: st)) : J p l e R s m args below meth c nL g cells slots Q V L pc lv (.double y :: .double x :: st) := fun H locs ls hw hl => (hz ▸ lv_dmul (H := H) (locs := locs) (ls := ls) (rest := st) C.1 C.2.1 hd (by rw [hz]; exact hne)) (k H locs ls hw hl)
theorem j_ddiv (C : Cx p s args m meth c cc nL own ret g) {x y z : UInt64} (hd : decode cc pc = .ok (.ddiv, 1)) (hz : FP.ddiv x y = z) (hne : vf_n64 z) (k : J p l e R s m args below meth c nL g cells slots Q V L (pc + 1) lv (.double z :: st)) : J p l e R s m args below meth c nL g cells slots Q V L pc lv (.double y :: .double x :: st) := fun H locs ls hw hl => (hz ▸ lv_ddiv (H := H) (locs := locs) (ls := ls) (rest := st) C.1 C.2.1 hd (by rw [hz]; exact hne)) (k H locs ls hw hl)
theorem j_lcmp (C : Cx p s args m meth c cc nL own ret g) {x y : Int64} (hd : decode cc pc = .ok (.lcmp, 1)) (k : J p l e R s m args below meth c nL g cells slots Q V L (pc + 1) lv (.int (lg_cmp x y) :: st)) : J p l e R s m args below meth c nL g cells slots Q V L pc lv (.long y :: .long x :: st) := fun H locs ls hw hl => W.lcmp C.1 C.2.1 hd (k H locs ls hw hl)
theorem j_dcmp (C : Cx p s args m meth c cc nL own ret g) {x y : UInt64} {op : CmpOp} (hd : decode cc pc = .ok (.dcmp op, 1)) (k : J p l e R s m args below meth c nL g cells slots Q V L (pc + 1) lv (.int (Op.cmpValue (FP.dcmp x y) op) :: st)) : J p l e R s m args below meth c nL g cells slots Q V L pc lv (.double y :: .double x :: st) := fun H locs ls hw hl => lv_dcmp C.1 C.2.1 hd (k H locs ls hw hl)
theorem j_dup (C : Cx p s args m meth c cc nL own ret g) {x : Value} (hd : decode cc pc = .ok (.dup, 1)) (hx : x.category = 1) (k : J p l e R s m args below meth c nL g cells slots Q V L (pc + 1) lv (x :: x :: st)) : J p l e R s m args below meth c nL g cells slots Q V L pc lv (x :: st) := fun H locs ls hw hl => lv_dup C.1 C.2.1 hd hx (k H locs ls hw hl)
theorem j_dup2 (C : Cx p s args m meth c cc nL own ret g) {x y : Value} (hd : decode cc pc = .ok (.dup2, 1)) (hx : x.category = 1) (hy : y.category = 1) (k : J p l e R s m args below meth c nL g cells slots Q V L (pc + 1) lv (x :: y :: x :: y :: st)) : J p l e R s m args below meth c nL g cells slots Q V L pc lv (x :: y :: st) := fun H locs ls hw hl => lv_dup2_11 C.1 C.2.1 hd hx hy (k H locs ls hw hl)
theorem j_pop (C : Cx p s args m meth c cc nL own ret g) {x : Value} (hd : decode cc pc = .ok (.pop, 1)) (hx : x.category = 1) (k : J p l e R s m args below meth c nL g cells slots Q V L (pc + 1) lv st) : J p l e R s m args below meth c nL g cells slots Q V L pc lv (x :: st) := fun H locs ls hw hl => lv_pop C.1 C.2.1 hd hx (k H locs ls hw hl)
theorem j_if_eq (C : Cx p s args m meth c cc nL own ret g) {x : Int32} {off : Int} {tgt : Nat} (hd : decode cc pc = .ok (.ifCond .eq off, 3)) (ht : (pc : Int) + off = (tgt : Int)) (kt : x = 0 → J p l e R s m args below meth c nL g cells slots Q V L tgt lv st) (kf : ¬ x = 0 → J p l e R s m args below meth c nL g cells slots Q V L (pc + 3) lv st) : J p l e R s m args below meth c nL g cells slots Q V L pc lv (.int x :: st) := fun H locs ls hw hl => lv_if_eq C.1 C.2.1 hd ht (fun h => kt h H locs ls hw hl) (fun h => kf h H locs ls hw hl)
theorem j_if_ne (C : Cx p s args m meth c cc nL own ret g) {x : Int32} {off : Int} {tgt : Nat} (hd : decode cc pc = .ok (.ifCond .ne off, 3)) (ht : (pc : Int) + off = (tgt : Int)) (kt : ¬ x = 0 → J p l e R s m args below meth c nL g cells slots Q V L tgt lv st) (kf : x = 0 → J p l e R s m args below meth c nL g cells slots Q V L (pc + 3) lv st) : J p l e R s m args below meth c nL g cells slots Q V L pc lv (.int x :: st) := fun H locs ls hw hl => lv_if_ne C.1 C.2.1 hd ht (fun h => kt h H locs ls hw hl) (fun h => kf h H locs ls hw hl)
theorem j_if_lt (C : Cx p s args m meth c cc nL own ret g) {x : Int32} {off : Int} {tgt : Nat} (hd : decode cc pc = .ok (.ifCond .lt off, 3)) (ht : (pc : Int) + off = (tgt : Int)) (kt : x < 0 → J p l e R s m args below meth c nL g cells slots Q V L tgt lv st) (kf : ¬ x < 0 → J p l e R s m args below meth c nL g cells slots Q V L (pc + 3) lv st) : J p l e R s m args below meth c nL g cells slots Q V L pc lv (.int x :: st) := fun H locs ls hw hl => lv_if_lt C.1 C.2.1 hd ht (fun h => kt h H locs ls hw hl) (fun h => kf h H locs ls hw hl)
theorem j_if_ge (C : Cx p s args m meth c cc nL own ret g) {x : Int32} {off : Int} {tgt : Nat} (hd : decode cc pc = .ok (.ifCond .ge off, 3)) (ht : (pc : Int) + off = (tgt : Int)) (kt : 0 ≤ x → J p l e R s m args below meth c nL g cells slots Q V L tgt lv st) (kf : ¬ 0 ≤ x → J p l e R s m args below meth c nL g cells slots Q V L (pc + 3) lv st) : J p l e R s m args below meth c nL g cells slots Q V L pc lv (.int x :: st) := fun H locs ls hw hl => lv_if_ge C.1 C.2.1 hd ht (fun h => kt h H locs ls hw hl) (fun h => kf h H locs ls hw hl)
theorem j_if_gt (C : Cx p s args m meth c cc nL own ret g) {x : Int32} {off : Int} {tgt : Nat} (hd : decode cc pc = .ok (.ifCond .gt off, 3)) (ht : (pc : Int) + off = (tgt : Int)) (kt : 0 < x → J p l e R s m args below meth c nL g cells slots Q V L tgt lv st) (kf : ¬ 0 < x → J p l e R s m args below meth c nL g cells slots Q V L (pc + 3) lv st) : J p l e R s m args below meth c nL g cells slots Q V L pc lv (.int x :: st) := fun H locs ls hw hl => lv_if_gt C.1 C.2.1 hd ht (fun h => kt h H locs ls hw hl) (fun h => kf h H locs ls hw hl)
theorem j_if_le (C : Cx p s args m meth c cc nL own ret g) {x : Int32} {off : Int} {tgt : Nat} (hd : decode cc pc = .ok (.ifCond .le off, 3)) (ht : (pc : Int) + off = (tgt : Int)) (kt : x ≤ 0 → J p l e R s m args below meth c nL g cells slots Q V L tgt lv st) (kf : ¬ x ≤ 0 → J p l e R s m args below meth c nL g cells slots Q V L (pc + 3) lv st) : J p l e R s m args below meth c nL g cells slots Q V L pc lv (.int x :: st) := fun H locs ls hw hl => lv_if_le C.1 C.2.1 hd ht (fun h => kt h H locs ls hw hl) (fun h => kf h H locs ls hw hl)
theorem j_icmp_eq (C : Cx p s args m meth c cc nL own ret g) {x y : Int32} {off : Int} {tgt : Nat} (hd : decode cc pc = .ok (.if_icmp .eq off, 3)) (ht : (pc : Int) + off = (tgt : Int)) (kt : x = y → J p l e R s m args below meth c nL g cells slots Q V L tgt lv st) (kf : ¬ x = y → J p l e R s m args below meth c nL g cells slots Q V L (pc + 3) lv st) : J p l e R s m args below meth c nL g cells slots Q V L pc lv (.int y :: .int x :: st) := fun H locs ls hw hl => lv_icmp_eq C.1 C.2.1 hd ht (fun h => kt h H locs ls hw hl) (fun h => kf h H locs ls hw hl)
theorem j_icmp_ne (C : Cx p s args m meth c cc nL own ret g) {x y : Int32} {off : Int} {tgt : Nat} (hd : decode cc pc = .ok (.if_icmp .ne off, 3)) (ht : (pc : Int) + off = (tgt : Int)) (kt : ¬ x = y → J p l e R s m args below meth c nL g cells slots Q V L tgt lv st) (kf : x = y → J p l e R s m args below meth c nL g cells slots Q V L (pc + 3) lv st) : J p l e R s m args below meth c nL g cells slots Q V L pc lv (.int y :: .int x :: st) := fun H locs ls hw hl => lv_icmp_ne C.1 C.2.1 hd ht (fun h => kt h H locs ls hw hl) (fun h => kf h H locs ls hw hl)
theorem j_icmp_lt (C : Cx p s args m meth c cc nL own ret g) {x y : Int32} {off : Int} {tgt : Nat} (hd : decode cc pc = .ok (.if_icmp .lt off, 3)) (ht : (pc : Int) + off = (tgt : Int)) (kt : x < y → J p l e R s m args below meth c nL g cells slots Q V L tgt lv st) (kf : ¬ x < y → J p l e R s m args below meth c nL g cells slots Q V L (pc + 3) lv st) : J p l e R s m args below meth c nL g cells slots Q V L pc lv (.int y :: .int x :: st) := fun H locs ls hw hl => lv_icmp_lt C.1 C.2.1 hd ht (fun h => kt h H locs ls hw hl) (fun h => kf h H locs ls hw hl)
theorem j_icmp_ge (C : Cx p s args m meth c cc nL own ret g) {x y : Int32} {off : Int} {tgt : Nat} (hd : decode cc pc = .ok (.if_icmp .ge off, 3)) (ht : (pc : Int) + off = (tgt : Int)) (kt : y ≤ x → J p l e R s m args below meth c nL g cells slots Q V L tgt lv st) (kf : ¬ y ≤ x → J p l e R s m args below meth c nL g cells slots Q V L (pc + 3) lv st) : J p l e R s m args below meth c nL g cells slots Q V L pc lv (.int y :: .int x :: st) := fun H locs ls hw hl => lv_icmp_ge C.1 C.2.1 hd ht (fun h => kt h H locs ls hw hl) (fun h => kf h H locs ls hw hl)
theorem j_icmp_gt (C : Cx p s args m meth c cc nL own ret g) {x y : Int32} {off : Int} {tgt : Nat} (hd : decode cc pc = .ok (.if_icmp .gt off, 3)) (ht : (pc : Int) + off = (tgt : Int)) (kt : y < x → J p l e R s m args below meth c nL g cells slots Q V L tgt lv st) (kf : ¬ y < x → J p l e R s m args below meth c nL g cells slots Q V L (pc + 3) lv st) : J p l e R s m args below meth c nL g cells slots Q V L pc lv (.int y :: .int x :: st) := fun H locs ls hw hl => lv_icmp_gt C.1 C.2.1 hd ht (fun h => kt h H locs ls hw hl) (fun h => kf h H locs ls hw hl)
theorem j_icmp_le (C : Cx p s args m meth c cc nL own ret g) {x y : Int32} {off : Int} {tgt : Nat} (hd : decode cc pc = .ok (.if_icmp .le off, 3)) (ht : (pc : Int) + off = (tgt : Int)) (kt : x ≤ y → J p l e R s m args below meth c nL g cells slots Q V L tgt lv st) (kf : ¬ x ≤ y → J p l e R s m args below meth c nL g cells slots Q V L (pc + 3) lv st) : J p l e R s m args below meth c nL g cells slots Q V L pc lv (.int y :: .int x :: st) := fun H locs ls hw hl => lv_icmp_le C.1 C.2.1 hd ht (fun h => kt h H locs ls hw hl) (fun h => kf h H locs ls hw hl)
theorem j_goto (C : Cx p s args m meth c cc nL own ret g) {off : Int} {tgt : Nat} (hd : decode cc pc = .ok (.goto off, 3)) (ht : (pc : Int) + off = (tgt : Int)) (k : J p l e R s m args below meth c nL g cells slots Q V L tgt lv st) : J p l e R s m args below meth c nL g cells slots Q V L pc lv st := fun H locs ls hw hl => lv_goto C.1 C.2.1 hd ht (k H locs ls hw hl)
theorem j_ifnonnull (C : Cx p s args m meth c cc nL own ret g) {x : Nat} {off : Int} {tgt : Nat} (hd : decode cc pc = .ok (.ifnonnull off, 3)) (ht : (pc : Int) + off = (tgt : Int)) (k : J p l e R s m args below meth c nL g cells slots Q V L tgt lv st) : J p l e R s m args below meth c nL g cells slots Q V L pc lv (.ref x :: st) := fun H locs ls hw hl => lv_ifnonnull C.1 C.2.1 hd ht (k H locs ls hw hl)
theorem j_ifnonnullN (C : Cx p s args m meth c cc nL own ret g) {off : Int} (hd : decode cc pc = .ok (.ifnonnull off, 3)) (k : J p l e R s m args below meth c nL g cells slots Q V L (pc + 3) lv st) : J p l e R s m args below meth c nL g cells slots Q V L pc lv (.null :: st) := fun H locs ls hw hl => lv_ifnonnullN C.1 C.2.1 hd (k H locs ls hw hl)
theorem j_ifnull (C : Cx p s args m meth c cc nL own ret g) {x : Nat} {off : Int} (hd : decode cc pc = .ok (.ifnull off, 3)) (k : J p l e R s m args below meth c nL g cells slots Q V L (pc + 3) lv st) : J p l e R s m args below meth c nL g cells slots Q V L pc lv (.ref x :: st) := fun H locs ls hw hl => lv_ifnull C.1 C.2.1 hd (k H locs ls hw hl)
theorem j_ifnullN (C : Cx p s args m meth c cc nL own ret g) {off : Int} {tgt : Nat} (hd : decode cc pc = .ok (.ifnull off, 3)) (ht : (pc : Int) + off = (tgt : Int)) (k : J p l e R s m args below meth c nL g cells slots Q V L tgt lv st) : J p l e R s m args below meth c nL g cells slots Q V L pc lv (.null :: st) := fun H locs ls hw hl => lv_ifnullN C.1 C.2.1 hd ht (k H locs ls hw hl)
theorem j_tabIn (C : Cx p s args m meth c cc nL own ret g) {dflt lo hi : Int} {offs : Array Int} {len : Nat} {x : Int32} {off : Int} {tgt : Nat} (hd : decode cc pc = .ok (.tableswitch dflt lo hi offs, len)) (h1 : ¬ x.toInt < lo) (h2 : ¬ hi < x.toInt) (ho : offs[(x.toInt - lo).toNat]? = some off) (ht : (pc : Int) + off = (tgt : Int)) (k : J p l e R s m args below meth c nL g cells slots Q V L tgt lv st) : J p l e R s m args below meth c nL g cells slots Q V L pc lv (.int x :: st) := fun H locs ls hw hl => lv_tableIn C.1 C.2.1 hd h1 h2 ho ht (k H locs ls hw hl)
theorem j_tabOut (C : Cx p s args m meth c cc nL own ret g) {dflt lo hi : Int} {offs : Array Int} {len : Nat} {x : Int32} {tgt : Nat} (hd : decode cc pc = .ok (.tableswitch dflt lo hi offs, len)) (h : x.toInt < lo ∨ hi < x.toInt) (ht : (pc : Int) + dflt = (tgt : Int)) (k : J p l e R s m args below meth c nL g cells slots Q V L tgt lv st) : J p l e R s m args below meth c nL g cells slots Q V L pc lv (.int x :: st) := fun H locs ls hw hl => lv_tableOut C.1 C.2.1 hd h ht (k H locs ls hw hl)
theorem j_lookup (C : Cx p s args m meth c cc nL own ret g) {dflt : Int} {ps : Array (Int × Int)} {len : Nat} {x : Int32} {off : Int} {tgt : Nat} (hd : decode cc pc = .ok (.lookupswitch dflt ps, len)) (hp : (ps.toList.zip (ps.toList.drop 1)).all (fun (a, next) => a.1 < next.1) = true) (ho : Op.lookupswitch.offset ps.toList dflt x.toInt = off) (ht : (pc : Int) + off = (tgt : Int)) (k : J p l e R s m args below meth c nL g cells slots Q V L tgt lv st) : J p l e R s m args below meth c nL g cells slots Q V L pc lv (.int x :: st) := fun H locs ls hw hl => lv_lookup C.1 C.2.1 hd hp ho ht (k H locs ls hw hl)
theorem j_mmax (C : Cx p s args m meth c cc nL own ret g) {x y : Int32} {i : Nat} (h1 : Cond.methodLink own i Lib.Math.max.name ∈ TG) (h2 : Cond.static Lib.Math.max.name ∈ TG) (h3 : Cond.initialized "java/lang/Math" ∈ TG) (h4 : Cond.code Lib.Math.max.name Lib.Math.max.code 2 (some .int) ∈ TG) (hf : 1 ≤ R.frames) (ho : (st.map fun v => v.category).sum + 13 ≤ R.locals) (hc : cells ≤ R.cells) (hs : slots ≤ R.slots) (hd : decode cc pc = .ok (.invokestatic i, 3)) (k : J p l e R s m args below meth c nL g cells slots Q V L (pc + 3) lv (.int (if x < y then y else x) :: st)) : J p l e R s m args below meth c nL g cells slots Q V L pc lv (.int y :: .int x :: st) := fun H locs ls hw hl => va_mmax C.1 C.2.1 (C.2.2.1.trans hl.1.symm) C.2.2.2.1 (C.2.2.2.2.1 _ h1) (C.2.2.2.2.1 _ h2) (C.2.2.2.2.1 _ h3) (C.2.2.2.2.1 _ h4) hf ho hc hs hd (k H locs ls hw hl)
theorem j_mmin (C : Cx p s args m meth c cc nL own ret g) {x y : Int32} {i : Nat} (h1 : Cond.methodLink own i Lib.Math.min.name ∈ TG) (h2 : Cond.static Lib.Math.min.name ∈ TG) (h3 : Cond.initialized "java/lang/Math" ∈ TG) (h4 : Cond.code Lib.Math.min.name Lib.Math.min.code 2 (some .int) ∈ TG) (hf : 1 ≤ R.frames) (ho : (st.map fun v => v.category).sum + 13 ≤ R.locals) (hc : cells ≤ R.cells) (hs : slots ≤ R.slots) (hd : decode cc pc = .ok (.invokestatic i, 3)) (k : J p l e R s m args below meth c nL g cells slots Q V L (pc + 3) lv (.int (if y < x then y else x) :: st)) : J p l e R s m args below meth c nL g cells slots Q V L pc lv (.int y :: .int x :: st) := fun H locs ls hw hl => va_mmin C.1 C.2.1 (C.2.2.1.trans hl.1.symm) C.2.2.2.1 (C.2.2.2.2.1 _ h1) (C.2.2.2.2.1 _ h2) (C.2.2.2.2.1 _ h3) (C.2.2.2.2.1 _ h4) hf ho hc hs hd (k H locs ls hw hl)
def ia : Nat → Option Nat
  | 4 => some 17
  | 11 => some 4
  | 14 => some 251
  | 15 => some 1506
  | 16 => some 251
  | 17 => some 60
  | 18 => some 60
  | _ => none
theorem ia_cell {g : GC} {V : Mem} {L : LMem} {k n c : Nat} (hk : kd k = c) (hi : ia c = some n) : k < 231 ∧ cellOf g V L k = .inl (ca g 0, n, .inl (V k)) := by
  unfold cellOf
  rw [hk]
  unfold ia at hi
  split at hi <;> first | (cases hi; exact ⟨kd_lt hk (by omega), rfl⟩) | cases hi
theorem ia_at {g : GC} {V : Mem} {L : LMem} {k n c : Nat} (hk : kd k = c) (hi : ia c = some n) : (TW g V L)[k]? = some (ad g k, .inl (ca g 0, n, .inl (V k))) := (TW_at (ia_cell (g := g) (V := V) (L := L) hk hi).1).trans (by rw [(ia_cell hk hi).2])
theorem ia_other {g : GC} {V : Mem} {L : LMem} {k i : Nat} {x : Int32} : ∀ j, j < 231 → j ≠ k → cellOf g (mset V k i x) L j = cellOf g V L j := fun j _ h => cellOf_row h
theorem rf_cell1 {g : GC} {V : Mem} {L : LMem} {k : Nat} (hk : kd k = 1) : k < 231 ∧ cellOf g V L k = .inl (ca g 2, 8, .inr (.inr (.inr (.inr (fun i => some (ad g (k + 2 + i))))))) := ⟨kd_lt hk (by omega), by unfold cellOf; rw [hk]; rfl⟩
theorem rf_cell2 {g : GC} {V : Mem} {L : LMem} {k : Nat} (hk : kd k = 2) : k < 231 ∧ cellOf g V L k = .inl (ca g 3, 12, .inr (.inr (.inr (.inr (fun i => some (ad g (k + 17 + i))))))) := ⟨kd_lt hk (by omega), by unfold cellOf; rw [hk]; rfl⟩
theorem rf_cell7 {g : GC} {V : Mem} {L : LMem} {k : Nat} (hk : kd k = 7) : k < 231 ∧ cellOf g V L k = .inl (ca g 4, 6, .inr (.inr (.inr (.inr (fun i => some (ad g (31 * (i + 1)))))))) := ⟨kd_lt hk (by omega), by unfold cellOf; rw [hk]; rfl⟩
theorem rf_at1 {g : GC} {V : Mem} {L : LMem} {k : Nat} (hk : kd k = 1) : (TW g V L)[k]? = some (ad g k, .inl (ca g 2, 8, .inr (.inr (.inr (.inr (fun i => some (ad g (k + 2 + i)))))))) := (TW_at (rf_cell1 (g := g) (V := V) (L := L) hk).1).trans (by rw [(rf_cell1 hk).2])
theorem rf_at2 {g : GC} {V : Mem} {L : LMem} {k : Nat} (hk : kd k = 2) : (TW g V L)[k]? = some (ad g k, .inl (ca g 3, 12, .inr (.inr (.inr (.inr (fun i => some (ad g (k + 17 + i)))))))) := (TW_at (rf_cell2 (g := g) (V := V) (L := L) hk).1).trans (by rw [(rf_cell2 hk).2])
theorem rf_at7 {g : GC} {V : Mem} {L : LMem} {k : Nat} (hk : kd k = 7) : (TW g V L)[k]? = some (ad g k, .inl (ca g 4, 6, .inr (.inr (.inr (.inr (fun i => some (ad g (31 * (i + 1))))))))) := (TW_at (rf_cell7 (g := g) (V := V) (L := L) hk).1).trans (by rw [(rf_cell7 hk).2])
theorem j_iald (C : Cx p s args m meth c cc nL own ret g) {k0 n0 c0 : Nat} {i : Int32} (hk : kd k0 = c0) (hi : ia c0 = some n0) (hin : vp_in i n0) (hd : decode cc pc = .ok (.iaload, 1)) (k : J p l e R s m args below meth c nL g cells slots Q V L (pc + 1) lv (.int (V k0 i.toNatClampNeg) :: st)) : J p l e R s m args below meth c nL g cells slots Q V L pc lv (.int i :: .ref (ad g k0) :: st) := fun H locs ls hw hl =>
  va_iald C.1 C.2.1 C.2.2.2.2.2.2.2.1 hw.1 k0 0 (ia_at hk hi) rfl hin hd (k H locs ls hw hl)
theorem j_ialdN (C : Cx p s args m meth c cc nL own ret g) {k0 n0 c0 a0 : Nat} {i : Int32} (hk : kd k0 = c0) (hi : ia c0 = some n0) (he : i = nI a0) (hin : a0 < n0) (hd : decode cc pc = .ok (.iaload, 1)) (k : J p l e R s m args below meth c nL g cells slots Q V L (pc + 1) lv (.int (V k0 a0) :: st)) : J p l e R s m args below meth c nL g cells slots Q V L pc lv (.int i :: .ref (ad g k0) :: st) := by
  have hn : n0 < 2 ^ 31 := by unfold ia at hi; split at hi <;> first | (cases hi; done) | (cases hi; omega)
  subst he
  refine j_iald C hk hi (vp_in_nI hin hn) hd ?_
  rw [nI_clamp (by omega)]
  exact k
theorem j_iast (C : Cx p s args m meth c cc nL own ret g) {k0 n0 c0 : Nat} {i x : Int32} (hk : kd k0 = c0) (hi : ia c0 = some n0) (hin : vp_in i n0) (hd : decode cc pc = .ok (.iastore, 1)) (k : J p l e R s m args below meth c nL g cells slots Q (mset V k0 i.toNatClampNeg x) L (pc + 1) lv st) : J p l e R s m args below meth c nL g cells slots Q V L pc lv (.int x :: .int i :: .ref (ad g k0) :: st) := by
  intro H locs ls hw hl
  obtain ⟨h1, h2⟩ := ia_cell (g := g) (V := V) (L := L) hk hi
  refine va_iast C.1 C.2.1 C.2.2.2.2.2.2.2.1 hw.1 (C.2.2.2.2.2.2.2.2.1.d V L) hw.2 k0 0 ((TW_at h1).trans (by rw [h2])) rfl hin hd (fun H1 locs1 a1 a2 a3 => k H1 locs1 ls ⟨?_, a3⟩ hl)
  rw [TW_set (V' := mset V k0 i.toNatClampNeg x) (L' := L) h1 ((ia_cell hk hi).2.trans (by rw [mset_upd])) ia_other] at a1
  exact a1
theorem j_iastN (C : Cx p s args m meth c cc nL own ret g) {k0 n0 c0 a0 : Nat} {i x : Int32} (hk : kd k0 = c0) (hi : ia c0 = some n0) (he : i = nI a0) (hin : a0 < n0) (hd : decode cc pc = .ok (.iastore, 1)) (k : J p l e R s m args below meth c nL g cells slots Q (mset V k0 a0 x) L (pc + 1) lv st) : J p l e R s m args below meth c nL g cells slots Q V L pc lv (.int x :: .int i :: .ref (ad g k0) :: st) := by
  have hn : n0 < 2 ^ 31 := by unfold ia at hi; split at hi <;> first | (cases hi; done) | (cases hi; omega)
  subst he
  refine j_iast C hk hi (vp_in_nI hin hn) hd ?_
  rw [nI_clamp (by omega)]
  exact k
theorem j_alen (C : Cx p s args m meth c cc nL own ret g) {k0 n0 c0 : Nat} {v : Int32} (hk : kd k0 = c0) (hi : ia c0 = some n0) (hv : Int32.ofNat n0 = v) (hd : decode cc pc = .ok (.arraylength, 1)) (k : J p l e R s m args below meth c nL g cells slots Q V L (pc + 1) lv (.int v :: st)) : J p l e R s m args below meth c nL g cells slots Q V L pc lv (.ref (ad g k0) :: st) := fun H locs ls hw hl =>
  va_alen C.1 C.2.1 C.2.2.2.2.2.2.2.1 hw.1 k0 0 (ia_at hk hi) (ty := .int) rfl hv hd (k H locs ls hw hl)
theorem j_alen1 (C : Cx p s args m meth c cc nL own ret g) {k0 : Nat} {v : Int32} (hk : kd k0 = 1) (hv : Int32.ofNat 8 = v) (hd : decode cc pc = .ok (.arraylength, 1)) (k : J p l e R s m args below meth c nL g cells slots Q V L (pc + 1) lv (.int v :: st)) : J p l e R s m args below meth c nL g cells slots Q V L pc lv (.ref (ad g k0) :: st) := fun H locs ls hw hl =>
  va_alen C.1 C.2.1 C.2.2.2.2.2.2.2.1 hw.1 k0 2 (rf_at1 hk) (ty := .object RX2) rfl hv hd (k H locs ls hw hl)
theorem j_aald1 (C : Cx p s args m meth c cc nL own ret g) {k0 a0 : Nat} {i : Int32} (hk : kd k0 = 1) (he : i = nI a0) (hin : a0 < 8) (hd : decode cc pc = .ok (.aaload, 1)) (k : J p l e R s m args below meth c nL g cells slots Q V L (pc + 1) lv (.ref (ad g (k0 + 2 + a0)) :: st)) : J p l e R s m args below meth c nL g cells slots Q V L pc lv (.int i :: .ref (ad g k0) :: st) := by
  intro H locs ls hw hl
  subst he
  refine va_aldq C.1 C.2.1 C.2.2.2.2.2.2.2.1 hw.1 k0 2 (rf_at1 hk) (C := RX2) rfl (vp_in_nI hin (by omega)) hd ?_
  rw [nI_clamp (by omega)]
  exact k H locs ls hw hl
theorem j_alen2 (C : Cx p s args m meth c cc nL own ret g) {k0 : Nat} {v : Int32} (hk : kd k0 = 2) (hv : Int32.ofNat 12 = v) (hd : decode cc pc = .ok (.arraylength, 1)) (k : J p l e R s m args below meth c nL g cells slots Q V L (pc + 1) lv (.int v :: st)) : J p l e R s m args below meth c nL g cells slots Q V L pc lv (.ref (ad g k0) :: st) := fun H locs ls hw hl =>
  va_alen C.1 C.2.1 C.2.2.2.2.2.2.2.1 hw.1 k0 3 (rf_at2 hk) (ty := .object RX5) rfl hv hd (k H locs ls hw hl)
theorem j_aald2 (C : Cx p s args m meth c cc nL own ret g) {k0 a0 : Nat} {i : Int32} (hk : kd k0 = 2) (he : i = nI a0) (hin : a0 < 12) (hd : decode cc pc = .ok (.aaload, 1)) (k : J p l e R s m args below meth c nL g cells slots Q V L (pc + 1) lv (.ref (ad g (k0 + 17 + a0)) :: st)) : J p l e R s m args below meth c nL g cells slots Q V L pc lv (.int i :: .ref (ad g k0) :: st) := by
  intro H locs ls hw hl
  subst he
  refine va_aldq C.1 C.2.1 C.2.2.2.2.2.2.2.1 hw.1 k0 3 (rf_at2 hk) (C := RX5) rfl (vp_in_nI hin (by omega)) hd ?_
  rw [nI_clamp (by omega)]
  exact k H locs ls hw hl
theorem j_alen7 (C : Cx p s args m meth c cc nL own ret g) {k0 : Nat} {v : Int32} (hk : kd k0 = 7) (hv : Int32.ofNat 6 = v) (hd : decode cc pc = .ok (.arraylength, 1)) (k : J p l e R s m args below meth c nL g cells slots Q V L (pc + 1) lv (.int v :: st)) : J p l e R s m args below meth c nL g cells slots Q V L pc lv (.ref (ad g k0) :: st) := fun H locs ls hw hl =>
  va_alen C.1 C.2.1 C.2.2.2.2.2.2.2.1 hw.1 k0 4 (rf_at7 hk) (ty := .object RX4) rfl hv hd (k H locs ls hw hl)
theorem j_aald7 (C : Cx p s args m meth c cc nL own ret g) {k0 a0 : Nat} {i : Int32} (hk : kd k0 = 7) (he : i = nI a0) (hin : a0 < 6) (hd : decode cc pc = .ok (.aaload, 1)) (k : J p l e R s m args below meth c nL g cells slots Q V L (pc + 1) lv (.ref (ad g (31 * (a0 + 1))) :: st)) : J p l e R s m args below meth c nL g cells slots Q V L pc lv (.int i :: .ref (ad g k0) :: st) := by
  intro H locs ls hw hl
  subst he
  refine va_aldq C.1 C.2.1 C.2.2.2.2.2.2.2.1 hw.1 k0 4 (rf_at7 hk) (C := RX4) rfl (vp_in_nI hin (by omega)) hd ?_
  rw [nI_clamp (by omega)]
  exact k H locs ls hw hl
theorem ch_cell {g : GC} {V : Mem} {L : LMem} {k : Nat} (hk : kd k = 9) : k < 231 ∧ cellOf g V L k = .inl (ca g 1, 60, .inl (V k)) := ⟨kd_lt hk (by omega), by unfold cellOf; rw [hk]; rfl⟩
theorem ch_at {g : GC} {V : Mem} {L : LMem} {k : Nat} (hk : kd k = 9) : (TW g V L)[k]? = some (ad g k, .inl (ca g 1, 60, .inl (V k))) := (TW_at (ch_cell (g := g) (V := V) (L := L) hk).1).trans (by rw [(ch_cell hk).2])
theorem j_alenC (C : Cx p s args m meth c cc nL own ret g) {k0 : Nat} {v : Int32} (hk : kd k0 = 9) (hv : Int32.ofNat 60 = v) (hd : decode cc pc = .ok (.arraylength, 1)) (k : J p l e R s m args below meth c nL g cells slots Q V L (pc + 1) lv (.int v :: st)) : J p l e R s m args below meth c nL g cells slots Q V L pc lv (.ref (ad g k0) :: st) := fun H locs ls hw hl =>
  va_alen C.1 C.2.1 C.2.2.2.2.2.2.2.1 hw.1 k0 1 (ch_at hk) (ty := .char) rfl hv hd (k H locs ls hw hl)
theorem j_cald (C : Cx p s args m meth c cc nL own ret g) {k0 a0 : Nat} {i : Int32} (hk : kd k0 = 9) (he : i = nI a0) (hin : a0 < 60) (hd : decode cc pc = .ok (.caload, 1)) (k : J p l e R s m args below meth c nL g cells slots Q V L (pc + 1) lv (.int (V k0 a0) :: st)) : J p l e R s m args below meth c nL g cells slots Q V L pc lv (.int i :: .ref (ad g k0) :: st) := by
  intro H locs ls hw hl
  subst he
  refine va_cald C.1 C.2.1 C.2.2.2.2.2.2.2.1 hw.1 k0 1 (ch_at hk) rfl (vp_in_nI hin (by omega)) hd ?_
  rw [nI_clamp (by omega)]
  exact k H locs ls hw hl
theorem j_cast (C : Cx p s args m meth c cc nL own ret g) {k0 a0 : Nat} {i x : Int32} (hk : kd k0 = 9) (he : i = nI a0) (hin : a0 < 60) (hx : vp_nar .char x = x) (hd : decode cc pc = .ok (.castore, 1)) (k : J p l e R s m args below meth c nL g cells slots Q (mset V k0 a0 x) L (pc + 1) lv st) : J p l e R s m args below meth c nL g cells slots Q V L pc lv (.int x :: .int i :: .ref (ad g k0) :: st) := by
  intro H locs ls hw hl
  subst he
  obtain ⟨h1, h2⟩ := ch_cell (g := g) (V := V) (L := L) hk
  refine va_cast C.1 C.2.1 C.2.2.2.2.2.2.2.1 hw.1 (C.2.2.2.2.2.2.2.2.1.d V L) hw.2 k0 1 ((TW_at h1).trans (by rw [h2])) rfl (vp_in_nI hin (by omega)) hd (fun H1 locs1 a1 a2 a3 => k H1 locs1 ls ⟨?_, a3⟩ hl)
  rw [nI_clamp (by omega), hx, TW_set (V' := mset V k0 a0 x) (L' := L) h1 ((ch_cell hk).2.trans (by rw [mset_upd])) ia_other] at a1
  exact a1
theorem lg_cell {g : GC} {V : Mem} {L : LMem} {k : Nat} (hk : kd k = 19) : k < 231 ∧ cellOf g V L k = .inl (ca g 5, 1, .inr (.inl (fun i => L (i + 1)))) := ⟨kd_lt hk (by omega), by unfold cellOf; rw [hk]; rfl⟩
theorem lg_at {g : GC} {V : Mem} {L : LMem} {k : Nat} (hk : kd k = 19) : (TW g V L)[k]? = some (ad g k, .inl (ca g 5, 1, .inr (.inl (fun i => L (i + 1))))) := (TW_at (lg_cell (g := g) (V := V) (L := L) hk).1).trans (by rw [(lg_cell hk).2])
theorem j_lald (C : Cx p s args m meth c cc nL own ret g) {k0 : Nat} (hk : kd k0 = 19) (hd : decode cc pc = .ok (.laload, 1)) (k : J p l e R s m args below meth c nL g cells slots Q V L (pc + 1) lv (.long (L 1) :: st)) : J p l e R s m args below meth c nL g cells slots Q V L pc lv (.int 0 :: .ref (ad g k0) :: st) := by
  intro H locs ls hw hl
  refine va_lald C.1 C.2.1 C.2.2.2.2.2.2.2.1 hw.1 k0 5 (lg_at hk) rfl (by rw [← nI_0]; exact vp_in_nI (by omega) (by omega)) hd ?_
  exact k H locs ls hw hl
theorem k18 {P : Nat → Prop} (h : ∀ i, i < 19 → P i) : ∀ c, c < 19 → P c := h
theorem lg_other {g : GC} {V : Mem} {L : LMem} {x : Int64} : ∀ j, j < 231 → j ≠ 230 → cellOf g V (lset L 1 x) j = cellOf g V L j := by
  intro j h1 h2
  have hc : kd j < 19 := by unfold kd; (repeat' split) <;> omega
  unfold cellOf
  generalize kd j = c at hc
  have hh : c = 0 ∨ c = 1 ∨ c = 2 ∨ c = 3 ∨ c = 4 ∨ c = 5 ∨ c = 6 ∨ c = 7 ∨ c = 8 ∨ c = 9 ∨ c = 10 ∨ c = 11 ∨ c = 12 ∨ c = 13 ∨ c = 14 ∨ c = 15 ∨ c = 16 ∨ c = 17 ∨ c = 18 := by omega
  rcases hh with rfl | rfl | rfl | rfl | rfl | rfl | rfl | rfl | rfl | rfl | rfl | rfl | rfl | rfl | rfl | rfl | rfl | rfl | rfl <;> rfl
theorem h_other {g : GC} {V : Mem} {L : LMem} {x : Int64} : ∀ j, j < 231 → j ≠ 224 → cellOf g V (lset L 0 x) j = cellOf g V L j := by
  intro j h1 h2
  have hc : kd j < 20 ∧ kd j ≠ 13 := by unfold kd; (repeat' split) <;> omega
  unfold cellOf
  generalize kd j = c at hc
  have hh : c = 0 ∨ c = 1 ∨ c = 2 ∨ c = 3 ∨ c = 4 ∨ c = 5 ∨ c = 6 ∨ c = 7 ∨ c = 8 ∨ c = 9 ∨ c = 10 ∨ c = 11 ∨ c = 12 ∨ c = 19 ∨ c = 14 ∨ c = 15 ∨ c = 16 ∨ c = 17 ∨ c = 18 := by omega
  rcases hh with rfl | rfl | rfl | rfl | rfl | rfl | rfl | rfl | rfl | rfl | rfl | rfl | rfl | rfl | rfl | rfl | rfl | rfl | rfl <;> rfl
theorem j_last (C : Cx p s args m meth c cc nL own ret g) {x : Int64} (hd : decode cc pc = .ok (.lastore, 1)) (k : J p l e R s m args below meth c nL g cells slots Q V (lset L 1 x) (pc + 1) lv st) : J p l e R s m args below meth c nL g cells slots Q V L pc lv (.long x :: .int 0 :: .ref (ad g 230) :: st) := by
  intro H locs ls hw hl
  refine va_last C.1 C.2.1 C.2.2.2.2.2.2.2.1 hw.1 (C.2.2.2.2.2.2.2.2.1.d V L) hw.2 230 5 (lg_at (k := 230) rfl) rfl (by rw [← nI_0]; exact vp_in_nI (by omega) (by omega)) hd (fun H1 locs1 a1 a2 a3 => k H1 locs1 ls ⟨?_, a3⟩ hl)
  rw [TW_set (V' := V) (L' := lset L 1 x) (by omega) ?_ lg_other] at a1
  · exact a1
  · refine (lg_cell (k := 230) rfl).2.trans ?_
    congr 5
    funext i
    have h0 : Int32.toNatClampNeg 0 = 0 := by decide
    rw [h0]
    cases i with
    | zero => rfl
    | succ i => simp [lset, vp_updL]
theorem lay_X0 : ∀ w ∈ u_ws RX0 TX0 3, w ∈ TG := fun w h => have h1 := List.all_eq_true.mp (show (u_ws RX0 TX0 3).all (fun w => decide (w ∈ lw_tbl) && goodWord w) = true by decide +kernel) w h; have h2 := (Bool.and_eq_true _ _).mp h1; TG_in (of_decide_eq_true h2.1) h2.2
theorem ob_X0 {g : GC} {V : Mem} {L : LMem} {k0 : Nat} (hk : kd k0 = 6) : k0 < 231 ∧ cellOf g V L k0 = .inr (0, [.ref (ad g 218), .int (V k0 1), .int (V k0 2)]) := ⟨kd_lt hk (by omega), by unfold cellOf; rw [hk]; rfl⟩
theorem oa_X0 {g : GC} {V : Mem} {L : LMem} {k0 : Nat} (hk : kd k0 = 6) : (TW g V L)[k0]? = some (ad g k0, .inr (0, [.ref (ad g 218), .int (V k0 1), .int (V k0 2)])) := (TW_at (ob_X0 (g := g) (V := V) (L := L) hk).1).trans (by rw [(ob_X0 hk).2])
theorem jg_History_saved (C : Cx p s args m meth c cc nL own ret g) {i0 k0 : Nat} (hk : kd k0 = 6) (hq : Cond.fieldLink own i0 RX0 "saved" "[LLeaseBook$State;" ∈ TG) (hd : decode cc pc = .ok (.getfield i0, 3)) (k : J p l e R s m args below meth c nL g cells slots Q V L (pc + 3) lv (.ref (ad g 218) :: st)) : J p l e R s m args below meth c nL g cells slots Q V L pc lv (.ref (ad g k0) :: st) := fun H locs ls hw hl => va_get (T := TX0) C.1 C.2.1 C.2.2.2.2.1 lay_X0 C.2.2.2.1 C.2.2.2.2.2.2.2.1 hw.1 k0 (oa_X0 hk) rfl 0 (by decide) (C.2.2.2.2.1 _ hq) (fun _ h9 => h9) rfl hd (k H locs ls hw hl)
theorem jg_History_oldest (C : Cx p s args m meth c cc nL own ret g) {i0 k0 : Nat} (hk : kd k0 = 6) (hq : Cond.fieldLink own i0 RX0 "oldest" "I" ∈ TG) (hd : decode cc pc = .ok (.getfield i0, 3)) (k : J p l e R s m args below meth c nL g cells slots Q V L (pc + 3) lv (.int (V k0 1) :: st)) : J p l e R s m args below meth c nL g cells slots Q V L pc lv (.ref (ad g k0) :: st) := fun H locs ls hw hl => va_get (T := TX0) C.1 C.2.1 C.2.2.2.2.1 lay_X0 C.2.2.2.1 C.2.2.2.2.2.2.2.1 hw.1 k0 (oa_X0 hk) rfl 1 (by decide) (C.2.2.2.2.1 _ hq) (fun _ h9 => h9) rfl hd (k H locs ls hw hl)
theorem jp_History_oldest (C : Cx p s args m meth c cc nL own ret g) {i0 k0 : Nat} {x : Int32} (hk : kd k0 = 6) (hq : Cond.fieldLink own i0 RX0 "oldest" "I" ∈ TG) (hd : decode cc pc = .ok (.putfield i0, 3)) (k : J p l e R s m args below meth c nL g cells slots Q (mset V k0 1 x) L (pc + 3) lv st) : J p l e R s m args below meth c nL g cells slots Q V L pc lv (.int x :: .ref (ad g k0) :: st) := by
  intro H locs ls hw hl
  refine va_put (T := TX0) (ty := .int) C.1 C.2.1 C.2.2.2.2.1 lay_X0 tyX0 tyX0_ok nmX0 C.2.2.2.1 C.2.2.2.2.2.2.2.1 hw.1 (C.2.2.2.2.2.2.2.2.1.d V L) hw.2 k0 (oa_X0 hk) rfl 1 (by decide) (C.2.2.2.2.1 _ hq) (fun _ h9 => h9) rfl (by decide +kernel) rfl rfl (Nat.le_of_ble_eq_true rfl) hd (fun H1 locs1 a1 a2 a3 => k H1 locs1 ls ⟨?_, a3⟩ hl)
  rw [TW_set (V' := mset V k0 1 x) (L' := L) (ob_X0 (g := g) (V := V) (L := L) hk).1 ?_ ia_other] at a1
  · exact a1
  · refine (ob_X0 hk).2.trans ?_
    simp [mset]
theorem jg_History_size (C : Cx p s args m meth c cc nL own ret g) {i0 k0 : Nat} (hk : kd k0 = 6) (hq : Cond.fieldLink own i0 RX0 "size" "I" ∈ TG) (hd : decode cc pc = .ok (.getfield i0, 3)) (k : J p l e R s m args below meth c nL g cells slots Q V L (pc + 3) lv (.int (V k0 2) :: st)) : J p l e R s m args below meth c nL g cells slots Q V L pc lv (.ref (ad g k0) :: st) := fun H locs ls hw hl => va_get (T := TX0) C.1 C.2.1 C.2.2.2.2.1 lay_X0 C.2.2.2.1 C.2.2.2.2.2.2.2.1 hw.1 k0 (oa_X0 hk) rfl 2 (by decide) (C.2.2.2.2.1 _ hq) (fun _ h9 => h9) rfl hd (k H locs ls hw hl)
theorem jp_History_size (C : Cx p s args m meth c cc nL own ret g) {i0 k0 : Nat} {x : Int32} (hk : kd k0 = 6) (hq : Cond.fieldLink own i0 RX0 "size" "I" ∈ TG) (hd : decode cc pc = .ok (.putfield i0, 3)) (k : J p l e R s m args below meth c nL g cells slots Q (mset V k0 2 x) L (pc + 3) lv st) : J p l e R s m args below meth c nL g cells slots Q V L pc lv (.int x :: .ref (ad g k0) :: st) := by
  intro H locs ls hw hl
  refine va_put (T := TX0) (ty := .int) C.1 C.2.1 C.2.2.2.2.1 lay_X0 tyX0 tyX0_ok nmX0 C.2.2.2.1 C.2.2.2.2.2.2.2.1 hw.1 (C.2.2.2.2.2.2.2.2.1.d V L) hw.2 k0 (oa_X0 hk) rfl 2 (by decide) (C.2.2.2.2.1 _ hq) (fun _ h9 => h9) rfl (by decide +kernel) rfl rfl (Nat.le_of_ble_eq_true rfl) hd (fun H1 locs1 a1 a2 a3 => k H1 locs1 ls ⟨?_, a3⟩ hl)
  rw [TW_set (V' := mset V k0 2 x) (L' := L) (ob_X0 (g := g) (V := V) (L := L) hk).1 ?_ ia_other] at a1
  · exact a1
  · refine (ob_X0 hk).2.trans ?_
    simp [mset]
theorem lay_X1 : ∀ w ∈ u_ws RX1 TX1 2, w ∈ TG := fun w h => have h1 := List.all_eq_true.mp (show (u_ws RX1 TX1 2).all (fun w => decide (w ∈ lw_tbl) && goodWord w) = true by decide +kernel) w h; have h2 := (Bool.and_eq_true _ _).mp h1; TG_in (of_decide_eq_true h2.1) h2.2
theorem ob_X1 {g : GC} {V : Mem} {L : LMem} {k0 : Nat} (hk : kd k0 = 8) : k0 < 231 ∧ cellOf g V L k0 = .inr (1, [.ref (ad g 220), .int (V k0 1)]) := ⟨kd_lt hk (by omega), by unfold cellOf; rw [hk]; rfl⟩
theorem oa_X1 {g : GC} {V : Mem} {L : LMem} {k0 : Nat} (hk : kd k0 = 8) : (TW g V L)[k0]? = some (ad g k0, .inr (1, [.ref (ad g 220), .int (V k0 1)])) := (TW_at (ob_X1 (g := g) (V := V) (L := L) hk).1).trans (by rw [(ob_X1 hk).2])
theorem jg_InputText_codes (C : Cx p s args m meth c cc nL own ret g) {i0 k0 : Nat} (hk : kd k0 = 8) (hq : Cond.fieldLink own i0 RX1 "codes" "[C" ∈ TG) (hd : decode cc pc = .ok (.getfield i0, 3)) (k : J p l e R s m args below meth c nL g cells slots Q V L (pc + 3) lv (.ref (ad g 220) :: st)) : J p l e R s m args below meth c nL g cells slots Q V L pc lv (.ref (ad g k0) :: st) := fun H locs ls hw hl => va_get (T := TX1) C.1 C.2.1 C.2.2.2.2.1 lay_X1 C.2.2.2.1 C.2.2.2.2.2.2.2.1 hw.1 k0 (oa_X1 hk) rfl 0 (by decide) (C.2.2.2.2.1 _ hq) (fun _ h9 => h9) rfl hd (k H locs ls hw hl)
theorem jg_InputText_length (C : Cx p s args m meth c cc nL own ret g) {i0 k0 : Nat} (hk : kd k0 = 8) (hq : Cond.fieldLink own i0 RX1 "length" "I" ∈ TG) (hd : decode cc pc = .ok (.getfield i0, 3)) (k : J p l e R s m args below meth c nL g cells slots Q V L (pc + 3) lv (.int (V k0 1) :: st)) : J p l e R s m args below meth c nL g cells slots Q V L pc lv (.ref (ad g k0) :: st) := fun H locs ls hw hl => va_get (T := TX1) C.1 C.2.1 C.2.2.2.2.1 lay_X1 C.2.2.2.1 C.2.2.2.2.2.2.2.1 hw.1 k0 (oa_X1 hk) rfl 1 (by decide) (C.2.2.2.2.1 _ hq) (fun _ h9 => h9) rfl hd (k H locs ls hw hl)
theorem jp_InputText_length (C : Cx p s args m meth c cc nL own ret g) {i0 k0 : Nat} {x : Int32} (hk : kd k0 = 8) (hq : Cond.fieldLink own i0 RX1 "length" "I" ∈ TG) (hd : decode cc pc = .ok (.putfield i0, 3)) (k : J p l e R s m args below meth c nL g cells slots Q (mset V k0 1 x) L (pc + 3) lv st) : J p l e R s m args below meth c nL g cells slots Q V L pc lv (.int x :: .ref (ad g k0) :: st) := by
  intro H locs ls hw hl
  refine va_put (T := TX1) (ty := .int) C.1 C.2.1 C.2.2.2.2.1 lay_X1 tyX1 tyX1_ok nmX1 C.2.2.2.1 C.2.2.2.2.2.2.2.1 hw.1 (C.2.2.2.2.2.2.2.2.1.d V L) hw.2 k0 (oa_X1 hk) rfl 1 (by decide) (C.2.2.2.2.1 _ hq) (fun _ h9 => h9) rfl (by decide +kernel) rfl rfl (Nat.le_of_ble_eq_true rfl) hd (fun H1 locs1 a1 a2 a3 => k H1 locs1 ls ⟨?_, a3⟩ hl)
  rw [TW_set (V' := mset V k0 1 x) (L' := L) (ob_X1 (g := g) (V := V) (L := L) hk).1 ?_ ia_other] at a1
  · exact a1
  · refine (ob_X1 hk).2.trans ?_
    simp [mset]
theorem lay_X2 : ∀ w ∈ u_ws RX2 TX2 6, w ∈ TG := fun w h => have h1 := List.all_eq_true.mp (show (u_ws RX2 TX2 6).all (fun w => decide (w ∈ lw_tbl) && goodWord w) = true by decide +kernel) w h; have h2 := (Bool.and_eq_true _ _).mp h1; TG_in (of_decide_eq_true h2.1) h2.2
theorem ob_X2 {g : GC} {V : Mem} {L : LMem} {k0 : Nat} (hk : kd k0 = 3) : k0 < 231 ∧ cellOf g V L k0 = .inr (2, [.int (V k0 0), .int (V k0 1), .int (V k0 2), .int (V k0 3), .int (V k0 4), .ref (ad g (k0 + 8))]) := ⟨kd_lt hk (by omega), by unfold cellOf; rw [hk]; rfl⟩
theorem oa_X2 {g : GC} {V : Mem} {L : LMem} {k0 : Nat} (hk : kd k0 = 3) : (TW g V L)[k0]? = some (ad g k0, .inr (2, [.int (V k0 0), .int (V k0 1), .int (V k0 2), .int (V k0 3), .int (V k0 4), .ref (ad g (k0 + 8))])) := (TW_at (ob_X2 (g := g) (V := V) (L := L) hk).1).trans (by rw [(ob_X2 hk).2])
theorem jg_Lease_payment (C : Cx p s args m meth c cc nL own ret g) {i0 k0 : Nat} (hk : kd k0 = 3) (hq : Cond.fieldLink own i0 RX2 "payment" "I" ∈ TG) (hd : decode cc pc = .ok (.getfield i0, 3)) (k : J p l e R s m args below meth c nL g cells slots Q V L (pc + 3) lv (.int (V k0 0) :: st)) : J p l e R s m args below meth c nL g cells slots Q V L pc lv (.ref (ad g k0) :: st) := fun H locs ls hw hl => va_get (T := TX2) C.1 C.2.1 C.2.2.2.2.1 lay_X2 C.2.2.2.1 C.2.2.2.2.2.2.2.1 hw.1 k0 (oa_X2 hk) rfl 0 (by decide) (C.2.2.2.2.1 _ hq) (fun _ h9 => h9) rfl hd (k H locs ls hw hl)
theorem jp_Lease_payment (C : Cx p s args m meth c cc nL own ret g) {i0 k0 : Nat} {x : Int32} (hk : kd k0 = 3) (hq : Cond.fieldLink own i0 RX2 "payment" "I" ∈ TG) (hd : decode cc pc = .ok (.putfield i0, 3)) (k : J p l e R s m args below meth c nL g cells slots Q (mset V k0 0 x) L (pc + 3) lv st) : J p l e R s m args below meth c nL g cells slots Q V L pc lv (.int x :: .ref (ad g k0) :: st) := by
  intro H locs ls hw hl
  refine va_put (T := TX2) (ty := .int) C.1 C.2.1 C.2.2.2.2.1 lay_X2 tyX2 tyX2_ok nmX2 C.2.2.2.1 C.2.2.2.2.2.2.2.1 hw.1 (C.2.2.2.2.2.2.2.2.1.d V L) hw.2 k0 (oa_X2 hk) rfl 0 (by decide) (C.2.2.2.2.1 _ hq) (fun _ h9 => h9) rfl (by decide +kernel) rfl rfl (Nat.le_of_ble_eq_true rfl) hd (fun H1 locs1 a1 a2 a3 => k H1 locs1 ls ⟨?_, a3⟩ hl)
  rw [TW_set (V' := mset V k0 0 x) (L' := L) (ob_X2 (g := g) (V := V) (L := L) hk).1 ?_ ia_other] at a1
  · exact a1
  · refine (ob_X2 hk).2.trans ?_
    simp [mset]
theorem jg_Lease_periods (C : Cx p s args m meth c cc nL own ret g) {i0 k0 : Nat} (hk : kd k0 = 3) (hq : Cond.fieldLink own i0 RX2 "periods" "I" ∈ TG) (hd : decode cc pc = .ok (.getfield i0, 3)) (k : J p l e R s m args below meth c nL g cells slots Q V L (pc + 3) lv (.int (V k0 1) :: st)) : J p l e R s m args below meth c nL g cells slots Q V L pc lv (.ref (ad g k0) :: st) := fun H locs ls hw hl => va_get (T := TX2) C.1 C.2.1 C.2.2.2.2.1 lay_X2 C.2.2.2.1 C.2.2.2.2.2.2.2.1 hw.1 k0 (oa_X2 hk) rfl 1 (by decide) (C.2.2.2.2.1 _ hq) (fun _ h9 => h9) rfl hd (k H locs ls hw hl)
theorem jp_Lease_periods (C : Cx p s args m meth c cc nL own ret g) {i0 k0 : Nat} {x : Int32} (hk : kd k0 = 3) (hq : Cond.fieldLink own i0 RX2 "periods" "I" ∈ TG) (hd : decode cc pc = .ok (.putfield i0, 3)) (k : J p l e R s m args below meth c nL g cells slots Q (mset V k0 1 x) L (pc + 3) lv st) : J p l e R s m args below meth c nL g cells slots Q V L pc lv (.int x :: .ref (ad g k0) :: st) := by
  intro H locs ls hw hl
  refine va_put (T := TX2) (ty := .int) C.1 C.2.1 C.2.2.2.2.1 lay_X2 tyX2 tyX2_ok nmX2 C.2.2.2.1 C.2.2.2.2.2.2.2.1 hw.1 (C.2.2.2.2.2.2.2.2.1.d V L) hw.2 k0 (oa_X2 hk) rfl 1 (by decide) (C.2.2.2.2.1 _ hq) (fun _ h9 => h9) rfl (by decide +kernel) rfl rfl (Nat.le_of_ble_eq_true rfl) hd (fun H1 locs1 a1 a2 a3 => k H1 locs1 ls ⟨?_, a3⟩ hl)
  rw [TW_set (V' := mset V k0 1 x) (L' := L) (ob_X2 (g := g) (V := V) (L := L) hk).1 ?_ ia_other] at a1
  · exact a1
  · refine (ob_X2 hk).2.trans ?_
    simp [mset]
theorem jg_Lease_rate (C : Cx p s args m meth c cc nL own ret g) {i0 k0 : Nat} (hk : kd k0 = 3) (hq : Cond.fieldLink own i0 RX2 "rate" "I" ∈ TG) (hd : decode cc pc = .ok (.getfield i0, 3)) (k : J p l e R s m args below meth c nL g cells slots Q V L (pc + 3) lv (.int (V k0 2) :: st)) : J p l e R s m args below meth c nL g cells slots Q V L pc lv (.ref (ad g k0) :: st) := fun H locs ls hw hl => va_get (T := TX2) C.1 C.2.1 C.2.2.2.2.1 lay_X2 C.2.2.2.1 C.2.2.2.2.2.2.2.1 hw.1 k0 (oa_X2 hk) rfl 2 (by decide) (C.2.2.2.2.1 _ hq) (fun _ h9 => h9) rfl hd (k H locs ls hw hl)
theorem jp_Lease_rate (C : Cx p s args m meth c cc nL own ret g) {i0 k0 : Nat} {x : Int32} (hk : kd k0 = 3) (hq : Cond.fieldLink own i0 RX2 "rate" "I" ∈ TG) (hd : decode cc pc = .ok (.putfield i0, 3)) (k : J p l e R s m args below meth c nL g cells slots Q (mset V k0 2 x) L (pc + 3) lv st) : J p l e R s m args below meth c nL g cells slots Q V L pc lv (.int x :: .ref (ad g k0) :: st) := by
  intro H locs ls hw hl
  refine va_put (T := TX2) (ty := .int) C.1 C.2.1 C.2.2.2.2.1 lay_X2 tyX2 tyX2_ok nmX2 C.2.2.2.1 C.2.2.2.2.2.2.2.1 hw.1 (C.2.2.2.2.2.2.2.2.1.d V L) hw.2 k0 (oa_X2 hk) rfl 2 (by decide) (C.2.2.2.2.1 _ hq) (fun _ h9 => h9) rfl (by decide +kernel) rfl rfl (Nat.le_of_ble_eq_true rfl) hd (fun H1 locs1 a1 a2 a3 => k H1 locs1 ls ⟨?_, a3⟩ hl)
  rw [TW_set (V' := mset V k0 2 x) (L' := L) (ob_X2 (g := g) (V := V) (L := L) hk).1 ?_ ia_other] at a1
  · exact a1
  · refine (ob_X2 hk).2.trans ?_
    simp [mset]
theorem jg_Lease_liability (C : Cx p s args m meth c cc nL own ret g) {i0 k0 : Nat} (hk : kd k0 = 3) (hq : Cond.fieldLink own i0 RX2 "liability" "I" ∈ TG) (hd : decode cc pc = .ok (.getfield i0, 3)) (k : J p l e R s m args below meth c nL g cells slots Q V L (pc + 3) lv (.int (V k0 3) :: st)) : J p l e R s m args below meth c nL g cells slots Q V L pc lv (.ref (ad g k0) :: st) := fun H locs ls hw hl => va_get (T := TX2) C.1 C.2.1 C.2.2.2.2.1 lay_X2 C.2.2.2.1 C.2.2.2.2.2.2.2.1 hw.1 k0 (oa_X2 hk) rfl 3 (by decide) (C.2.2.2.2.1 _ hq) (fun _ h9 => h9) rfl hd (k H locs ls hw hl)
theorem jp_Lease_liability (C : Cx p s args m meth c cc nL own ret g) {i0 k0 : Nat} {x : Int32} (hk : kd k0 = 3) (hq : Cond.fieldLink own i0 RX2 "liability" "I" ∈ TG) (hd : decode cc pc = .ok (.putfield i0, 3)) (k : J p l e R s m args below meth c nL g cells slots Q (mset V k0 3 x) L (pc + 3) lv st) : J p l e R s m args below meth c nL g cells slots Q V L pc lv (.int x :: .ref (ad g k0) :: st) := by
  intro H locs ls hw hl
  refine va_put (T := TX2) (ty := .int) C.1 C.2.1 C.2.2.2.2.1 lay_X2 tyX2 tyX2_ok nmX2 C.2.2.2.1 C.2.2.2.2.2.2.2.1 hw.1 (C.2.2.2.2.2.2.2.2.1.d V L) hw.2 k0 (oa_X2 hk) rfl 3 (by decide) (C.2.2.2.2.1 _ hq) (fun _ h9 => h9) rfl (by decide +kernel) rfl rfl (Nat.le_of_ble_eq_true rfl) hd (fun H1 locs1 a1 a2 a3 => k H1 locs1 ls ⟨?_, a3⟩ hl)
  rw [TW_set (V' := mset V k0 3 x) (L' := L) (ob_X2 (g := g) (V := V) (L := L) hk).1 ?_ ia_other] at a1
  · exact a1
  · refine (ob_X2 hk).2.trans ?_
    simp [mset]
theorem jg_Lease_asset (C : Cx p s args m meth c cc nL own ret g) {i0 k0 : Nat} (hk : kd k0 = 3) (hq : Cond.fieldLink own i0 RX2 "asset" "I" ∈ TG) (hd : decode cc pc = .ok (.getfield i0, 3)) (k : J p l e R s m args below meth c nL g cells slots Q V L (pc + 3) lv (.int (V k0 4) :: st)) : J p l e R s m args below meth c nL g cells slots Q V L pc lv (.ref (ad g k0) :: st) := fun H locs ls hw hl => va_get (T := TX2) C.1 C.2.1 C.2.2.2.2.1 lay_X2 C.2.2.2.1 C.2.2.2.2.2.2.2.1 hw.1 k0 (oa_X2 hk) rfl 4 (by decide) (C.2.2.2.2.1 _ hq) (fun _ h9 => h9) rfl hd (k H locs ls hw hl)
theorem jp_Lease_asset (C : Cx p s args m meth c cc nL own ret g) {i0 k0 : Nat} {x : Int32} (hk : kd k0 = 3) (hq : Cond.fieldLink own i0 RX2 "asset" "I" ∈ TG) (hd : decode cc pc = .ok (.putfield i0, 3)) (k : J p l e R s m args below meth c nL g cells slots Q (mset V k0 4 x) L (pc + 3) lv st) : J p l e R s m args below meth c nL g cells slots Q V L pc lv (.int x :: .ref (ad g k0) :: st) := by
  intro H locs ls hw hl
  refine va_put (T := TX2) (ty := .int) C.1 C.2.1 C.2.2.2.2.1 lay_X2 tyX2 tyX2_ok nmX2 C.2.2.2.1 C.2.2.2.2.2.2.2.1 hw.1 (C.2.2.2.2.2.2.2.2.1.d V L) hw.2 k0 (oa_X2 hk) rfl 4 (by decide) (C.2.2.2.2.1 _ hq) (fun _ h9 => h9) rfl (by decide +kernel) rfl rfl (Nat.le_of_ble_eq_true rfl) hd (fun H1 locs1 a1 a2 a3 => k H1 locs1 ls ⟨?_, a3⟩ hl)
  rw [TW_set (V' := mset V k0 4 x) (L' := L) (ob_X2 (g := g) (V := V) (L := L) hk).1 ?_ ia_other] at a1
  · exact a1
  · refine (ob_X2 hk).2.trans ?_
    simp [mset]
theorem jg_Lease_sums (C : Cx p s args m meth c cc nL own ret g) {i0 k0 : Nat} (hk : kd k0 = 3) (hq : Cond.fieldLink own i0 RX2 "sums" "[I" ∈ TG) (hd : decode cc pc = .ok (.getfield i0, 3)) (k : J p l e R s m args below meth c nL g cells slots Q V L (pc + 3) lv (.ref (ad g (k0 + 8)) :: st)) : J p l e R s m args below meth c nL g cells slots Q V L pc lv (.ref (ad g k0) :: st) := fun H locs ls hw hl => va_get (T := TX2) C.1 C.2.1 C.2.2.2.2.1 lay_X2 C.2.2.2.1 C.2.2.2.2.2.2.2.1 hw.1 k0 (oa_X2 hk) rfl 5 (by decide) (C.2.2.2.2.1 _ hq) (fun _ h9 => h9) rfl hd (k H locs ls hw hl)
theorem lay_X3 : ∀ w ∈ u_ws RX3 TX3 3, w ∈ TG := fun w h => have h1 := List.all_eq_true.mp (show (u_ws RX3 TX3 3).all (fun w => decide (w ∈ lw_tbl) && goodWord w) = true by decide +kernel) w h; have h2 := (Bool.and_eq_true _ _).mp h1; TG_in (of_decide_eq_true h2.1) h2.2
theorem ob_X3 {g : GC} {V : Mem} {L : LMem} {k0 : Nat} (hk : kd k0 = 10) : k0 < 231 ∧ cellOf g V L k0 = .inr (3, [.ref (ad g 222), .int (V k0 1), .int (V k0 2)]) := ⟨kd_lt hk (by omega), by unfold cellOf; rw [hk]; rfl⟩
theorem oa_X3 {g : GC} {V : Mem} {L : LMem} {k0 : Nat} (hk : kd k0 = 10) : (TW g V L)[k0]? = some (ad g k0, .inr (3, [.ref (ad g 222), .int (V k0 1), .int (V k0 2)])) := (TW_at (ob_X3 (g := g) (V := V) (L := L) hk).1).trans (by rw [(ob_X3 hk).2])
theorem jg_LeaseReader_numbers (C : Cx p s args m meth c cc nL own ret g) {i0 k0 : Nat} (hk : kd k0 = 10) (hq : Cond.fieldLink own i0 RX3 "numbers" "[I" ∈ TG) (hd : decode cc pc = .ok (.getfield i0, 3)) (k : J p l e R s m args below meth c nL g cells slots Q V L (pc + 3) lv (.ref (ad g 222) :: st)) : J p l e R s m args below meth c nL g cells slots Q V L pc lv (.ref (ad g k0) :: st) := fun H locs ls hw hl => va_get (T := TX3) C.1 C.2.1 C.2.2.2.2.1 lay_X3 C.2.2.2.1 C.2.2.2.2.2.2.2.1 hw.1 k0 (oa_X3 hk) rfl 0 (by decide) (C.2.2.2.2.1 _ hq) (fun _ h9 => h9) rfl hd (k H locs ls hw hl)
theorem jg_LeaseReader_part (C : Cx p s args m meth c cc nL own ret g) {i0 k0 : Nat} (hk : kd k0 = 10) (hq : Cond.fieldLink own i0 RX3 "part" "I" ∈ TG) (hd : decode cc pc = .ok (.getfield i0, 3)) (k : J p l e R s m args below meth c nL g cells slots Q V L (pc + 3) lv (.int (V k0 1) :: st)) : J p l e R s m args below meth c nL g cells slots Q V L pc lv (.ref (ad g k0) :: st) := fun H locs ls hw hl => va_get (T := TX3) C.1 C.2.1 C.2.2.2.2.1 lay_X3 C.2.2.2.1 C.2.2.2.2.2.2.2.1 hw.1 k0 (oa_X3 hk) rfl 1 (by decide) (C.2.2.2.2.1 _ hq) (fun _ h9 => h9) rfl hd (k H locs ls hw hl)
theorem jp_LeaseReader_part (C : Cx p s args m meth c cc nL own ret g) {i0 k0 : Nat} {x : Int32} (hk : kd k0 = 10) (hq : Cond.fieldLink own i0 RX3 "part" "I" ∈ TG) (hd : decode cc pc = .ok (.putfield i0, 3)) (k : J p l e R s m args below meth c nL g cells slots Q (mset V k0 1 x) L (pc + 3) lv st) : J p l e R s m args below meth c nL g cells slots Q V L pc lv (.int x :: .ref (ad g k0) :: st) := by
  intro H locs ls hw hl
  refine va_put (T := TX3) (ty := .int) C.1 C.2.1 C.2.2.2.2.1 lay_X3 tyX3 tyX3_ok nmX3 C.2.2.2.1 C.2.2.2.2.2.2.2.1 hw.1 (C.2.2.2.2.2.2.2.2.1.d V L) hw.2 k0 (oa_X3 hk) rfl 1 (by decide) (C.2.2.2.2.1 _ hq) (fun _ h9 => h9) rfl (by decide +kernel) rfl rfl (Nat.le_of_ble_eq_true rfl) hd (fun H1 locs1 a1 a2 a3 => k H1 locs1 ls ⟨?_, a3⟩ hl)
  rw [TW_set (V' := mset V k0 1 x) (L' := L) (ob_X3 (g := g) (V := V) (L := L) hk).1 ?_ ia_other] at a1
  · exact a1
  · refine (ob_X3 hk).2.trans ?_
    simp [mset]
theorem jg_LeaseReader_digits (C : Cx p s args m meth c cc nL own ret g) {i0 k0 : Nat} (hk : kd k0 = 10) (hq : Cond.fieldLink own i0 RX3 "digits" "I" ∈ TG) (hd : decode cc pc = .ok (.getfield i0, 3)) (k : J p l e R s m args below meth c nL g cells slots Q V L (pc + 3) lv (.int (V k0 2) :: st)) : J p l e R s m args below meth c nL g cells slots Q V L pc lv (.ref (ad g k0) :: st) := fun H locs ls hw hl => va_get (T := TX3) C.1 C.2.1 C.2.2.2.2.1 lay_X3 C.2.2.2.1 C.2.2.2.2.2.2.2.1 hw.1 k0 (oa_X3 hk) rfl 2 (by decide) (C.2.2.2.2.1 _ hq) (fun _ h9 => h9) rfl hd (k H locs ls hw hl)
theorem jp_LeaseReader_digits (C : Cx p s args m meth c cc nL own ret g) {i0 k0 : Nat} {x : Int32} (hk : kd k0 = 10) (hq : Cond.fieldLink own i0 RX3 "digits" "I" ∈ TG) (hd : decode cc pc = .ok (.putfield i0, 3)) (k : J p l e R s m args below meth c nL g cells slots Q (mset V k0 2 x) L (pc + 3) lv st) : J p l e R s m args below meth c nL g cells slots Q V L pc lv (.int x :: .ref (ad g k0) :: st) := by
  intro H locs ls hw hl
  refine va_put (T := TX3) (ty := .int) C.1 C.2.1 C.2.2.2.2.1 lay_X3 tyX3 tyX3_ok nmX3 C.2.2.2.1 C.2.2.2.2.2.2.2.1 hw.1 (C.2.2.2.2.2.2.2.2.1.d V L) hw.2 k0 (oa_X3 hk) rfl 2 (by decide) (C.2.2.2.2.1 _ hq) (fun _ h9 => h9) rfl (by decide +kernel) rfl rfl (Nat.le_of_ble_eq_true rfl) hd (fun H1 locs1 a1 a2 a3 => k H1 locs1 ls ⟨?_, a3⟩ hl)
  rw [TW_set (V' := mset V k0 2 x) (L' := L) (ob_X3 (g := g) (V := V) (L := L) hk).1 ?_ ia_other] at a1
  · exact a1
  · refine (ob_X3 hk).2.trans ?_
    simp [mset]
theorem lay_X4 : ∀ w ∈ u_ws RX4 TX4 5, w ∈ TG := fun w h => have h1 := List.all_eq_true.mp (show (u_ws RX4 TX4 5).all (fun w => decide (w ∈ lw_tbl) && goodWord w) = true by decide +kernel) w h; have h2 := (Bool.and_eq_true _ _).mp h1; TG_in (of_decide_eq_true h2.1) h2.2
theorem ob_X4 {g : GC} {V : Mem} {L : LMem} {k0 : Nat} (hk : kd k0 = 0) : k0 < 231 ∧ cellOf g V L k0 = .inr (4, [.ref (ad g (k0 + 1)), .ref (ad g (k0 + 2)), .int (V k0 2), .int (V k0 3), .int (V k0 4)]) := ⟨kd_lt hk (by omega), by unfold cellOf; rw [hk]; rfl⟩
theorem oa_X4 {g : GC} {V : Mem} {L : LMem} {k0 : Nat} (hk : kd k0 = 0) : (TW g V L)[k0]? = some (ad g k0, .inr (4, [.ref (ad g (k0 + 1)), .ref (ad g (k0 + 2)), .int (V k0 2), .int (V k0 3), .int (V k0 4)])) := (TW_at (ob_X4 (g := g) (V := V) (L := L) hk).1).trans (by rw [(ob_X4 hk).2])
theorem jg_State_leases (C : Cx p s args m meth c cc nL own ret g) {i0 k0 : Nat} (hk : kd k0 = 0) (hq : Cond.fieldLink own i0 RX4 "leases" "[LLeaseBook$Lease;" ∈ TG) (hd : decode cc pc = .ok (.getfield i0, 3)) (k : J p l e R s m args below meth c nL g cells slots Q V L (pc + 3) lv (.ref (ad g (k0 + 1)) :: st)) : J p l e R s m args below meth c nL g cells slots Q V L pc lv (.ref (ad g k0) :: st) := fun H locs ls hw hl => va_get (T := TX4) C.1 C.2.1 C.2.2.2.2.1 lay_X4 C.2.2.2.1 C.2.2.2.2.2.2.2.1 hw.1 k0 (oa_X4 hk) rfl 0 (by decide) (C.2.2.2.2.1 _ hq) (fun _ h9 => h9) rfl hd (k H locs ls hw hl)
theorem jg_State_subleases (C : Cx p s args m meth c cc nL own ret g) {i0 k0 : Nat} (hk : kd k0 = 0) (hq : Cond.fieldLink own i0 RX4 "subleases" "[LLeaseBook$Sublease;" ∈ TG) (hd : decode cc pc = .ok (.getfield i0, 3)) (k : J p l e R s m args below meth c nL g cells slots Q V L (pc + 3) lv (.ref (ad g (k0 + 2)) :: st)) : J p l e R s m args below meth c nL g cells slots Q V L pc lv (.ref (ad g k0) :: st) := fun H locs ls hw hl => va_get (T := TX4) C.1 C.2.1 C.2.2.2.2.1 lay_X4 C.2.2.2.1 C.2.2.2.2.2.2.2.1 hw.1 k0 (oa_X4 hk) rfl 1 (by decide) (C.2.2.2.2.1 _ hq) (fun _ h9 => h9) rfl hd (k H locs ls hw hl)
theorem jg_State_leaseCount (C : Cx p s args m meth c cc nL own ret g) {i0 k0 : Nat} (hk : kd k0 = 0) (hq : Cond.fieldLink own i0 RX4 "leaseCount" "I" ∈ TG) (hd : decode cc pc = .ok (.getfield i0, 3)) (k : J p l e R s m args below meth c nL g cells slots Q V L (pc + 3) lv (.int (V k0 2) :: st)) : J p l e R s m args below meth c nL g cells slots Q V L pc lv (.ref (ad g k0) :: st) := fun H locs ls hw hl => va_get (T := TX4) C.1 C.2.1 C.2.2.2.2.1 lay_X4 C.2.2.2.1 C.2.2.2.2.2.2.2.1 hw.1 k0 (oa_X4 hk) rfl 2 (by decide) (C.2.2.2.2.1 _ hq) (fun _ h9 => h9) rfl hd (k H locs ls hw hl)
theorem jp_State_leaseCount (C : Cx p s args m meth c cc nL own ret g) {i0 k0 : Nat} {x : Int32} (hk : kd k0 = 0) (hq : Cond.fieldLink own i0 RX4 "leaseCount" "I" ∈ TG) (hd : decode cc pc = .ok (.putfield i0, 3)) (k : J p l e R s m args below meth c nL g cells slots Q (mset V k0 2 x) L (pc + 3) lv st) : J p l e R s m args below meth c nL g cells slots Q V L pc lv (.int x :: .ref (ad g k0) :: st) := by
  intro H locs ls hw hl
  refine va_put (T := TX4) (ty := .int) C.1 C.2.1 C.2.2.2.2.1 lay_X4 tyX4 tyX4_ok nmX4 C.2.2.2.1 C.2.2.2.2.2.2.2.1 hw.1 (C.2.2.2.2.2.2.2.2.1.d V L) hw.2 k0 (oa_X4 hk) rfl 2 (by decide) (C.2.2.2.2.1 _ hq) (fun _ h9 => h9) rfl (by decide +kernel) rfl rfl (Nat.le_of_ble_eq_true rfl) hd (fun H1 locs1 a1 a2 a3 => k H1 locs1 ls ⟨?_, a3⟩ hl)
  rw [TW_set (V' := mset V k0 2 x) (L' := L) (ob_X4 (g := g) (V := V) (L := L) hk).1 ?_ ia_other] at a1
  · exact a1
  · refine (ob_X4 hk).2.trans ?_
    simp [mset]
theorem jg_State_subleaseCount (C : Cx p s args m meth c cc nL own ret g) {i0 k0 : Nat} (hk : kd k0 = 0) (hq : Cond.fieldLink own i0 RX4 "subleaseCount" "I" ∈ TG) (hd : decode cc pc = .ok (.getfield i0, 3)) (k : J p l e R s m args below meth c nL g cells slots Q V L (pc + 3) lv (.int (V k0 3) :: st)) : J p l e R s m args below meth c nL g cells slots Q V L pc lv (.ref (ad g k0) :: st) := fun H locs ls hw hl => va_get (T := TX4) C.1 C.2.1 C.2.2.2.2.1 lay_X4 C.2.2.2.1 C.2.2.2.2.2.2.2.1 hw.1 k0 (oa_X4 hk) rfl 3 (by decide) (C.2.2.2.2.1 _ hq) (fun _ h9 => h9) rfl hd (k H locs ls hw hl)
theorem jp_State_subleaseCount (C : Cx p s args m meth c cc nL own ret g) {i0 k0 : Nat} {x : Int32} (hk : kd k0 = 0) (hq : Cond.fieldLink own i0 RX4 "subleaseCount" "I" ∈ TG) (hd : decode cc pc = .ok (.putfield i0, 3)) (k : J p l e R s m args below meth c nL g cells slots Q (mset V k0 3 x) L (pc + 3) lv st) : J p l e R s m args below meth c nL g cells slots Q V L pc lv (.int x :: .ref (ad g k0) :: st) := by
  intro H locs ls hw hl
  refine va_put (T := TX4) (ty := .int) C.1 C.2.1 C.2.2.2.2.1 lay_X4 tyX4 tyX4_ok nmX4 C.2.2.2.1 C.2.2.2.2.2.2.2.1 hw.1 (C.2.2.2.2.2.2.2.2.1.d V L) hw.2 k0 (oa_X4 hk) rfl 3 (by decide) (C.2.2.2.2.1 _ hq) (fun _ h9 => h9) rfl (by decide +kernel) rfl rfl (Nat.le_of_ble_eq_true rfl) hd (fun H1 locs1 a1 a2 a3 => k H1 locs1 ls ⟨?_, a3⟩ hl)
  rw [TW_set (V' := mset V k0 3 x) (L' := L) (ob_X4 (g := g) (V := V) (L := L) hk).1 ?_ ia_other] at a1
  · exact a1
  · refine (ob_X4 hk).2.trans ?_
    simp [mset]
theorem jg_State_period (C : Cx p s args m meth c cc nL own ret g) {i0 k0 : Nat} (hk : kd k0 = 0) (hq : Cond.fieldLink own i0 RX4 "period" "I" ∈ TG) (hd : decode cc pc = .ok (.getfield i0, 3)) (k : J p l e R s m args below meth c nL g cells slots Q V L (pc + 3) lv (.int (V k0 4) :: st)) : J p l e R s m args below meth c nL g cells slots Q V L pc lv (.ref (ad g k0) :: st) := fun H locs ls hw hl => va_get (T := TX4) C.1 C.2.1 C.2.2.2.2.1 lay_X4 C.2.2.2.1 C.2.2.2.2.2.2.2.1 hw.1 k0 (oa_X4 hk) rfl 4 (by decide) (C.2.2.2.2.1 _ hq) (fun _ h9 => h9) rfl hd (k H locs ls hw hl)
theorem jp_State_period (C : Cx p s args m meth c cc nL own ret g) {i0 k0 : Nat} {x : Int32} (hk : kd k0 = 0) (hq : Cond.fieldLink own i0 RX4 "period" "I" ∈ TG) (hd : decode cc pc = .ok (.putfield i0, 3)) (k : J p l e R s m args below meth c nL g cells slots Q (mset V k0 4 x) L (pc + 3) lv st) : J p l e R s m args below meth c nL g cells slots Q V L pc lv (.int x :: .ref (ad g k0) :: st) := by
  intro H locs ls hw hl
  refine va_put (T := TX4) (ty := .int) C.1 C.2.1 C.2.2.2.2.1 lay_X4 tyX4 tyX4_ok nmX4 C.2.2.2.1 C.2.2.2.2.2.2.2.1 hw.1 (C.2.2.2.2.2.2.2.2.1.d V L) hw.2 k0 (oa_X4 hk) rfl 4 (by decide) (C.2.2.2.2.1 _ hq) (fun _ h9 => h9) rfl (by decide +kernel) rfl rfl (Nat.le_of_ble_eq_true rfl) hd (fun H1 locs1 a1 a2 a3 => k H1 locs1 ls ⟨?_, a3⟩ hl)
  rw [TW_set (V' := mset V k0 4 x) (L' := L) (ob_X4 (g := g) (V := V) (L := L) hk).1 ?_ ia_other] at a1
  · exact a1
  · refine (ob_X4 hk).2.trans ?_
    simp [mset]
theorem lay_X5 : ∀ w ∈ u_ws RX5 TX5 6, w ∈ TG := fun w h => have h1 := List.all_eq_true.mp (show (u_ws RX5 TX5 6).all (fun w => decide (w ∈ lw_tbl) && goodWord w) = true by decide +kernel) w h; have h2 := (Bool.and_eq_true _ _).mp h1; TG_in (of_decide_eq_true h2.1) h2.2
theorem ob_X5 {g : GC} {V : Mem} {L : LMem} {k0 : Nat} (hk : kd k0 = 5) : k0 < 231 ∧ cellOf g V L k0 = .inr (5, [.int (V k0 0), .int (V k0 1), .int (V k0 2), .int (V k0 3), .int (V k0 4), .int (V k0 5)]) := ⟨kd_lt hk (by omega), by unfold cellOf; rw [hk]; rfl⟩
theorem oa_X5 {g : GC} {V : Mem} {L : LMem} {k0 : Nat} (hk : kd k0 = 5) : (TW g V L)[k0]? = some (ad g k0, .inr (5, [.int (V k0 0), .int (V k0 1), .int (V k0 2), .int (V k0 3), .int (V k0 4), .int (V k0 5)])) := (TW_at (ob_X5 (g := g) (V := V) (L := L) hk).1).trans (by rw [(ob_X5 hk).2])
theorem jg_Sublease_head (C : Cx p s args m meth c cc nL own ret g) {i0 k0 : Nat} (hk : kd k0 = 5) (hq : Cond.fieldLink own i0 RX5 "head" "I" ∈ TG) (hd : decode cc pc = .ok (.getfield i0, 3)) (k : J p l e R s m args below meth c nL g cells slots Q V L (pc + 3) lv (.int (V k0 0) :: st)) : J p l e R s m args below meth c nL g cells slots Q V L pc lv (.ref (ad g k0) :: st) := fun H locs ls hw hl => va_get (T := TX5) C.1 C.2.1 C.2.2.2.2.1 lay_X5 C.2.2.2.1 C.2.2.2.2.2.2.2.1 hw.1 k0 (oa_X5 hk) rfl 0 (by decide) (C.2.2.2.2.1 _ hq) (fun _ h9 => h9) rfl hd (k H locs ls hw hl)
theorem jp_Sublease_head (C : Cx p s args m meth c cc nL own ret g) {i0 k0 : Nat} {x : Int32} (hk : kd k0 = 5) (hq : Cond.fieldLink own i0 RX5 "head" "I" ∈ TG) (hd : decode cc pc = .ok (.putfield i0, 3)) (k : J p l e R s m args below meth c nL g cells slots Q (mset V k0 0 x) L (pc + 3) lv st) : J p l e R s m args below meth c nL g cells slots Q V L pc lv (.int x :: .ref (ad g k0) :: st) := by
  intro H locs ls hw hl
  refine va_put (T := TX5) (ty := .int) C.1 C.2.1 C.2.2.2.2.1 lay_X5 tyX5 tyX5_ok nmX5 C.2.2.2.1 C.2.2.2.2.2.2.2.1 hw.1 (C.2.2.2.2.2.2.2.2.1.d V L) hw.2 k0 (oa_X5 hk) rfl 0 (by decide) (C.2.2.2.2.1 _ hq) (fun _ h9 => h9) rfl (by decide +kernel) rfl rfl (Nat.le_of_ble_eq_true rfl) hd (fun H1 locs1 a1 a2 a3 => k H1 locs1 ls ⟨?_, a3⟩ hl)
  rw [TW_set (V' := mset V k0 0 x) (L' := L) (ob_X5 (g := g) (V := V) (L := L) hk).1 ?_ ia_other] at a1
  · exact a1
  · refine (ob_X5 hk).2.trans ?_
    simp [mset]
theorem jg_Sublease_thousandths (C : Cx p s args m meth c cc nL own ret g) {i0 k0 : Nat} (hk : kd k0 = 5) (hq : Cond.fieldLink own i0 RX5 "thousandths" "I" ∈ TG) (hd : decode cc pc = .ok (.getfield i0, 3)) (k : J p l e R s m args below meth c nL g cells slots Q V L (pc + 3) lv (.int (V k0 1) :: st)) : J p l e R s m args below meth c nL g cells slots Q V L pc lv (.ref (ad g k0) :: st) := fun H locs ls hw hl => va_get (T := TX5) C.1 C.2.1 C.2.2.2.2.1 lay_X5 C.2.2.2.1 C.2.2.2.2.2.2.2.1 hw.1 k0 (oa_X5 hk) rfl 1 (by decide) (C.2.2.2.2.1 _ hq) (fun _ h9 => h9) rfl hd (k H locs ls hw hl)
theorem jp_Sublease_thousandths (C : Cx p s args m meth c cc nL own ret g) {i0 k0 : Nat} {x : Int32} (hk : kd k0 = 5) (hq : Cond.fieldLink own i0 RX5 "thousandths" "I" ∈ TG) (hd : decode cc pc = .ok (.putfield i0, 3)) (k : J p l e R s m args below meth c nL g cells slots Q (mset V k0 1 x) L (pc + 3) lv st) : J p l e R s m args below meth c nL g cells slots Q V L pc lv (.int x :: .ref (ad g k0) :: st) := by
  intro H locs ls hw hl
  refine va_put (T := TX5) (ty := .int) C.1 C.2.1 C.2.2.2.2.1 lay_X5 tyX5 tyX5_ok nmX5 C.2.2.2.1 C.2.2.2.2.2.2.2.1 hw.1 (C.2.2.2.2.2.2.2.2.1.d V L) hw.2 k0 (oa_X5 hk) rfl 1 (by decide) (C.2.2.2.2.1 _ hq) (fun _ h9 => h9) rfl (by decide +kernel) rfl rfl (Nat.le_of_ble_eq_true rfl) hd (fun H1 locs1 a1 a2 a3 => k H1 locs1 ls ⟨?_, a3⟩ hl)
  rw [TW_set (V' := mset V k0 1 x) (L' := L) (ob_X5 (g := g) (V := V) (L := L) hk).1 ?_ ia_other] at a1
  · exact a1
  · refine (ob_X5 hk).2.trans ?_
    simp [mset]
theorem jg_Sublease_receipt (C : Cx p s args m meth c cc nL own ret g) {i0 k0 : Nat} (hk : kd k0 = 5) (hq : Cond.fieldLink own i0 RX5 "receipt" "I" ∈ TG) (hd : decode cc pc = .ok (.getfield i0, 3)) (k : J p l e R s m args below meth c nL g cells slots Q V L (pc + 3) lv (.int (V k0 2) :: st)) : J p l e R s m args below meth c nL g cells slots Q V L pc lv (.ref (ad g k0) :: st) := fun H locs ls hw hl => va_get (T := TX5) C.1 C.2.1 C.2.2.2.2.1 lay_X5 C.2.2.2.1 C.2.2.2.2.2.2.2.1 hw.1 k0 (oa_X5 hk) rfl 2 (by decide) (C.2.2.2.2.1 _ hq) (fun _ h9 => h9) rfl hd (k H locs ls hw hl)
theorem jp_Sublease_receipt (C : Cx p s args m meth c cc nL own ret g) {i0 k0 : Nat} {x : Int32} (hk : kd k0 = 5) (hq : Cond.fieldLink own i0 RX5 "receipt" "I" ∈ TG) (hd : decode cc pc = .ok (.putfield i0, 3)) (k : J p l e R s m args below meth c nL g cells slots Q (mset V k0 2 x) L (pc + 3) lv st) : J p l e R s m args below meth c nL g cells slots Q V L pc lv (.int x :: .ref (ad g k0) :: st) := by
  intro H locs ls hw hl
  refine va_put (T := TX5) (ty := .int) C.1 C.2.1 C.2.2.2.2.1 lay_X5 tyX5 tyX5_ok nmX5 C.2.2.2.1 C.2.2.2.2.2.2.2.1 hw.1 (C.2.2.2.2.2.2.2.2.1.d V L) hw.2 k0 (oa_X5 hk) rfl 2 (by decide) (C.2.2.2.2.1 _ hq) (fun _ h9 => h9) rfl (by decide +kernel) rfl rfl (Nat.le_of_ble_eq_true rfl) hd (fun H1 locs1 a1 a2 a3 => k H1 locs1 ls ⟨?_, a3⟩ hl)
  rw [TW_set (V' := mset V k0 2 x) (L' := L) (ob_X5 (g := g) (V := V) (L := L) hk).1 ?_ ia_other] at a1
  · exact a1
  · refine (ob_X5 hk).2.trans ?_
    simp [mset]
theorem jg_Sublease_periods (C : Cx p s args m meth c cc nL own ret g) {i0 k0 : Nat} (hk : kd k0 = 5) (hq : Cond.fieldLink own i0 RX5 "periods" "I" ∈ TG) (hd : decode cc pc = .ok (.getfield i0, 3)) (k : J p l e R s m args below meth c nL g cells slots Q V L (pc + 3) lv (.int (V k0 3) :: st)) : J p l e R s m args below meth c nL g cells slots Q V L pc lv (.ref (ad g k0) :: st) := fun H locs ls hw hl => va_get (T := TX5) C.1 C.2.1 C.2.2.2.2.1 lay_X5 C.2.2.2.1 C.2.2.2.2.2.2.2.1 hw.1 k0 (oa_X5 hk) rfl 3 (by decide) (C.2.2.2.2.1 _ hq) (fun _ h9 => h9) rfl hd (k H locs ls hw hl)
theorem jp_Sublease_periods (C : Cx p s args m meth c cc nL own ret g) {i0 k0 : Nat} {x : Int32} (hk : kd k0 = 5) (hq : Cond.fieldLink own i0 RX5 "periods" "I" ∈ TG) (hd : decode cc pc = .ok (.putfield i0, 3)) (k : J p l e R s m args below meth c nL g cells slots Q (mset V k0 3 x) L (pc + 3) lv st) : J p l e R s m args below meth c nL g cells slots Q V L pc lv (.int x :: .ref (ad g k0) :: st) := by
  intro H locs ls hw hl
  refine va_put (T := TX5) (ty := .int) C.1 C.2.1 C.2.2.2.2.1 lay_X5 tyX5 tyX5_ok nmX5 C.2.2.2.1 C.2.2.2.2.2.2.2.1 hw.1 (C.2.2.2.2.2.2.2.2.1.d V L) hw.2 k0 (oa_X5 hk) rfl 3 (by decide) (C.2.2.2.2.1 _ hq) (fun _ h9 => h9) rfl (by decide +kernel) rfl rfl (Nat.le_of_ble_eq_true rfl) hd (fun H1 locs1 a1 a2 a3 => k H1 locs1 ls ⟨?_, a3⟩ hl)
  rw [TW_set (V' := mset V k0 3 x) (L' := L) (ob_X5 (g := g) (V := V) (L := L) hk).1 ?_ ia_other] at a1
  · exact a1
  · refine (ob_X5 hk).2.trans ?_
    simp [mset]
theorem jg_Sublease_rate (C : Cx p s args m meth c cc nL own ret g) {i0 k0 : Nat} (hk : kd k0 = 5) (hq : Cond.fieldLink own i0 RX5 "rate" "I" ∈ TG) (hd : decode cc pc = .ok (.getfield i0, 3)) (k : J p l e R s m args below meth c nL g cells slots Q V L (pc + 3) lv (.int (V k0 4) :: st)) : J p l e R s m args below meth c nL g cells slots Q V L pc lv (.ref (ad g k0) :: st) := fun H locs ls hw hl => va_get (T := TX5) C.1 C.2.1 C.2.2.2.2.1 lay_X5 C.2.2.2.1 C.2.2.2.2.2.2.2.1 hw.1 k0 (oa_X5 hk) rfl 4 (by decide) (C.2.2.2.2.1 _ hq) (fun _ h9 => h9) rfl hd (k H locs ls hw hl)
theorem jp_Sublease_rate (C : Cx p s args m meth c cc nL own ret g) {i0 k0 : Nat} {x : Int32} (hk : kd k0 = 5) (hq : Cond.fieldLink own i0 RX5 "rate" "I" ∈ TG) (hd : decode cc pc = .ok (.putfield i0, 3)) (k : J p l e R s m args below meth c nL g cells slots Q (mset V k0 4 x) L (pc + 3) lv st) : J p l e R s m args below meth c nL g cells slots Q V L pc lv (.int x :: .ref (ad g k0) :: st) := by
  intro H locs ls hw hl
  refine va_put (T := TX5) (ty := .int) C.1 C.2.1 C.2.2.2.2.1 lay_X5 tyX5 tyX5_ok nmX5 C.2.2.2.1 C.2.2.2.2.2.2.2.1 hw.1 (C.2.2.2.2.2.2.2.2.1.d V L) hw.2 k0 (oa_X5 hk) rfl 4 (by decide) (C.2.2.2.2.1 _ hq) (fun _ h9 => h9) rfl (by decide +kernel) rfl rfl (Nat.le_of_ble_eq_true rfl) hd (fun H1 locs1 a1 a2 a3 => k H1 locs1 ls ⟨?_, a3⟩ hl)
  rw [TW_set (V' := mset V k0 4 x) (L' := L) (ob_X5 (g := g) (V := V) (L := L) hk).1 ?_ ia_other] at a1
  · exact a1
  · refine (ob_X5 hk).2.trans ?_
    simp [mset]
theorem jg_Sublease_receivable (C : Cx p s args m meth c cc nL own ret g) {i0 k0 : Nat} (hk : kd k0 = 5) (hq : Cond.fieldLink own i0 RX5 "receivable" "I" ∈ TG) (hd : decode cc pc = .ok (.getfield i0, 3)) (k : J p l e R s m args below meth c nL g cells slots Q V L (pc + 3) lv (.int (V k0 5) :: st)) : J p l e R s m args below meth c nL g cells slots Q V L pc lv (.ref (ad g k0) :: st) := fun H locs ls hw hl => va_get (T := TX5) C.1 C.2.1 C.2.2.2.2.1 lay_X5 C.2.2.2.1 C.2.2.2.2.2.2.2.1 hw.1 k0 (oa_X5 hk) rfl 5 (by decide) (C.2.2.2.2.1 _ hq) (fun _ h9 => h9) rfl hd (k H locs ls hw hl)
theorem jp_Sublease_receivable (C : Cx p s args m meth c cc nL own ret g) {i0 k0 : Nat} {x : Int32} (hk : kd k0 = 5) (hq : Cond.fieldLink own i0 RX5 "receivable" "I" ∈ TG) (hd : decode cc pc = .ok (.putfield i0, 3)) (k : J p l e R s m args below meth c nL g cells slots Q (mset V k0 5 x) L (pc + 3) lv st) : J p l e R s m args below meth c nL g cells slots Q V L pc lv (.int x :: .ref (ad g k0) :: st) := by
  intro H locs ls hw hl
  refine va_put (T := TX5) (ty := .int) C.1 C.2.1 C.2.2.2.2.1 lay_X5 tyX5 tyX5_ok nmX5 C.2.2.2.1 C.2.2.2.2.2.2.2.1 hw.1 (C.2.2.2.2.2.2.2.2.1.d V L) hw.2 k0 (oa_X5 hk) rfl 5 (by decide) (C.2.2.2.2.1 _ hq) (fun _ h9 => h9) rfl (by decide +kernel) rfl rfl (Nat.le_of_ble_eq_true rfl) hd (fun H1 locs1 a1 a2 a3 => k H1 locs1 ls ⟨?_, a3⟩ hl)
  rw [TW_set (V' := mset V k0 5 x) (L' := L) (ob_X5 (g := g) (V := V) (L := L) hk).1 ?_ ia_other] at a1
  · exact a1
  · refine (ob_X5 hk).2.trans ?_
    simp [mset]
theorem lay_X6 : ∀ w ∈ u_ws RX6 TX6 4, w ∈ TG := fun w h => have h1 := List.all_eq_true.mp (show (u_ws RX6 TX6 4).all (fun w => decide (w ∈ lw_tbl) && goodWord w) = true by decide +kernel) w h; have h2 := (Bool.and_eq_true _ _).mp h1; TG_in (of_decide_eq_true h2.1) h2.2
theorem ob_X6 {g : GC} {V : Mem} {L : LMem} {k0 : Nat} (hk : kd k0 = 12) : k0 < 231 ∧ cellOf g V L k0 = .inr (6, [.ref (ad g 0), .ref (ad g 217), .ref (ad g 219), .ref (ad g 221)]) := ⟨kd_lt hk (by omega), by unfold cellOf; rw [hk]; rfl⟩
theorem oa_X6 {g : GC} {V : Mem} {L : LMem} {k0 : Nat} (hk : kd k0 = 12) : (TW g V L)[k0]? = some (ad g k0, .inr (6, [.ref (ad g 0), .ref (ad g 217), .ref (ad g 219), .ref (ad g 221)])) := (TW_at (ob_X6 (g := g) (V := V) (L := L) hk).1).trans (by rw [(ob_X6 hk).2])
theorem jg_LeaseBook_now (C : Cx p s args m meth c cc nL own ret g) {i0 k0 : Nat} (hk : kd k0 = 12) (hq : Cond.fieldLink own i0 RX6 "now" "LLeaseBook$State;" ∈ TG) (hd : decode cc pc = .ok (.getfield i0, 3)) (k : J p l e R s m args below meth c nL g cells slots Q V L (pc + 3) lv (.ref (ad g 0) :: st)) : J p l e R s m args below meth c nL g cells slots Q V L pc lv (.ref (ad g k0) :: st) := fun H locs ls hw hl => va_get (T := TX6) C.1 C.2.1 C.2.2.2.2.1 lay_X6 C.2.2.2.1 C.2.2.2.2.2.2.2.1 hw.1 k0 (oa_X6 hk) rfl 0 (by decide) (C.2.2.2.2.1 _ hq) (fun _ h9 => h9) rfl hd (k H locs ls hw hl)
theorem jg_LeaseBook_history (C : Cx p s args m meth c cc nL own ret g) {i0 k0 : Nat} (hk : kd k0 = 12) (hq : Cond.fieldLink own i0 RX6 "history" "LLeaseBook$History;" ∈ TG) (hd : decode cc pc = .ok (.getfield i0, 3)) (k : J p l e R s m args below meth c nL g cells slots Q V L (pc + 3) lv (.ref (ad g 217) :: st)) : J p l e R s m args below meth c nL g cells slots Q V L pc lv (.ref (ad g k0) :: st) := fun H locs ls hw hl => va_get (T := TX6) C.1 C.2.1 C.2.2.2.2.1 lay_X6 C.2.2.2.1 C.2.2.2.2.2.2.2.1 hw.1 k0 (oa_X6 hk) rfl 1 (by decide) (C.2.2.2.2.1 _ hq) (fun _ h9 => h9) rfl hd (k H locs ls hw hl)
theorem jg_LeaseBook_text (C : Cx p s args m meth c cc nL own ret g) {i0 k0 : Nat} (hk : kd k0 = 12) (hq : Cond.fieldLink own i0 RX6 "text" "LLeaseBook$InputText;" ∈ TG) (hd : decode cc pc = .ok (.getfield i0, 3)) (k : J p l e R s m args below meth c nL g cells slots Q V L (pc + 3) lv (.ref (ad g 219) :: st)) : J p l e R s m args below meth c nL g cells slots Q V L pc lv (.ref (ad g k0) :: st) := fun H locs ls hw hl => va_get (T := TX6) C.1 C.2.1 C.2.2.2.2.1 lay_X6 C.2.2.2.1 C.2.2.2.2.2.2.2.1 hw.1 k0 (oa_X6 hk) rfl 2 (by decide) (C.2.2.2.2.1 _ hq) (fun _ h9 => h9) rfl hd (k H locs ls hw hl)
theorem jg_LeaseBook_reader (C : Cx p s args m meth c cc nL own ret g) {i0 k0 : Nat} (hk : kd k0 = 12) (hq : Cond.fieldLink own i0 RX6 "reader" "LLeaseBook$LeaseReader;" ∈ TG) (hd : decode cc pc = .ok (.getfield i0, 3)) (k : J p l e R s m args below meth c nL g cells slots Q V L (pc + 3) lv (.ref (ad g 221) :: st)) : J p l e R s m args below meth c nL g cells slots Q V L pc lv (.ref (ad g k0) :: st) := fun H locs ls hw hl => va_get (T := TX6) C.1 C.2.1 C.2.2.2.2.1 lay_X6 C.2.2.2.1 C.2.2.2.2.2.2.2.1 hw.1 k0 (oa_X6 hk) rfl 3 (by decide) (C.2.2.2.2.1 _ hq) (fun _ h9 => h9) rfl hd (k H locs ls hw hl)
theorem lay_X7 : ∀ w ∈ u_ws RX7 TX7 11, w ∈ TG := fun w h => have h1 := List.all_eq_true.mp (show (u_ws RX7 TX7 11).all (fun w => decide (w ∈ lw_tbl) && goodWord w) = true by decide +kernel) w h; have h2 := (Bool.and_eq_true _ _).mp h1; TG_in (of_decide_eq_true h2.1) h2.2
theorem ob_X7 {g : GC} {V : Mem} {L : LMem} {k0 : Nat} (hk : kd k0 = 13) : k0 < 231 ∧ cellOf g V L k0 = .inr (7, [.ref (ad g 225), .ref (ad g 226), .ref (ad g 227), .int (V k0 3), .ref (ad g 228), .int (V k0 5), .int (V k0 6), .int (V k0 7), .int (V k0 8), .ref (ad g 229), .long (L 0)]) := ⟨kd_lt hk (by omega), by unfold cellOf; rw [hk]; rfl⟩
theorem oa_X7 {g : GC} {V : Mem} {L : LMem} {k0 : Nat} (hk : kd k0 = 13) : (TW g V L)[k0]? = some (ad g k0, .inr (7, [.ref (ad g 225), .ref (ad g 226), .ref (ad g 227), .int (V k0 3), .ref (ad g 228), .int (V k0 5), .int (V k0 6), .int (V k0 7), .int (V k0 8), .ref (ad g 229), .long (L 0)])) := (TW_at (ob_X7 (g := g) (V := V) (L := L) hk).1).trans (by rw [(ob_X7 hk).2])
theorem jg_LeaseBookModel_z (C : Cx p s args m meth c cc nL own ret g) {i0 k0 : Nat} (hk : kd k0 = 13) (hq : Cond.fieldLink own i0 RX7 "z" "[I" ∈ TG) (hd : decode cc pc = .ok (.getfield i0, 3)) (k : J p l e R s m args below meth c nL g cells slots Q V L (pc + 3) lv (.ref (ad g 225) :: st)) : J p l e R s m args below meth c nL g cells slots Q V L pc lv (.ref (ad g k0) :: st) := fun H locs ls hw hl => va_get (T := TX7) C.1 C.2.1 C.2.2.2.2.1 lay_X7 C.2.2.2.1 C.2.2.2.2.2.2.2.1 hw.1 k0 (oa_X7 hk) rfl 0 (by decide) (C.2.2.2.2.1 _ hq) (fun _ h9 => h9) rfl hd (k H locs ls hw hl)
theorem jg_LeaseBookModel_rows (C : Cx p s args m meth c cc nL own ret g) {i0 k0 : Nat} (hk : kd k0 = 13) (hq : Cond.fieldLink own i0 RX7 "rows" "[I" ∈ TG) (hd : decode cc pc = .ok (.getfield i0, 3)) (k : J p l e R s m args below meth c nL g cells slots Q V L (pc + 3) lv (.ref (ad g 226) :: st)) : J p l e R s m args below meth c nL g cells slots Q V L pc lv (.ref (ad g k0) :: st) := fun H locs ls hw hl => va_get (T := TX7) C.1 C.2.1 C.2.2.2.2.1 lay_X7 C.2.2.2.1 C.2.2.2.2.2.2.2.1 hw.1 k0 (oa_X7 hk) rfl 1 (by decide) (C.2.2.2.2.1 _ hq) (fun _ h9 => h9) rfl hd (k H locs ls hw hl)
theorem jg_LeaseBookModel_aside (C : Cx p s args m meth c cc nL own ret g) {i0 k0 : Nat} (hk : kd k0 = 13) (hq : Cond.fieldLink own i0 RX7 "aside" "[I" ∈ TG) (hd : decode cc pc = .ok (.getfield i0, 3)) (k : J p l e R s m args below meth c nL g cells slots Q V L (pc + 3) lv (.ref (ad g 227) :: st)) : J p l e R s m args below meth c nL g cells slots Q V L pc lv (.ref (ad g k0) :: st) := fun H locs ls hw hl => va_get (T := TX7) C.1 C.2.1 C.2.2.2.2.1 lay_X7 C.2.2.2.1 C.2.2.2.2.2.2.2.1 hw.1 k0 (oa_X7 hk) rfl 2 (by decide) (C.2.2.2.2.1 _ hq) (fun _ h9 => h9) rfl hd (k H locs ls hw hl)
theorem jg_LeaseBookModel_savedMany (C : Cx p s args m meth c cc nL own ret g) {i0 k0 : Nat} (hk : kd k0 = 13) (hq : Cond.fieldLink own i0 RX7 "savedMany" "I" ∈ TG) (hd : decode cc pc = .ok (.getfield i0, 3)) (k : J p l e R s m args below meth c nL g cells slots Q V L (pc + 3) lv (.int (V k0 3) :: st)) : J p l e R s m args below meth c nL g cells slots Q V L pc lv (.ref (ad g k0) :: st) := fun H locs ls hw hl => va_get (T := TX7) C.1 C.2.1 C.2.2.2.2.1 lay_X7 C.2.2.2.1 C.2.2.2.2.2.2.2.1 hw.1 k0 (oa_X7 hk) rfl 3 (by decide) (C.2.2.2.2.1 _ hq) (fun _ h9 => h9) rfl hd (k H locs ls hw hl)
theorem jp_LeaseBookModel_savedMany (C : Cx p s args m meth c cc nL own ret g) {i0 k0 : Nat} {x : Int32} (hk : kd k0 = 13) (hq : Cond.fieldLink own i0 RX7 "savedMany" "I" ∈ TG) (hd : decode cc pc = .ok (.putfield i0, 3)) (k : J p l e R s m args below meth c nL g cells slots Q (mset V k0 3 x) L (pc + 3) lv st) : J p l e R s m args below meth c nL g cells slots Q V L pc lv (.int x :: .ref (ad g k0) :: st) := by
  intro H locs ls hw hl
  refine va_put (T := TX7) (ty := .int) C.1 C.2.1 C.2.2.2.2.1 lay_X7 tyX7 tyX7_ok nmX7 C.2.2.2.1 C.2.2.2.2.2.2.2.1 hw.1 (C.2.2.2.2.2.2.2.2.1.d V L) hw.2 k0 (oa_X7 hk) rfl 3 (by decide) (C.2.2.2.2.1 _ hq) (fun _ h9 => h9) rfl (by decide +kernel) rfl rfl (Nat.le_of_ble_eq_true rfl) hd (fun H1 locs1 a1 a2 a3 => k H1 locs1 ls ⟨?_, a3⟩ hl)
  rw [TW_set (V' := mset V k0 3 x) (L' := L) (ob_X7 (g := g) (V := V) (L := L) hk).1 ?_ ia_other] at a1
  · exact a1
  · refine (ob_X7 hk).2.trans ?_
    simp [mset]
theorem jg_LeaseBookModel_buffer (C : Cx p s args m meth c cc nL own ret g) {i0 k0 : Nat} (hk : kd k0 = 13) (hq : Cond.fieldLink own i0 RX7 "buffer" "[I" ∈ TG) (hd : decode cc pc = .ok (.getfield i0, 3)) (k : J p l e R s m args below meth c nL g cells slots Q V L (pc + 3) lv (.ref (ad g 228) :: st)) : J p l e R s m args below meth c nL g cells slots Q V L pc lv (.ref (ad g k0) :: st) := fun H locs ls hw hl => va_get (T := TX7) C.1 C.2.1 C.2.2.2.2.1 lay_X7 C.2.2.2.1 C.2.2.2.2.2.2.2.1 hw.1 k0 (oa_X7 hk) rfl 4 (by decide) (C.2.2.2.2.1 _ hq) (fun _ h9 => h9) rfl hd (k H locs ls hw hl)
theorem jg_LeaseBookModel_bufferMany (C : Cx p s args m meth c cc nL own ret g) {i0 k0 : Nat} (hk : kd k0 = 13) (hq : Cond.fieldLink own i0 RX7 "bufferMany" "I" ∈ TG) (hd : decode cc pc = .ok (.getfield i0, 3)) (k : J p l e R s m args below meth c nL g cells slots Q V L (pc + 3) lv (.int (V k0 5) :: st)) : J p l e R s m args below meth c nL g cells slots Q V L pc lv (.ref (ad g k0) :: st) := fun H locs ls hw hl => va_get (T := TX7) C.1 C.2.1 C.2.2.2.2.1 lay_X7 C.2.2.2.1 C.2.2.2.2.2.2.2.1 hw.1 k0 (oa_X7 hk) rfl 5 (by decide) (C.2.2.2.2.1 _ hq) (fun _ h9 => h9) rfl hd (k H locs ls hw hl)
theorem jp_LeaseBookModel_bufferMany (C : Cx p s args m meth c cc nL own ret g) {i0 k0 : Nat} {x : Int32} (hk : kd k0 = 13) (hq : Cond.fieldLink own i0 RX7 "bufferMany" "I" ∈ TG) (hd : decode cc pc = .ok (.putfield i0, 3)) (k : J p l e R s m args below meth c nL g cells slots Q (mset V k0 5 x) L (pc + 3) lv st) : J p l e R s m args below meth c nL g cells slots Q V L pc lv (.int x :: .ref (ad g k0) :: st) := by
  intro H locs ls hw hl
  refine va_put (T := TX7) (ty := .int) C.1 C.2.1 C.2.2.2.2.1 lay_X7 tyX7 tyX7_ok nmX7 C.2.2.2.1 C.2.2.2.2.2.2.2.1 hw.1 (C.2.2.2.2.2.2.2.2.1.d V L) hw.2 k0 (oa_X7 hk) rfl 5 (by decide) (C.2.2.2.2.1 _ hq) (fun _ h9 => h9) rfl (by decide +kernel) rfl rfl (Nat.le_of_ble_eq_true rfl) hd (fun H1 locs1 a1 a2 a3 => k H1 locs1 ls ⟨?_, a3⟩ hl)
  rw [TW_set (V' := mset V k0 5 x) (L' := L) (ob_X7 (g := g) (V := V) (L := L) hk).1 ?_ ia_other] at a1
  · exact a1
  · refine (ob_X7 hk).2.trans ?_
    simp [mset]
theorem jg_LeaseBookModel_thrown (C : Cx p s args m meth c cc nL own ret g) {i0 k0 : Nat} (hk : kd k0 = 13) (hq : Cond.fieldLink own i0 RX7 "thrown" "I" ∈ TG) (hd : decode cc pc = .ok (.getfield i0, 3)) (k : J p l e R s m args below meth c nL g cells slots Q V L (pc + 3) lv (.int (V k0 6) :: st)) : J p l e R s m args below meth c nL g cells slots Q V L pc lv (.ref (ad g k0) :: st) := fun H locs ls hw hl => va_get (T := TX7) C.1 C.2.1 C.2.2.2.2.1 lay_X7 C.2.2.2.1 C.2.2.2.2.2.2.2.1 hw.1 k0 (oa_X7 hk) rfl 6 (by decide) (C.2.2.2.2.1 _ hq) (fun _ h9 => h9) rfl hd (k H locs ls hw hl)
theorem jp_LeaseBookModel_thrown (C : Cx p s args m meth c cc nL own ret g) {i0 k0 : Nat} {x : Int32} (hk : kd k0 = 13) (hq : Cond.fieldLink own i0 RX7 "thrown" "I" ∈ TG) (hd : decode cc pc = .ok (.putfield i0, 3)) (k : J p l e R s m args below meth c nL g cells slots Q (mset V k0 6 x) L (pc + 3) lv st) : J p l e R s m args below meth c nL g cells slots Q V L pc lv (.int x :: .ref (ad g k0) :: st) := by
  intro H locs ls hw hl
  refine va_put (T := TX7) (ty := .int) C.1 C.2.1 C.2.2.2.2.1 lay_X7 tyX7 tyX7_ok nmX7 C.2.2.2.1 C.2.2.2.2.2.2.2.1 hw.1 (C.2.2.2.2.2.2.2.2.1.d V L) hw.2 k0 (oa_X7 hk) rfl 6 (by decide) (C.2.2.2.2.1 _ hq) (fun _ h9 => h9) rfl (by decide +kernel) rfl rfl (Nat.le_of_ble_eq_true rfl) hd (fun H1 locs1 a1 a2 a3 => k H1 locs1 ls ⟨?_, a3⟩ hl)
  rw [TW_set (V' := mset V k0 6 x) (L' := L) (ob_X7 (g := g) (V := V) (L := L) hk).1 ?_ ia_other] at a1
  · exact a1
  · refine (ob_X7 hk).2.trans ?_
    simp [mset]
theorem jg_LeaseBookModel_place (C : Cx p s args m meth c cc nL own ret g) {i0 k0 : Nat} (hk : kd k0 = 13) (hq : Cond.fieldLink own i0 RX7 "place" "I" ∈ TG) (hd : decode cc pc = .ok (.getfield i0, 3)) (k : J p l e R s m args below meth c nL g cells slots Q V L (pc + 3) lv (.int (V k0 7) :: st)) : J p l e R s m args below meth c nL g cells slots Q V L pc lv (.ref (ad g k0) :: st) := fun H locs ls hw hl => va_get (T := TX7) C.1 C.2.1 C.2.2.2.2.1 lay_X7 C.2.2.2.1 C.2.2.2.2.2.2.2.1 hw.1 k0 (oa_X7 hk) rfl 7 (by decide) (C.2.2.2.2.1 _ hq) (fun _ h9 => h9) rfl hd (k H locs ls hw hl)
theorem jp_LeaseBookModel_place (C : Cx p s args m meth c cc nL own ret g) {i0 k0 : Nat} {x : Int32} (hk : kd k0 = 13) (hq : Cond.fieldLink own i0 RX7 "place" "I" ∈ TG) (hd : decode cc pc = .ok (.putfield i0, 3)) (k : J p l e R s m args below meth c nL g cells slots Q (mset V k0 7 x) L (pc + 3) lv st) : J p l e R s m args below meth c nL g cells slots Q V L pc lv (.int x :: .ref (ad g k0) :: st) := by
  intro H locs ls hw hl
  refine va_put (T := TX7) (ty := .int) C.1 C.2.1 C.2.2.2.2.1 lay_X7 tyX7 tyX7_ok nmX7 C.2.2.2.1 C.2.2.2.2.2.2.2.1 hw.1 (C.2.2.2.2.2.2.2.2.1.d V L) hw.2 k0 (oa_X7 hk) rfl 7 (by decide) (C.2.2.2.2.1 _ hq) (fun _ h9 => h9) rfl (by decide +kernel) rfl rfl (Nat.le_of_ble_eq_true rfl) hd (fun H1 locs1 a1 a2 a3 => k H1 locs1 ls ⟨?_, a3⟩ hl)
  rw [TW_set (V' := mset V k0 7 x) (L' := L) (ob_X7 (g := g) (V := V) (L := L) hk).1 ?_ ia_other] at a1
  · exact a1
  · refine (ob_X7 hk).2.trans ?_
    simp [mset]
theorem jg_LeaseBookModel_many (C : Cx p s args m meth c cc nL own ret g) {i0 k0 : Nat} (hk : kd k0 = 13) (hq : Cond.fieldLink own i0 RX7 "many" "I" ∈ TG) (hd : decode cc pc = .ok (.getfield i0, 3)) (k : J p l e R s m args below meth c nL g cells slots Q V L (pc + 3) lv (.int (V k0 8) :: st)) : J p l e R s m args below meth c nL g cells slots Q V L pc lv (.ref (ad g k0) :: st) := fun H locs ls hw hl => va_get (T := TX7) C.1 C.2.1 C.2.2.2.2.1 lay_X7 C.2.2.2.1 C.2.2.2.2.2.2.2.1 hw.1 k0 (oa_X7 hk) rfl 8 (by decide) (C.2.2.2.2.1 _ hq) (fun _ h9 => h9) rfl hd (k H locs ls hw hl)
theorem jp_LeaseBookModel_many (C : Cx p s args m meth c cc nL own ret g) {i0 k0 : Nat} {x : Int32} (hk : kd k0 = 13) (hq : Cond.fieldLink own i0 RX7 "many" "I" ∈ TG) (hd : decode cc pc = .ok (.putfield i0, 3)) (k : J p l e R s m args below meth c nL g cells slots Q (mset V k0 8 x) L (pc + 3) lv st) : J p l e R s m args below meth c nL g cells slots Q V L pc lv (.int x :: .ref (ad g k0) :: st) := by
  intro H locs ls hw hl
  refine va_put (T := TX7) (ty := .int) C.1 C.2.1 C.2.2.2.2.1 lay_X7 tyX7 tyX7_ok nmX7 C.2.2.2.1 C.2.2.2.2.2.2.2.1 hw.1 (C.2.2.2.2.2.2.2.2.1.d V L) hw.2 k0 (oa_X7 hk) rfl 8 (by decide) (C.2.2.2.2.1 _ hq) (fun _ h9 => h9) rfl (by decide +kernel) rfl rfl (Nat.le_of_ble_eq_true rfl) hd (fun H1 locs1 a1 a2 a3 => k H1 locs1 ls ⟨?_, a3⟩ hl)
  rw [TW_set (V' := mset V k0 8 x) (L' := L) (ob_X7 (g := g) (V := V) (L := L) hk).1 ?_ ia_other] at a1
  · exact a1
  · refine (ob_X7 hk).2.trans ?_
    simp [mset]
theorem jg_LeaseBookModel_told (C : Cx p s args m meth c cc nL own ret g) {i0 k0 : Nat} (hk : kd k0 = 13) (hq : Cond.fieldLink own i0 RX7 "told" "[I" ∈ TG) (hd : decode cc pc = .ok (.getfield i0, 3)) (k : J p l e R s m args below meth c nL g cells slots Q V L (pc + 3) lv (.ref (ad g 229) :: st)) : J p l e R s m args below meth c nL g cells slots Q V L pc lv (.ref (ad g k0) :: st) := fun H locs ls hw hl => va_get (T := TX7) C.1 C.2.1 C.2.2.2.2.1 lay_X7 C.2.2.2.1 C.2.2.2.2.2.2.2.1 hw.1 k0 (oa_X7 hk) rfl 9 (by decide) (C.2.2.2.2.1 _ hq) (fun _ h9 => h9) rfl hd (k H locs ls hw hl)
theorem jg_LeaseBookModel_h (C : Cx p s args m meth c cc nL own ret g) {i0 k0 : Nat} (hk : kd k0 = 13) (hq : Cond.fieldLink own i0 RX7 "h" "J" ∈ TG) (hd : decode cc pc = .ok (.getfield i0, 3)) (k : J p l e R s m args below meth c nL g cells slots Q V L (pc + 3) lv (.long (L 0) :: st)) : J p l e R s m args below meth c nL g cells slots Q V L pc lv (.ref (ad g k0) :: st) := fun H locs ls hw hl => va_get (T := TX7) C.1 C.2.1 C.2.2.2.2.1 lay_X7 C.2.2.2.1 C.2.2.2.2.2.2.2.1 hw.1 k0 (oa_X7 hk) rfl 10 (by decide) (C.2.2.2.2.1 _ hq) (fun _ h9 => h9) rfl hd (k H locs ls hw hl)
theorem jp_LeaseBookModel_h (C : Cx p s args m meth c cc nL own ret g) {i0 : Nat} {x : Int64} (hq : Cond.fieldLink own i0 RX7 "h" "J" ∈ TG) (hd : decode cc pc = .ok (.putfield i0, 3)) (k : J p l e R s m args below meth c nL g cells slots Q V (lset L 0 x) (pc + 3) lv st) : J p l e R s m args below meth c nL g cells slots Q V L pc lv (.long x :: .ref (ad g 224) :: st) := by
  intro H locs ls hw hl
  refine va_put (T := TX7) (ty := .long) C.1 C.2.1 C.2.2.2.2.1 lay_X7 tyX7 tyX7_ok nmX7 C.2.2.2.1 C.2.2.2.2.2.2.2.1 hw.1 (C.2.2.2.2.2.2.2.2.1.d V L) hw.2 224 (oa_X7 (k0 := 224) rfl) rfl 10 (by decide) (C.2.2.2.2.1 _ hq) (fun _ h9 => h9) rfl (by decide +kernel) rfl rfl (Nat.le_of_ble_eq_true rfl) hd (fun H1 locs1 a1 a2 a3 => k H1 locs1 ls ⟨?_, a3⟩ hl)
  rw [TW_set (V' := V) (L' := lset L 0 x) (by omega) ?_ h_other] at a1
  · exact a1
  · refine (ob_X7 (k0 := 224) rfl).2.trans ?_
    simp [lset]
end RULES
end
section
/-! THE CLAIM OUT OF ONE WALK OF THE LAW'S BODY. Your part is whole_start (and what it stands on); all else here is the same for every law, but numbers. -/
def R_law : String := "LeaseBookLaw"
def lw_P (b : Addr) (xs : List Int32) (args : Array Value) (s : State) : Prop := args = #[.ref b] ∧ s.IntsAt b xs ∧ xs.length ≤ 3072 ∧ (Jvm.Cond.and given_1 narrow_1).before args s = true
/-- what a walk over the start with the record d0 says of its end, said of the start itself -/
theorem lw_closed {s t : State} {o : Outcome} {d0 : Drawn} {L : List Loc} {k n : Nat} (hd0 : s.drawn.sameBut d0 lw_cs) (hv : ∃ v, o = .returned v) (hW : (s.setDrawn d0).WarmedH t.vm) (hs : (s.setDrawn d0).sameButNew ({ t with vm := s.vm } : State) L k n) : State.butDraws s t lw_cs (fun t1 => Framed s o t1 L k n) := by
  have h2 : t.drawn = d0 := congrArg State.drawn hs.1
  refine ⟨⟨hv, hW, State.sameButNew.setDrawn hs s.drawn⟩, ?_, by decide⟩
  rw [h2]
  exact hd0
def lw_Q (_ : Array Value) (s : State) (o : Outcome) (t : State) : Prop := o = .returned (some (.int 1)) ∧ State.butDraws s t lw_cs (fun t1 => Framed s o t1 [] 601024 7293033)
def lw_Z (below : List Frame) (a : Array Value) (s : State) : State → Prop := fun t => ∃ o, t.status = .running ∧ Ended t below o ∧ lw_Q a s o t
/-- the law's own end, with 1 on the stack, nothing written that was there before, its room as the claim has it; d0: the record of draws at this point (at the entry s.drawn: begin with 'refine W.base ?_' and 'have hd0 := Drawn.sameBut.refl s.drawn lw_cs') -/
theorem lw_ret {p : Program} {l : Launch} {e : Env} {s : State} {m : MethodId} {below : List Frame} {meth : Method} {c : Code} {b : Nat} {d0 : Drawn} (hd0 : s.drawn.sameBut d0 lw_cs) (hx : p.tables.exec = Jvm.exec) (hb : c.code = code) (hr : meth.sig.returnType = ret) (hlocks : meth.locks = false) {pc : Nat} {H : Heap} {ls : Array Slot} (hdg : decode code pc = .ok (.ireturn, 1)) : W p l e room_1 (s.setDrawn d0) m #[Value.ref b] below meth c H [] 601024 7293033 (lw_Z below #[Value.ref b] s) (F0 m pc ls [.int 1]) := by
  intro T hT X
  obtain ⟨fs, hret, hrun, hended, hW, hframe⟩ := X.leave (v := some (.int 1)) (hlocks := hlocks) (fun h => by rw [hr] at h; cases h)
  have hmeth' : T.vm.method? m = some meth := X.method'
  refine ⟨T.setFrames fs, ?_, .returned (some (.int 1)), hrun, hended, rfl, lw_closed hd0 ⟨_, rfl⟩ hW hframe⟩
  jvm_step X.here [X.here.top, hx, hb, hdg, hmeth', hr, ret, narrow_b1]
  (try refine ⟨rfl, ?_⟩); (try refine ⟨rfl, ?_⟩)
  first | (intro acts; rw [hret _ acts rfl rfl rfl]) | rw [hret _ _ rfl rfl rfl]
  exact Steps.refl _
/-- what holds at the law's entry: the machine, the code, the tables' words (any of lw_tbl by 'hts w (by decide +kernel)'), the script of L ints xs at the cell b, what the Statement gives of the start (any of its parts by flat_of_before) -/
def lw_At (p : Program) (s : State) (m : MethodId) (meth : Method) (c : Code) (b L : Nat) (xs : Nat → Int32) : Prop :=
  p.tables.exec = Jvm.exec ∧ c.code = code ∧ meth.sig.returnType = ret ∧ c.maxLocals = 9 ∧ s.vm.findClass R_law = some m.cls ∧ (∀ w ∈ lw_tbl, w.before #[Value.ref b] s = true) ∧ va_X b L xs s s.heap ∧ b < s.heap.size ∧ meth.locks = false ∧ (Jvm.Cond.and given_1 narrow_1).before #[Value.ref b] s = true
-- ===== YOUR PART BEGINS =====
/-- YOUR PART: from the entry, for every script of at most 3072 ints, the law comes to its end with true ('hflags': the launch's flags, for a law that throws: no stack traces) -/
theorem whole_start {p : Program} {e : Env} {s : State} {m : MethodId} {below : List Frame} {meth : Method} {c : Code} (l : Launch) (hflags : l.flags = flags0) {b L : Nat} {xs : Nat → Int32} (hL : L ≤ 3072) (C0 : lw_At p s m meth c b L xs) : W p l e room_1 s m #[Value.ref b] below meth c s.heap [] 0 0 (lw_Z below #[Value.ref b] s) (entryFrame m ([Value.ref b] : List Value).toArray 9) := by
  sorry
-- ===== YOUR PART ENDS =====
set_option maxHeartbeats 4000000 in
theorem lw_walk (l : Launch) (hflags : l.flags = flags0) (b : Addr) (xs : List Int32) : MetFree l x (headSpec (Jvm.Cond.code x code maxLocals ret :: tables_1) room_1) (lw_P b xs) (fun _ _ _ _ _ => True) lw_Q := by
  refine MetFree.of_bodyS (code := code) (maxLocals := maxLocals) (ret := ret) (by decide) ?_ ?_
  · intro args s m h hn
    obtain ⟨meth, c, h1, h2, h3, h4, h5, h6, -, -⟩ := Cond.code_spec hn (atoms_spec (ws := Jvm.Cond.code x code maxLocals ret :: tables_1) h _ List.mem_cons_self)
    exact ⟨meth, c, h1, h2, h3, h4, h5, h6⟩
  · intro p e s m args below meth c s₁ B hml0 hP _
    obtain ⟨rfl, hx, hbd, hgv⟩ := hP
    obtain ⟨scr, harrAt, hlist, hof, hsmall⟩ := hx
    obtain ⟨hcb, hkn, -, -⟩ := State.arrayAt?_spec harrAt
    have hown : s.vm.findClass R_law = some m.cls := findClass_of_methodNamed B.named
    have hts0 : ∀ c ∈ (Jvm.Cond.code x code maxLocals ret :: tables_1), c.before #[Value.ref b] s = true := atoms_spec (ws := Jvm.Cond.code x code maxLocals ret :: tables_1) B.pre
    have hts : ∀ w ∈ lw_tbl, w.before #[Value.ref b] s = true := k2_hts_sels lw_privs (fun w hw => hts0 w (List.mem_cons_of_mem _ hw)) lw_privs_ok
    have hml : c.maxLocals = 9 := B.maxLocals_eq (hts0 _ List.mem_cons_self)
    have X₀ : Stand p l e room_1 s m #[Value.ref b] below meth c s₁ [] 0 0 := Stand.of_body B
    have hh0 : s₁.heap = s.heap := by rw [B.state]; rfl
    have hsz : scr.slots.size = xs.length := by rw [← Array.length_toList, hlist, List.length_map]
    have hval : ∀ j : Nat, j < xs.length → scr.slots[j]? = some (.int (xs.getD j 0)) := fun j hj => by
      rw [← Array.getElem?_toList, hlist]
      simp [hj]
    have hbl : b < s.heap.size := (Array.getElem?_eq_some_iff.mp hcb).1
    have hX : va_X b xs.length (fun j => xs.getD j 0) s s.heap := ⟨scr, hcb, hof, hkn, hsz, hval⟩
    have K : W p l e room_1 s m #[Value.ref b] below meth c s₁.heap [] 0 0 (lw_Z below #[Value.ref b] s) (entryFrame m ([Value.ref b] : List Value).toArray 9) := by
      rw [hh0]
      exact whole_start l hflags hbd ⟨B.exec, B.bytes, B.returns, hml, hown, hts, hX, hbl, B.notSynchronized, hgv⟩
    obtain ⟨t, a1, o, b1, b2, b3⟩ := K s₁ rfl X₀
    exact ⟨t, o, a1, b1, b2, b3⟩
theorem lw_pre_spec {args : Array Value} {s : State} (h : (Jvm.Cond.and given_1 narrow_1).before args s = true) (hr : rest_1_c.before args s = true) : ∃ (b : Addr) (xs : List Int32), lw_P b xs args s := by
  have hs := flat_of_before _ h
  have hq := flat_of_before _ hr
  have hc : (Cond.count 1).before args s = true := hs _ (by decide +kernel)
  have harr : (Cond.arrayOf (.arg 0) .int).before args s = true := hs _ (by decide +kernel)
  have hle : (Cond.le (.length (.arg 0)) (.int 3072)).before args s = true := hs _ (by decide +kernel)
  have hlen : (Cond.isInt (.length (.arg 0))).before args s = true := hq _ (by decide +kernel)
  have hall : (Cond.all (.arg 0) (.isInt (.elem (.arg 0) (.index 0)))).before args s = true := hq _ (by decide +kernel)
  obtain ⟨b, xs, hb, hx⟩ := State.ints_of_pre rfl harr hlen hall
  have hsm : xs.length < 2 ^ 31 := hx.choose_spec.2.2.2
  have hev : (Term.length (.arg 0)).eval args s none [] s = some (.int xs.length.toInt32) := hx.length_eval hb
  have hv := Cond.le_ints hev (show (Term.int 3072).eval args s none [] s = some (.int 3072) from rfl)
  have hd : xs.length.toInt32 ≤ 3072 := by
    simpa [Cond.before, Cond.holds, hv] using hle
  have hN : xs.length ≤ 3072 := (Int32.ofNat_le_ofNat hsm (by decide)).mp (show Int32.ofNat xs.length ≤ Int32.ofNat 3072 from hd)
  exact ⟨b, xs, Cond.one_arg hc (show args[0]? = some (.ref b) from hb), hx, hN, h⟩
theorem lw_comes (l : Launch) (hflags : l.flags = flags0) : Comes l x (Jvm.Cond.code x code maxLocals ret :: tables_1) room_1 (fun tb e args s => Calls_1 tb e args s ∧ rest_1 tb e args s ∧ Pre_1 tb e args s)
    (fun _ _ args s o t => lw_Q args s o t) := by
  intro p e ha hc hk s m args below hf hfit hheap happ hpre
  obtain ⟨b, xs, hP⟩ := lw_pre_spec hpre.2.2 hpre.2.1
  obtain ⟨k, o, h1, h2, h3, hQ⟩ := lw_walk l hflags b xs p e ha hc hk s m args below hf ((Spec.applies_iff_loose hf).mp happ).1 hP trivial
  exact ⟨k, o, h1, h2, h3, hQ⟩
theorem lw_frame {s t : State} {o : Outcome} {args : Array Value} (h : State.butDraws s t lw_cs (fun t1 => Framed s o t1 [] 601024 7293033)) :
    State.butDraws s t [Jvm.Choice.named "NaN.bits"] (fun t1 => Framed s o t1 (fieldLocs frame_1_writes args s ++ arrayLocs frame_1_arrays args s ++ staticLocs frame_1_statics s) 601024 7293033) := h
theorem lw_limb (L : Cond) (hL : ∀ (args : Array Value) (s t : State), L.after args s (.returned (some (.int 1))) t = true) :
    ArmFor flags0 classFile x code maxLocals ret World_1 tables_1 room_1 Calls_1 rest_1 Pre_1
      (fun tb e a s o t => postC L tb e a s o t ∧ State.butDraws s t [Jvm.Choice.named "NaN.bits"] (fun t1 => Framed s o t1 (fieldLocs frame_1_writes a s ++ arrayLocs frame_1_arrays a s ++ staticLocs frame_1_statics s) 601024 7293033)) := by
  intro l hflags _ _ p e ha hc hk s m args below hf hfit hheap happ hpre
  obtain ⟨k, o, h1, h2, h3, rfl, hF⟩ := lw_comes l hflags p e ha hc hk s m args below hf hfit hheap happ hpre
  exact ⟨k, _, h1, h2, h3, hL args s _, lw_frame hF⟩
theorem i_vc : Claimed_1_1 ∧ Claimed_1_2 := ⟨lw_limb limb_1_1 (fun args s t => by simp [limb_1_1, Cond.after, Cond.holds, Cond.value]), lw_limb limb_1_2 (fun args s t => Cond.after_iff.mpr (by
  first | (rw [show limb_1_2 = Cond.eq .result (.int 1) from rfl, Cond.eq_ints (x := 1) (y := 1) rfl rfl]; simp; done) | (simp [limb_1_2, Cond.value, Term.eval]; done)))⟩
end
