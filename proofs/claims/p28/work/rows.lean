section
-- ===== PART A: goes FIRST, ahead of the names: the tables' words, and 'selects' of the private methods out of them =====
/-- a private method of a class that the tables say can be made, by its rows of tables_1 -/
def lw_okq (q : MethodName × Nat) : Prop := (q.1.cls ≠ "java/lang/invoke/MethodHandle" ∧ q.1.cls ≠ "java/lang/invoke/VarHandle") ∧ Cond.instantiable q.1.cls q.2 ∈ tables_1 ∧ Cond.privateMethod q.1 ∈ tables_1 ∧ Cond.instanceMethod q.1 ∈ tables_1
theorem lw_p0 : lw_okq (⟨"java/lang/Throwable", "fillInStackTrace", "(I)Ljava/lang/Throwable;"⟩, 6) := ⟨⟨by decide +kernel, by decide +kernel⟩, List.mem_of_getElem? (i := 226) (by decide +kernel), List.mem_of_getElem? (i := 224) (by decide +kernel), List.mem_of_getElem? (i := 225) (by decide +kernel)⟩
theorem lw_p1 : lw_okq (⟨"LeaseBook", "demandLease", "(I)LLeaseBook$Lease;"⟩, 4) := ⟨⟨by decide +kernel, by decide +kernel⟩, List.mem_of_getElem? (i := 16) (by decide +kernel), List.mem_of_getElem? (i := 329) (by decide +kernel), List.mem_of_getElem? (i := 330) (by decide +kernel)⟩
def lw_privs_1 : List (MethodName × Nat) := [(⟨"java/lang/Throwable", "fillInStackTrace", "(I)Ljava/lang/Throwable;"⟩, 6), (⟨"LeaseBook", "demandLease", "(I)LLeaseBook$Lease;"⟩, 4)]
theorem lw_r1 : ∀ q ∈ lw_privs_1, lw_okq q := List.forall_mem_cons.mpr ⟨lw_p0, List.forall_mem_cons.mpr ⟨lw_p1, fun _ h => absurd h List.not_mem_nil⟩⟩
def lw_privs : List (MethodName × Nat) := lw_privs_1
def lw_tbl : List Cond := k2_sels lw_privs ++ tables_1
theorem lw_privs_ok : ∀ q ∈ lw_privs, lw_okq q := lw_r1
/-- the streams that the claim lets the run draw from -/
abbrev lw_cs : List Choice := [Jvm.Choice.named "NaN.bits"]
theorem lw_bits : nanBits ∈ lw_cs := by first | decide | exact List.mem_cons_self | simp [lw_cs, nanBits]
-- ===== end of PART A; then your names; then what follows =====
end
section
/-! ===== BEGIN printed: names, fields, word lists, decode rows ===== -/
def RX0 : String := "LeaseBook$History"
def TX0 : u_T := fun k => match k with
  | 0 => ("LeaseBook$History", "saved", "[LLeaseBook$State;", true)
  | 1 => ("LeaseBook$History", "oldest", "I", false)
  | _ => ("LeaseBook$History", "size", "I", false)
def tyX0 : Nat → FieldType := fun k => match k with
  | 0 => .array (.object "LeaseBook$State")
  | 1 => .int
  | _ => .int
abbrev wsX00 : List Cond := u_ws RX0 TX0 3
theorem nmX0 : ∀ a, a < 3 → ∀ b, b < 3 → a ≠ b → (TX0 a).2.1 ≠ (TX0 b).2.1 := by decide +kernel
theorem tyX0_ok : ∀ k, k < 3 → parseFieldDescriptor (TX0 k).2.2.1 = some (tyX0 k) := by decide +kernel
abbrev cX0_init : ByteArray := prog_2_method_1_code
def yX0_init : MethodName := ⟨RX0, "<init>", "()V"⟩
abbrev cX0_save : ByteArray := prog_2_method_2_code
def yX0_save : MethodName := ⟨RX0, "save", "(LLeaseBook$State;)V"⟩
abbrev cX0_slotAt : ByteArray := prog_2_method_4_code
def yX0_slotAt : MethodName := ⟨RX0, "slotAt", "(I)LLeaseBook$State;"⟩
def RX1 : String := "LeaseBook$InputText"
def TX1 : u_T := fun k => match k with
  | 0 => ("LeaseBook$InputText", "codes", "[C", true)
  | _ => ("LeaseBook$InputText", "length", "I", false)
def tyX1 : Nat → FieldType := fun k => match k with
  | 0 => .array .char
  | _ => .int
abbrev wsX10 : List Cond := u_ws RX1 TX1 2
theorem nmX1 : ∀ a, a < 2 → ∀ b, b < 2 → a ≠ b → (TX1 a).2.1 ≠ (TX1 b).2.1 := by decide +kernel
theorem tyX1_ok : ∀ k, k < 2 → parseFieldDescriptor (TX1 k).2.2.1 = some (tyX1 k) := by decide +kernel
abbrev cX1_init : ByteArray := prog_3_method_1_code
def yX1_init : MethodName := ⟨RX1, "<init>", "()V"⟩
def RX2 : String := "LeaseBook$Lease"
def TX2 : u_T := fun k => match k with
  | 0 => ("LeaseBook$Lease", "payment", "I", false)
  | 1 => ("LeaseBook$Lease", "periods", "I", false)
  | 2 => ("LeaseBook$Lease", "rate", "I", false)
  | 3 => ("LeaseBook$Lease", "liability", "I", false)
  | 4 => ("LeaseBook$Lease", "asset", "I", false)
  | _ => ("LeaseBook$Lease", "sums", "[I", true)
def tyX2 : Nat → FieldType := fun k => match k with
  | 0 => .int
  | 1 => .int
  | 2 => .int
  | 3 => .int
  | 4 => .int
  | _ => .array .int
abbrev wsX20 : List Cond := u_ws RX2 TX2 6
theorem nmX2 : ∀ a, a < 6 → ∀ b, b < 6 → a ≠ b → (TX2 a).2.1 ≠ (TX2 b).2.1 := by decide +kernel
theorem tyX2_ok : ∀ k, k < 6 → parseFieldDescriptor (TX2 k).2.2.1 = some (tyX2 k) := by decide +kernel
abbrev cX2_init : ByteArray := prog_4_method_1_code
def yX2_init : MethodName := ⟨RX2, "<init>", "()V"⟩
abbrev cX2_begin : ByteArray := prog_4_method_2_code
def yX2_begin : MethodName := ⟨RX2, "begin", "(IIII)V"⟩
abbrev cX2_copyFrom : ByteArray := prog_4_method_3_code
def yX2_copyFrom : MethodName := ⟨RX2, "copyFrom", "(LLeaseBook$Lease;)V"⟩
abbrev cX2_runs : ByteArray := prog_4_method_4_code
def yX2_runs : MethodName := ⟨RX2, "runs", "()Z"⟩
abbrev cX2_move : ByteArray := prog_4_method_5_code
def yX2_move : MethodName := ⟨RX2, "move", "(II)V"⟩
abbrev cX2_moved : ByteArray := prog_4_method_6_code
def yX2_moved : MethodName := ⟨RX2, "moved", "(I)I"⟩
abbrev cX2_liabilityBehind : ByteArray := prog_4_method_7_code
def yX2_liabilityBehind : MethodName := ⟨RX2, "liabilityBehind", "(I)I"⟩
abbrev cX2_assetBehind : ByteArray := prog_4_method_8_code
def yX2_assetBehind : MethodName := ⟨RX2, "assetBehind", "(I)I"⟩
abbrev cX2_passPeriods : ByteArray := prog_4_method_10_code
def yX2_passPeriods : MethodName := ⟨RX2, "passPeriods", "(I)V"⟩
abbrev cX2_assetWithLiability : ByteArray := prog_4_method_11_code
def yX2_assetWithLiability : MethodName := ⟨RX2, "assetWithLiability", "(I)I"⟩
abbrev cX2_measure : ByteArray := prog_4_method_12_code
def yX2_measure : MethodName := ⟨RX2, "measure", "(III)V"⟩
abbrev cX2_endThousandths : ByteArray := prog_4_method_13_code
def yX2_endThousandths : MethodName := ⟨RX2, "endThousandths", "(II)I"⟩
abbrev cX2_subletThousandths : ByteArray := prog_4_method_14_code
def yX2_subletThousandths : MethodName := ⟨RX2, "subletThousandths", "(II)V"⟩
abbrev cX2_impairBy : ByteArray := prog_4_method_15_code
def yX2_impairBy : MethodName := ⟨RX2, "impairBy", "(I)V"⟩
abbrev cX2_profitByMovements : ByteArray := prog_4_method_17_code
def yX2_profitByMovements : MethodName := ⟨RX2, "profitByMovements", "()I"⟩
abbrev cX2_profitByHoldings : ByteArray := prog_4_method_18_code
def yX2_profitByHoldings : MethodName := ⟨RX2, "profitByHoldings", "(I)I"⟩
def RX3 : String := "LeaseBook$LeaseReader"
def TX3 : u_T := fun k => match k with
  | 0 => ("LeaseBook$LeaseReader", "numbers", "[I", true)
  | 1 => ("LeaseBook$LeaseReader", "part", "I", false)
  | _ => ("LeaseBook$LeaseReader", "digits", "I", false)
def tyX3 : Nat → FieldType := fun k => match k with
  | 0 => .array .int
  | 1 => .int
  | _ => .int
abbrev wsX30 : List Cond := u_ws RX3 TX3 3
theorem nmX3 : ∀ a, a < 3 → ∀ b, b < 3 → a ≠ b → (TX3 a).2.1 ≠ (TX3 b).2.1 := by decide +kernel
theorem tyX3_ok : ∀ k, k < 3 → parseFieldDescriptor (TX3 k).2.2.1 = some (tyX3 k) := by decide +kernel
abbrev cX3_init : ByteArray := prog_5_method_1_code
def yX3_init : MethodName := ⟨RX3, "<init>", "()V"⟩
def RX4 : String := "LeaseBook$State"
def TX4 : u_T := fun k => match k with
  | 0 => ("LeaseBook$State", "leases", "[LLeaseBook$Lease;", true)
  | 1 => ("LeaseBook$State", "subleases", "[LLeaseBook$Sublease;", true)
  | 2 => ("LeaseBook$State", "leaseCount", "I", false)
  | 3 => ("LeaseBook$State", "subleaseCount", "I", false)
  | _ => ("LeaseBook$State", "period", "I", false)
def tyX4 : Nat → FieldType := fun k => match k with
  | 0 => .array (.object "LeaseBook$Lease")
  | 1 => .array (.object "LeaseBook$Sublease")
  | 2 => .int
  | 3 => .int
  | _ => .int
abbrev wsX40 : List Cond := u_ws RX4 TX4 5
theorem nmX4 : ∀ a, a < 5 → ∀ b, b < 5 → a ≠ b → (TX4 a).2.1 ≠ (TX4 b).2.1 := by decide +kernel
theorem tyX4_ok : ∀ k, k < 5 → parseFieldDescriptor (TX4 k).2.2.1 = some (tyX4 k) := by decide +kernel
abbrev cX4_init : ByteArray := prog_6_method_1_code
def yX4_init : MethodName := ⟨RX4, "<init>", "()V"⟩
abbrev cX4_copyFrom : ByteArray := prog_6_method_2_code
def yX4_copyFrom : MethodName := ⟨RX4, "copyFrom", "(LLeaseBook$State;)V"⟩
abbrev cX4_leaseAt : ByteArray := prog_6_method_3_code
def yX4_leaseAt : MethodName := ⟨RX4, "leaseAt", "(I)LLeaseBook$Lease;"⟩
abbrev cX4_subleaseAt : ByteArray := prog_6_method_4_code
def yX4_subleaseAt : MethodName := ⟨RX4, "subleaseAt", "(I)LLeaseBook$Sublease;"⟩
abbrev cX4_addLease : ByteArray := prog_6_method_5_code
def yX4_addLease : MethodName := ⟨RX4, "addLease", "(IIII)I"⟩
abbrev cX4_addSublease : ByteArray := prog_6_method_6_code
def yX4_addSublease : MethodName := ⟨RX4, "addSublease", "(ILLeaseBook$Lease;III)I"⟩
abbrev cX4_leaseProperty : ByteArray := prog_6_method_7_code
def yX4_leaseProperty : MethodName := ⟨RX4, "leaseProperty", "(II)I"⟩
abbrev cX4_subleaseProperty : ByteArray := prog_6_method_8_code
def yX4_subleaseProperty : MethodName := ⟨RX4, "subleaseProperty", "(II)I"⟩
abbrev cX4_canSublet : ByteArray := prog_6_method_9_code
def yX4_canSublet : MethodName := ⟨RX4, "canSublet", "(III)Z"⟩
abbrev cX4_passPeriods : ByteArray := prog_6_method_10_code
def yX4_passPeriods : MethodName := ⟨RX4, "passPeriods", "(I)V"⟩
abbrev cX4_cutOff : ByteArray := prog_6_method_11_code
def yX4_cutOff : MethodName := ⟨RX4, "cutOff", "(ILLeaseBook$Lease;)V"⟩
abbrev cX4_lossByCutOff : ByteArray := prog_6_method_12_code
def yX4_lossByCutOff : MethodName := ⟨RX4, "lossByCutOff", "(II)I"⟩
abbrev cX4_sumOfSubleases : ByteArray := prog_6_method_14_code
def yX4_sumOfSubleases : MethodName := ⟨RX4, "sumOfSubleases", "(II)I"⟩
abbrev cX4_runningOf : ByteArray := prog_6_method_15_code
def yX4_runningOf : MethodName := ⟨RX4, "runningOf", "(I)I"⟩
abbrev cX4_runningLeases : ByteArray := prog_6_method_16_code
def yX4_runningLeases : MethodName := ⟨RX4, "runningLeases", "()I"⟩
abbrev cX4_sumOfLeases : ByteArray := prog_6_method_17_code
def yX4_sumOfLeases : MethodName := ⟨RX4, "sumOfLeases", "(I)I"⟩
abbrev cX4_allProfits : ByteArray := prog_6_method_18_code
def yX4_allProfits : MethodName := ⟨RX4, "allProfits", "()I"⟩
abbrev cX4_endingFirst : ByteArray := prog_6_method_19_code
def yX4_endingFirst : MethodName := ⟨RX4, "endingFirst", "()I"⟩
def RX5 : String := "LeaseBook$Sublease"
def TX5 : u_T := fun k => match k with
  | 0 => ("LeaseBook$Sublease", "head", "I", false)
  | 1 => ("LeaseBook$Sublease", "thousandths", "I", false)
  | 2 => ("LeaseBook$Sublease", "receipt", "I", false)
  | 3 => ("LeaseBook$Sublease", "periods", "I", false)
  | 4 => ("LeaseBook$Sublease", "rate", "I", false)
  | _ => ("LeaseBook$Sublease", "receivable", "I", false)
def tyX5 : Nat → FieldType := fun k => match k with
  | 0 => .int
  | 1 => .int
  | 2 => .int
  | 3 => .int
  | 4 => .int
  | _ => .int
abbrev wsX50 : List Cond := u_ws RX5 TX5 6
theorem nmX5 : ∀ a, a < 6 → ∀ b, b < 6 → a ≠ b → (TX5 a).2.1 ≠ (TX5 b).2.1 := by decide +kernel
theorem tyX5_ok : ∀ k, k < 6 → parseFieldDescriptor (TX5 k).2.2.1 = some (tyX5 k) := by decide +kernel
abbrev cX5_init : ByteArray := prog_7_method_1_code
def yX5_init : MethodName := ⟨RX5, "<init>", "()V"⟩
abbrev cX5_copyFrom : ByteArray := prog_7_method_2_code
def yX5_copyFrom : MethodName := ⟨RX5, "copyFrom", "(LLeaseBook$Sublease;)V"⟩
abbrev cX5_runsUnder : ByteArray := prog_7_method_3_code
def yX5_runsUnder : MethodName := ⟨RX5, "runsUnder", "(I)Z"⟩
abbrev cX5_receivableWith : ByteArray := prog_7_method_4_code
def yX5_receivableWith : MethodName := ⟨RX5, "receivableWith", "(I)I"⟩
abbrev cX5_passPeriods : ByteArray := prog_7_method_5_code
def yX5_passPeriods : MethodName := ⟨RX5, "passPeriods", "(ILLeaseBook$Lease;)V"⟩
abbrev cX5_lossByCutTo : ByteArray := prog_7_method_6_code
def yX5_lossByCutTo : MethodName := ⟨RX5, "lossByCutTo", "(I)I"⟩
abbrev cX5_valueOf : ByteArray := prog_7_method_7_code
def yX5_valueOf : MethodName := ⟨RX5, "valueOf", "(I)I"⟩
def RX6 : String := "LeaseBook"
def TX6 : u_T := fun k => match k with
  | 0 => ("LeaseBook", "now", "LLeaseBook$State;", true)
  | 1 => ("LeaseBook", "history", "LLeaseBook$History;", true)
  | 2 => ("LeaseBook", "text", "LLeaseBook$InputText;", true)
  | _ => ("LeaseBook", "reader", "LLeaseBook$LeaseReader;", true)
def tyX6 : Nat → FieldType := fun k => match k with
  | 0 => .object "LeaseBook$State"
  | 1 => .object "LeaseBook$History"
  | 2 => .object "LeaseBook$InputText"
  | _ => .object "LeaseBook$LeaseReader"
abbrev wsX60 : List Cond := u_ws RX6 TX6 4
theorem nmX6 : ∀ a, a < 4 → ∀ b, b < 4 → a ≠ b → (TX6 a).2.1 ≠ (TX6 b).2.1 := by decide +kernel
theorem tyX6_ok : ∀ k, k < 4 → parseFieldDescriptor (TX6 k).2.2.1 = some (tyX6 k) := by decide +kernel
abbrev cX6_init : ByteArray := prog_1_method_1_code
def yX6_init : MethodName := ⟨RX6, "<init>", "()V"⟩
abbrev cX6_open : ByteArray := prog_1_method_2_code
def yX6_open : MethodName := ⟨RX6, "open", "(IIII)I"⟩
abbrev cX6_term : ByteArray := prog_1_method_3_code
def yX6_term : MethodName := ⟨RX6, "term", "(III)I"⟩
abbrev cX6_rent : ByteArray := prog_1_method_4_code
def yX6_rent : MethodName := ⟨RX6, "rent", "(II)I"⟩
abbrev cX6_endPart : ByteArray := prog_1_method_5_code
def yX6_endPart : MethodName := ⟨RX6, "endPart", "(III)I"⟩
abbrev cX6_impair : ByteArray := prog_1_method_6_code
def yX6_impair : MethodName := ⟨RX6, "impair", "(II)I"⟩
abbrev cX6_sublet : ByteArray := prog_1_method_7_code
def yX6_sublet : MethodName := ⟨RX6, "sublet", "(IIII)I"⟩
abbrev cX6_pass : ByteArray := prog_1_method_8_code
def yX6_pass : MethodName := ⟨RX6, "pass", "(I)I"⟩
abbrev cX6_lease : ByteArray := prog_1_method_14_code
def yX6_lease : MethodName := ⟨RX6, "lease", "(II)I"⟩
abbrev cX6_sublease : ByteArray := prog_1_method_15_code
def yX6_sublease : MethodName := ⟨RX6, "sublease", "(II)I"⟩
abbrev cX6_profit : ByteArray := prog_1_method_17_code
def yX6_profit : MethodName := ⟨RX6, "profit", "(II)I"⟩
abbrev cX6_count : ByteArray := prog_1_method_18_code
def yX6_count : MethodName := ⟨RX6, "count", "(I)I"⟩
abbrev cX6_offShare : ByteArray := prog_1_method_25_code
def yX6_offShare : MethodName := ⟨RX6, "offShare", "()D"⟩
abbrev cX6_demandLease : ByteArray := prog_1_method_31_code
def yX6_demandLease : MethodName := ⟨RX6, "demandLease", "(I)LLeaseBook$Lease;"⟩
abbrev cX6_demandIndex : ByteArray := prog_1_method_32_code
def yX6_demandIndex : MethodName := ⟨RX6, "demandIndex", "(Z)V"⟩
abbrev cX6_demandArguments : ByteArray := prog_1_method_33_code
def yX6_demandArguments : MethodName := ⟨RX6, "demandArguments", "(Z)V"⟩
abbrev cX6_demandState : ByteArray := prog_1_method_34_code
def yX6_demandState : MethodName := ⟨RX6, "demandState", "(Z)V"⟩
abbrev cX6_isWithin : ByteArray := prog_1_method_35_code
def yX6_isWithin : MethodName := ⟨RX6, "isWithin", "(III)Z"⟩
abbrev cX6_isMoney : ByteArray := prog_1_method_36_code
def yX6_isMoney : MethodName := ⟨RX6, "isMoney", "(I)Z"⟩
abbrev cX6_isPeriods : ByteArray := prog_1_method_37_code
def yX6_isPeriods : MethodName := ⟨RX6, "isPeriods", "(I)Z"⟩
abbrev cX6_isRate : ByteArray := prog_1_method_38_code
def yX6_isRate : MethodName := ⟨RX6, "isRate", "(I)Z"⟩
abbrev cX6_isThousandths : ByteArray := prog_1_method_39_code
def yX6_isThousandths : MethodName := ⟨RX6, "isThousandths", "(I)Z"⟩
abbrev cX6_presentWorth : ByteArray := prog_1_method_40_code
def yX6_presentWorth : MethodName := ⟨RX6, "presentWorth", "(III)I"⟩
abbrev cX6_thousandthsOf : ByteArray := prog_1_method_41_code
def yX6_thousandthsOf : MethodName := ⟨RX6, "thousandthsOf", "(II)I"⟩
def RX7 : String := "LeaseBookModel"
def TX7 : u_T := fun k => match k with
  | _ => ("", "", "", false)
def tyX7 : Nat → FieldType := fun k => match k with
  | _ => .int
abbrev wsX70 : List Cond := u_ws RX7 TX7 0
theorem nmX7 : ∀ a, a < 0 → ∀ b, b < 0 → a ≠ b → (TX7 a).2.1 ≠ (TX7 b).2.1 := by decide +kernel
theorem tyX7_ok : ∀ k, k < 0 → parseFieldDescriptor (TX7 k).2.2.1 = some (tyX7 k) := by decide +kernel
def RJ9 : String := "java/lang/Math"
def TJ9 : u_T := fun k => match k with
  | _ => ("", "", "", false)
def tyJ9 : Nat → FieldType := fun k => match k with
  | _ => .int
abbrev wsJ90 : List Cond := u_ws RJ9 TJ9 0
theorem nmJ9 : ∀ a, a < 0 → ∀ b, b < 0 → a ≠ b → (TJ9 a).2.1 ≠ (TJ9 b).2.1 := by decide +kernel
theorem tyJ9_ok : ∀ k, k < 0 → parseFieldDescriptor (TJ9 k).2.2.1 = some (tyJ9 k) := by decide +kernel
abbrev cJ9_max_7cf53 : ByteArray := prog_14_method_65_code
def yJ9_max_7cf53 : MethodName := ⟨RJ9, "max", "(II)I"⟩
abbrev cJ9_min_7cf53 : ByteArray := prog_14_method_69_code
def yJ9_min_7cf53 : MethodName := ⟨RJ9, "min", "(II)I"⟩
def RJ0 : String := "java/lang/String"
def TJ0 : u_T := fun k => match k with
  | _ => ("", "", "", false)
def tyJ0 : Nat → FieldType := fun k => match k with
  | _ => .int
abbrev wsJ00 : List Cond := u_ws RJ0 TJ0 0
theorem nmJ0 : ∀ a, a < 0 → ∀ b, b < 0 → a ≠ b → (TJ0 a).2.1 ≠ (TJ0 b).2.1 := by decide +kernel
theorem tyJ0_ok : ∀ k, k < 0 → parseFieldDescriptor (TJ0 k).2.2.1 = some (tyJ0 k) := by decide +kernel
def RL : String := "LeaseBookLaw"
abbrev cL_cell : ByteArray := method_2_code
def yL_cell : MethodName := ⟨RL, "cell", "([II)I"⟩
abbrev cL_at : ByteArray := method_3_code
def yL_at : MethodName := ⟨RL, "at", "(II)I"⟩
abbrev cL_worth : ByteArray := method_4_code
def yL_worth : MethodName := ⟨RL, "worth", "(III)I"⟩
abbrev cL_part : ByteArray := method_5_code
def yL_part : MethodName := ⟨RL, "part", "(II)I"⟩
abbrev cL_off : ByteArray := method_6_code
def yL_off : MethodName := ⟨RL, "off", "(II[I[I[I)I"⟩
abbrev cL_told : ByteArray := method_7_code
def yL_told : MethodName := ⟨RL, "told", "(LLeaseBook;[I[I[I[I)Z"⟩
abbrev cL_add : ByteArray := method_8_code
def yL_add : MethodName := ⟨RL, "add", "(IIII[I[I)V"⟩
abbrev cL_pass : ByteArray := method_9_code
def yL_pass : MethodName := ⟨RL, "pass", "(I[I[I[I[I)V"⟩
abbrev cL_measure : ByteArray := method_10_code
def yL_measure : MethodName := ⟨RL, "measure", "(IIII[I[I[I[I)I"⟩
abbrev cL_changes : ByteArray := method_11_code
def yL_changes : MethodName := ⟨RL, "changes", "(LLeaseBook;III[I[I[I[I)Z"⟩
abbrev cL_act : ByteArray := method_12_code
def yL_act : MethodName := ⟨RL, "act", "(LLeaseBook;III[I[I[I[I)Z"⟩
abbrev cL_law : ByteArray := code
def yL_law : MethodName := ⟨RL, "law", "([I)Z"⟩
theorem dX0_init_0 : decode cX0_init 0 = .ok (.aload_n 0, 1) := by decide +kernel
theorem dX0_init_1 : decode cX0_init 1 = .ok (.invokespecial 3, 3) := by decide +kernel
theorem dX0_init_4 : decode cX0_init 4 = .ok (.aload_n 0, 1) := by decide +kernel
theorem dX0_init_5 : decode cX0_init 5 = .ok (.bipush 6, 2) := by decide +kernel
theorem dX0_init_7 : decode cX0_init 7 = .ok (.anewarray 9, 3) := by decide +kernel
theorem dX0_init_10 : decode cX0_init 10 = .ok (.putfield 11, 3) := by decide +kernel
theorem dX0_init_13 : decode cX0_init 13 = .ok (.iconst 0, 1) := by decide +kernel
theorem dX0_init_14 : decode cX0_init 14 = .ok (.istore_n 1, 1) := by decide +kernel
theorem dX0_init_15 : decode cX0_init 15 = .ok (.iload_n 1, 1) := by decide +kernel
theorem dX0_init_16 : decode cX0_init 16 = .ok (.aload_n 0, 1) := by decide +kernel
theorem dX0_init_17 : decode cX0_init 17 = .ok (.getfield 11, 3) := by decide +kernel
theorem dX0_init_20 : decode cX0_init 20 = .ok (.arraylength, 1) := by decide +kernel
theorem dX0_init_21 : decode cX0_init 21 = .ok (.if_icmp .ge 22, 3) := by decide +kernel
theorem dX0_init_24 : decode cX0_init 24 = .ok (.aload_n 0, 1) := by decide +kernel
theorem dX0_init_25 : decode cX0_init 25 = .ok (.getfield 11, 3) := by decide +kernel
theorem dX0_init_28 : decode cX0_init 28 = .ok (.iload_n 1, 1) := by decide +kernel
theorem dX0_init_29 : decode cX0_init 29 = .ok (.new 9, 3) := by decide +kernel
theorem dX0_init_32 : decode cX0_init 32 = .ok (.dup, 1) := by decide +kernel
theorem dX0_init_33 : decode cX0_init 33 = .ok (.invokespecial 17, 3) := by decide +kernel
theorem dX0_init_36 : decode cX0_init 36 = .ok (.aastore, 1) := by decide +kernel
theorem dX0_init_37 : decode cX0_init 37 = .ok (.iinc 1 1, 3) := by decide +kernel
theorem dX0_init_40 : decode cX0_init 40 = .ok (.goto (-25), 3) := by decide +kernel
theorem dX0_init_43 : decode cX0_init 43 = .ok (.return_, 1) := by decide +kernel
theorem dX0_save_0 : decode cX0_save 0 = .ok (.aload_n 0, 1) := by decide +kernel
theorem dX0_save_1 : decode cX0_save 1 = .ok (.getfield 18, 3) := by decide +kernel
theorem dX0_save_4 : decode cX0_save 4 = .ok (.bipush 6, 2) := by decide +kernel
theorem dX0_save_6 : decode cX0_save 6 = .ok (.if_icmp .lt 26, 3) := by decide +kernel
theorem dX0_save_9 : decode cX0_save 9 = .ok (.aload_n 0, 1) := by decide +kernel
theorem dX0_save_10 : decode cX0_save 10 = .ok (.aload_n 0, 1) := by decide +kernel
theorem dX0_save_11 : decode cX0_save 11 = .ok (.getfield 22, 3) := by decide +kernel
theorem dX0_save_14 : decode cX0_save 14 = .ok (.iconst 1, 1) := by decide +kernel
theorem dX0_save_15 : decode cX0_save 15 = .ok (.iadd, 1) := by decide +kernel
theorem dX0_save_16 : decode cX0_save 16 = .ok (.bipush 6, 2) := by decide +kernel
theorem dX0_save_18 : decode cX0_save 18 = .ok (.irem, 1) := by decide +kernel
theorem dX0_save_19 : decode cX0_save 19 = .ok (.putfield 22, 3) := by decide +kernel
theorem dX0_save_22 : decode cX0_save 22 = .ok (.aload_n 0, 1) := by decide +kernel
theorem dX0_save_23 : decode cX0_save 23 = .ok (.dup, 1) := by decide +kernel
theorem dX0_save_24 : decode cX0_save 24 = .ok (.getfield 18, 3) := by decide +kernel
theorem dX0_save_27 : decode cX0_save 27 = .ok (.iconst 1, 1) := by decide +kernel
theorem dX0_save_28 : decode cX0_save 28 = .ok (.isub, 1) := by decide +kernel
theorem dX0_save_29 : decode cX0_save 29 = .ok (.putfield 18, 3) := by decide +kernel
theorem dX0_save_32 : decode cX0_save 32 = .ok (.aload_n 0, 1) := by decide +kernel
theorem dX0_save_33 : decode cX0_save 33 = .ok (.aload_n 0, 1) := by decide +kernel
theorem dX0_save_34 : decode cX0_save 34 = .ok (.getfield 18, 3) := by decide +kernel
theorem dX0_save_37 : decode cX0_save 37 = .ok (.invokevirtual 25, 3) := by decide +kernel
theorem dX0_save_40 : decode cX0_save 40 = .ok (.astore_n 2, 1) := by decide +kernel
theorem dX0_save_41 : decode cX0_save 41 = .ok (.aload_n 2, 1) := by decide +kernel
theorem dX0_save_42 : decode cX0_save 42 = .ok (.ifnull 18, 3) := by decide +kernel
theorem dX0_save_45 : decode cX0_save 45 = .ok (.aload_n 2, 1) := by decide +kernel
theorem dX0_save_46 : decode cX0_save 46 = .ok (.aload_n 1, 1) := by decide +kernel
theorem dX0_save_47 : decode cX0_save 47 = .ok (.invokevirtual 29, 3) := by decide +kernel
theorem dX0_save_50 : decode cX0_save 50 = .ok (.aload_n 0, 1) := by decide +kernel
theorem dX0_save_51 : decode cX0_save 51 = .ok (.dup, 1) := by decide +kernel
theorem dX0_save_52 : decode cX0_save 52 = .ok (.getfield 18, 3) := by decide +kernel
theorem dX0_save_55 : decode cX0_save 55 = .ok (.iconst 1, 1) := by decide +kernel
theorem dX0_save_56 : decode cX0_save 56 = .ok (.iadd, 1) := by decide +kernel
theorem dX0_save_57 : decode cX0_save 57 = .ok (.putfield 18, 3) := by decide +kernel
theorem dX0_save_60 : decode cX0_save 60 = .ok (.return_, 1) := by decide +kernel
theorem dX0_slotAt_0 : decode cX0_slotAt 0 = .ok (.aload_n 0, 1) := by decide +kernel
theorem dX0_slotAt_1 : decode cX0_slotAt 1 = .ok (.getfield 22, 3) := by decide +kernel
theorem dX0_slotAt_4 : decode cX0_slotAt 4 = .ok (.iload_n 1, 1) := by decide +kernel
theorem dX0_slotAt_5 : decode cX0_slotAt 5 = .ok (.iadd, 1) := by decide +kernel
theorem dX0_slotAt_6 : decode cX0_slotAt 6 = .ok (.bipush 6, 2) := by decide +kernel
theorem dX0_slotAt_8 : decode cX0_slotAt 8 = .ok (.irem, 1) := by decide +kernel
theorem dX0_slotAt_9 : decode cX0_slotAt 9 = .ok (.istore_n 2, 1) := by decide +kernel
theorem dX0_slotAt_10 : decode cX0_slotAt 10 = .ok (.iload_n 1, 1) := by decide +kernel
theorem dX0_slotAt_11 : decode cX0_slotAt 11 = .ok (.ifCond .lt 25, 3) := by decide +kernel
theorem dX0_slotAt_14 : decode cX0_slotAt 14 = .ok (.iload_n 2, 1) := by decide +kernel
theorem dX0_slotAt_15 : decode cX0_slotAt 15 = .ok (.ifCond .lt 21, 3) := by decide +kernel
theorem dX0_slotAt_18 : decode cX0_slotAt 18 = .ok (.iload_n 2, 1) := by decide +kernel
theorem dX0_slotAt_19 : decode cX0_slotAt 19 = .ok (.aload_n 0, 1) := by decide +kernel
theorem dX0_slotAt_20 : decode cX0_slotAt 20 = .ok (.getfield 11, 3) := by decide +kernel
theorem dX0_slotAt_23 : decode cX0_slotAt 23 = .ok (.arraylength, 1) := by decide +kernel
theorem dX0_slotAt_24 : decode cX0_slotAt 24 = .ok (.if_icmp .ge 12, 3) := by decide +kernel
theorem dX0_slotAt_27 : decode cX0_slotAt 27 = .ok (.aload_n 0, 1) := by decide +kernel
theorem dX0_slotAt_28 : decode cX0_slotAt 28 = .ok (.getfield 11, 3) := by decide +kernel
theorem dX0_slotAt_31 : decode cX0_slotAt 31 = .ok (.iload_n 2, 1) := by decide +kernel
theorem dX0_slotAt_32 : decode cX0_slotAt 32 = .ok (.aaload, 1) := by decide +kernel
theorem dX0_slotAt_33 : decode cX0_slotAt 33 = .ok (.goto 4, 3) := by decide +kernel
theorem dX0_slotAt_36 : decode cX0_slotAt 36 = .ok (.aconst_null, 1) := by decide +kernel
theorem dX0_slotAt_37 : decode cX0_slotAt 37 = .ok (.areturn, 1) := by decide +kernel
theorem dX1_init_0 : decode cX1_init 0 = .ok (.aload_n 0, 1) := by decide +kernel
theorem dX1_init_1 : decode cX1_init 1 = .ok (.invokespecial 3, 3) := by decide +kernel
theorem dX1_init_4 : decode cX1_init 4 = .ok (.aload_n 0, 1) := by decide +kernel
theorem dX1_init_5 : decode cX1_init 5 = .ok (.bipush 60, 2) := by decide +kernel
theorem dX1_init_7 : decode cX1_init 7 = .ok (.newarray .char, 2) := by decide +kernel
theorem dX1_init_9 : decode cX1_init 9 = .ok (.putfield 9, 3) := by decide +kernel
theorem dX1_init_12 : decode cX1_init 12 = .ok (.return_, 1) := by decide +kernel
theorem dX2_init_0 : decode cX2_init 0 = .ok (.aload_n 0, 1) := by decide +kernel
theorem dX2_init_1 : decode cX2_init 1 = .ok (.invokespecial 3, 3) := by decide +kernel
theorem dX2_init_4 : decode cX2_init 4 = .ok (.aload_n 0, 1) := by decide +kernel
theorem dX2_init_5 : decode cX2_init 5 = .ok (.bipush 17, 2) := by decide +kernel
theorem dX2_init_7 : decode cX2_init 7 = .ok (.newarray .int, 2) := by decide +kernel
theorem dX2_init_9 : decode cX2_init 9 = .ok (.putfield 9, 3) := by decide +kernel
theorem dX2_init_12 : decode cX2_init 12 = .ok (.return_, 1) := by decide +kernel
theorem dX2_begin_0 : decode cX2_begin 0 = .ok (.iconst 0, 1) := by decide +kernel
theorem dX2_begin_1 : decode cX2_begin 1 = .ok (.istore 5, 2) := by decide +kernel
theorem dX2_begin_3 : decode cX2_begin 3 = .ok (.iload 5, 2) := by decide +kernel
theorem dX2_begin_5 : decode cX2_begin 5 = .ok (.aload_n 0, 1) := by decide +kernel
theorem dX2_begin_6 : decode cX2_begin 6 = .ok (.getfield 9, 3) := by decide +kernel
theorem dX2_begin_9 : decode cX2_begin 9 = .ok (.arraylength, 1) := by decide +kernel
theorem dX2_begin_10 : decode cX2_begin 10 = .ok (.if_icmp .ge 17, 3) := by decide +kernel
theorem dX2_begin_13 : decode cX2_begin 13 = .ok (.aload_n 0, 1) := by decide +kernel
theorem dX2_begin_14 : decode cX2_begin 14 = .ok (.getfield 9, 3) := by decide +kernel
theorem dX2_begin_17 : decode cX2_begin 17 = .ok (.iload 5, 2) := by decide +kernel
theorem dX2_begin_19 : decode cX2_begin 19 = .ok (.iconst 0, 1) := by decide +kernel
theorem dX2_begin_20 : decode cX2_begin 20 = .ok (.iastore, 1) := by decide +kernel
theorem dX2_begin_21 : decode cX2_begin 21 = .ok (.iinc 5 1, 3) := by decide +kernel
theorem dX2_begin_24 : decode cX2_begin 24 = .ok (.goto (-21), 3) := by decide +kernel
theorem dX2_begin_27 : decode cX2_begin 27 = .ok (.aload_n 0, 1) := by decide +kernel
theorem dX2_begin_28 : decode cX2_begin 28 = .ok (.iload_n 1, 1) := by decide +kernel
theorem dX2_begin_29 : decode cX2_begin 29 = .ok (.putfield 15, 3) := by decide +kernel
theorem dX2_begin_32 : decode cX2_begin 32 = .ok (.aload_n 0, 1) := by decide +kernel
theorem dX2_begin_33 : decode cX2_begin 33 = .ok (.iload_n 2, 1) := by decide +kernel
theorem dX2_begin_34 : decode cX2_begin 34 = .ok (.putfield 19, 3) := by decide +kernel
theorem dX2_begin_37 : decode cX2_begin 37 = .ok (.aload_n 0, 1) := by decide +kernel
theorem dX2_begin_38 : decode cX2_begin 38 = .ok (.iload_n 3, 1) := by decide +kernel
theorem dX2_begin_39 : decode cX2_begin 39 = .ok (.putfield 22, 3) := by decide +kernel
theorem dX2_begin_42 : decode cX2_begin 42 = .ok (.aload_n 0, 1) := by decide +kernel
theorem dX2_begin_43 : decode cX2_begin 43 = .ok (.iload_n 1, 1) := by decide +kernel
theorem dX2_begin_44 : decode cX2_begin 44 = .ok (.iload_n 2, 1) := by decide +kernel
theorem dX2_begin_45 : decode cX2_begin 45 = .ok (.iload_n 3, 1) := by decide +kernel
theorem dX2_begin_46 : decode cX2_begin 46 = .ok (.invokestatic 25, 3) := by decide +kernel
theorem dX2_begin_49 : decode cX2_begin 49 = .ok (.putfield 29, 3) := by decide +kernel
theorem dX2_begin_52 : decode cX2_begin 52 = .ok (.aload_n 0, 1) := by decide +kernel
theorem dX2_begin_53 : decode cX2_begin 53 = .ok (.aload_n 0, 1) := by decide +kernel
theorem dX2_begin_54 : decode cX2_begin 54 = .ok (.getfield 29, 3) := by decide +kernel
theorem dX2_begin_57 : decode cX2_begin 57 = .ok (.iload 4, 2) := by decide +kernel
theorem dX2_begin_59 : decode cX2_begin 59 = .ok (.iadd, 1) := by decide +kernel
theorem dX2_begin_60 : decode cX2_begin 60 = .ok (.putfield 32, 3) := by decide +kernel
theorem dX2_begin_63 : decode cX2_begin 63 = .ok (.aload_n 0, 1) := by decide +kernel
theorem dX2_begin_64 : decode cX2_begin 64 = .ok (.iconst 0, 1) := by decide +kernel
theorem dX2_begin_65 : decode cX2_begin 65 = .ok (.aload_n 0, 1) := by decide +kernel
theorem dX2_begin_66 : decode cX2_begin 66 = .ok (.getfield 29, 3) := by decide +kernel
theorem dX2_begin_69 : decode cX2_begin 69 = .ok (.invokevirtual 35, 3) := by decide +kernel
theorem dX2_begin_72 : decode cX2_begin 72 = .ok (.aload_n 0, 1) := by decide +kernel
theorem dX2_begin_73 : decode cX2_begin 73 = .ok (.iconst 5, 1) := by decide +kernel
theorem dX2_begin_74 : decode cX2_begin 74 = .ok (.aload_n 0, 1) := by decide +kernel
theorem dX2_begin_75 : decode cX2_begin 75 = .ok (.getfield 32, 3) := by decide +kernel
theorem dX2_begin_78 : decode cX2_begin 78 = .ok (.invokevirtual 35, 3) := by decide +kernel
theorem dX2_begin_81 : decode cX2_begin 81 = .ok (.aload_n 0, 1) := by decide +kernel
theorem dX2_begin_82 : decode cX2_begin 82 = .ok (.bipush 15, 2) := by decide +kernel
theorem dX2_begin_84 : decode cX2_begin 84 = .ok (.iload 4, 2) := by decide +kernel
theorem dX2_begin_86 : decode cX2_begin 86 = .ok (.invokevirtual 35, 3) := by decide +kernel
theorem dX2_begin_89 : decode cX2_begin 89 = .ok (.return_, 1) := by decide +kernel
theorem dX2_copyFrom_0 : decode cX2_copyFrom 0 = .ok (.aload_n 0, 1) := by decide +kernel
theorem dX2_copyFrom_1 : decode cX2_copyFrom 1 = .ok (.aload_n 1, 1) := by decide +kernel
theorem dX2_copyFrom_2 : decode cX2_copyFrom 2 = .ok (.getfield 15, 3) := by decide +kernel
theorem dX2_copyFrom_5 : decode cX2_copyFrom 5 = .ok (.putfield 15, 3) := by decide +kernel
theorem dX2_copyFrom_8 : decode cX2_copyFrom 8 = .ok (.aload_n 0, 1) := by decide +kernel
theorem dX2_copyFrom_9 : decode cX2_copyFrom 9 = .ok (.aload_n 1, 1) := by decide +kernel
theorem dX2_copyFrom_10 : decode cX2_copyFrom 10 = .ok (.getfield 19, 3) := by decide +kernel
theorem dX2_copyFrom_13 : decode cX2_copyFrom 13 = .ok (.putfield 19, 3) := by decide +kernel
theorem dX2_copyFrom_16 : decode cX2_copyFrom 16 = .ok (.aload_n 0, 1) := by decide +kernel
theorem dX2_copyFrom_17 : decode cX2_copyFrom 17 = .ok (.aload_n 1, 1) := by decide +kernel
theorem dX2_copyFrom_18 : decode cX2_copyFrom 18 = .ok (.getfield 22, 3) := by decide +kernel
theorem dX2_copyFrom_21 : decode cX2_copyFrom 21 = .ok (.putfield 22, 3) := by decide +kernel
theorem dX2_copyFrom_24 : decode cX2_copyFrom 24 = .ok (.aload_n 0, 1) := by decide +kernel
theorem dX2_copyFrom_25 : decode cX2_copyFrom 25 = .ok (.aload_n 1, 1) := by decide +kernel
theorem dX2_copyFrom_26 : decode cX2_copyFrom 26 = .ok (.getfield 29, 3) := by decide +kernel
theorem dX2_copyFrom_29 : decode cX2_copyFrom 29 = .ok (.putfield 29, 3) := by decide +kernel
theorem dX2_copyFrom_32 : decode cX2_copyFrom 32 = .ok (.aload_n 0, 1) := by decide +kernel
theorem dX2_copyFrom_33 : decode cX2_copyFrom 33 = .ok (.aload_n 1, 1) := by decide +kernel
theorem dX2_copyFrom_34 : decode cX2_copyFrom 34 = .ok (.getfield 32, 3) := by decide +kernel
theorem dX2_copyFrom_37 : decode cX2_copyFrom 37 = .ok (.putfield 32, 3) := by decide +kernel
theorem dX2_copyFrom_40 : decode cX2_copyFrom 40 = .ok (.iconst 0, 1) := by decide +kernel
theorem dX2_copyFrom_41 : decode cX2_copyFrom 41 = .ok (.istore_n 2, 1) := by decide +kernel
theorem dX2_copyFrom_42 : decode cX2_copyFrom 42 = .ok (.iload_n 2, 1) := by decide +kernel
theorem dX2_copyFrom_43 : decode cX2_copyFrom 43 = .ok (.aload_n 0, 1) := by decide +kernel
theorem dX2_copyFrom_44 : decode cX2_copyFrom 44 = .ok (.getfield 9, 3) := by decide +kernel
theorem dX2_copyFrom_47 : decode cX2_copyFrom 47 = .ok (.arraylength, 1) := by decide +kernel
theorem dX2_copyFrom_48 : decode cX2_copyFrom 48 = .ok (.if_icmp .ge 30, 3) := by decide +kernel
theorem dX2_copyFrom_51 : decode cX2_copyFrom 51 = .ok (.iload_n 2, 1) := by decide +kernel
theorem dX2_copyFrom_52 : decode cX2_copyFrom 52 = .ok (.aload_n 1, 1) := by decide +kernel
theorem dX2_copyFrom_53 : decode cX2_copyFrom 53 = .ok (.getfield 9, 3) := by decide +kernel
theorem dX2_copyFrom_56 : decode cX2_copyFrom 56 = .ok (.arraylength, 1) := by decide +kernel
theorem dX2_copyFrom_57 : decode cX2_copyFrom 57 = .ok (.if_icmp .ge 21, 3) := by decide +kernel
theorem dX2_copyFrom_60 : decode cX2_copyFrom 60 = .ok (.aload_n 0, 1) := by decide +kernel
theorem dX2_copyFrom_61 : decode cX2_copyFrom 61 = .ok (.getfield 9, 3) := by decide +kernel
theorem dX2_copyFrom_64 : decode cX2_copyFrom 64 = .ok (.iload_n 2, 1) := by decide +kernel
theorem dX2_copyFrom_65 : decode cX2_copyFrom 65 = .ok (.aload_n 1, 1) := by decide +kernel
theorem dX2_copyFrom_66 : decode cX2_copyFrom 66 = .ok (.getfield 9, 3) := by decide +kernel
theorem dX2_copyFrom_69 : decode cX2_copyFrom 69 = .ok (.iload_n 2, 1) := by decide +kernel
theorem dX2_copyFrom_70 : decode cX2_copyFrom 70 = .ok (.iaload, 1) := by decide +kernel
theorem dX2_copyFrom_71 : decode cX2_copyFrom 71 = .ok (.iastore, 1) := by decide +kernel
theorem dX2_copyFrom_72 : decode cX2_copyFrom 72 = .ok (.iinc 2 1, 3) := by decide +kernel
theorem dX2_copyFrom_75 : decode cX2_copyFrom 75 = .ok (.goto (-33), 3) := by decide +kernel
theorem dX2_copyFrom_78 : decode cX2_copyFrom 78 = .ok (.return_, 1) := by decide +kernel
theorem dX2_runs_0 : decode cX2_runs 0 = .ok (.aload_n 0, 1) := by decide +kernel
theorem dX2_runs_1 : decode cX2_runs 1 = .ok (.getfield 19, 3) := by decide +kernel
theorem dX2_runs_4 : decode cX2_runs 4 = .ok (.ifCond .le 7, 3) := by decide +kernel
theorem dX2_runs_7 : decode cX2_runs 7 = .ok (.iconst 1, 1) := by decide +kernel
theorem dX2_runs_8 : decode cX2_runs 8 = .ok (.goto 4, 3) := by decide +kernel
theorem dX2_runs_11 : decode cX2_runs 11 = .ok (.iconst 0, 1) := by decide +kernel
theorem dX2_runs_12 : decode cX2_runs 12 = .ok (.ireturn, 1) := by decide +kernel
theorem dX2_move_0 : decode cX2_move 0 = .ok (.iload_n 1, 1) := by decide +kernel
theorem dX2_move_1 : decode cX2_move 1 = .ok (.ifCond .lt 22, 3) := by decide +kernel
theorem dX2_move_4 : decode cX2_move 4 = .ok (.iload_n 1, 1) := by decide +kernel
theorem dX2_move_5 : decode cX2_move 5 = .ok (.aload_n 0, 1) := by decide +kernel
theorem dX2_move_6 : decode cX2_move 6 = .ok (.getfield 9, 3) := by decide +kernel
theorem dX2_move_9 : decode cX2_move 9 = .ok (.arraylength, 1) := by decide +kernel
theorem dX2_move_10 : decode cX2_move 10 = .ok (.if_icmp .ge 13, 3) := by decide +kernel
theorem dX2_move_13 : decode cX2_move 13 = .ok (.aload_n 0, 1) := by decide +kernel
theorem dX2_move_14 : decode cX2_move 14 = .ok (.getfield 9, 3) := by decide +kernel
theorem dX2_move_17 : decode cX2_move 17 = .ok (.iload_n 1, 1) := by decide +kernel
theorem dX2_move_18 : decode cX2_move 18 = .ok (.dup2, 1) := by decide +kernel
theorem dX2_move_19 : decode cX2_move 19 = .ok (.iaload, 1) := by decide +kernel
theorem dX2_move_20 : decode cX2_move 20 = .ok (.iload_n 2, 1) := by decide +kernel
theorem dX2_move_21 : decode cX2_move 21 = .ok (.iadd, 1) := by decide +kernel
theorem dX2_move_22 : decode cX2_move 22 = .ok (.iastore, 1) := by decide +kernel
theorem dX2_move_23 : decode cX2_move 23 = .ok (.return_, 1) := by decide +kernel
theorem dX2_moved_0 : decode cX2_moved 0 = .ok (.iload_n 1, 1) := by decide +kernel
theorem dX2_moved_1 : decode cX2_moved 1 = .ok (.ifCond .lt 21, 3) := by decide +kernel
theorem dX2_moved_4 : decode cX2_moved 4 = .ok (.iload_n 1, 1) := by decide +kernel
theorem dX2_moved_5 : decode cX2_moved 5 = .ok (.aload_n 0, 1) := by decide +kernel
theorem dX2_moved_6 : decode cX2_moved 6 = .ok (.getfield 9, 3) := by decide +kernel
theorem dX2_moved_9 : decode cX2_moved 9 = .ok (.arraylength, 1) := by decide +kernel
theorem dX2_moved_10 : decode cX2_moved 10 = .ok (.if_icmp .ge 12, 3) := by decide +kernel
theorem dX2_moved_13 : decode cX2_moved 13 = .ok (.aload_n 0, 1) := by decide +kernel
theorem dX2_moved_14 : decode cX2_moved 14 = .ok (.getfield 9, 3) := by decide +kernel
theorem dX2_moved_17 : decode cX2_moved 17 = .ok (.iload_n 1, 1) := by decide +kernel
theorem dX2_moved_18 : decode cX2_moved 18 = .ok (.iaload, 1) := by decide +kernel
theorem dX2_moved_19 : decode cX2_moved 19 = .ok (.goto 4, 3) := by decide +kernel
theorem dX2_moved_22 : decode cX2_moved 22 = .ok (.iconst 0, 1) := by decide +kernel
theorem dX2_moved_23 : decode cX2_moved 23 = .ok (.ireturn, 1) := by decide +kernel
theorem dX2_liabilityBehind_0 : decode cX2_liabilityBehind 0 = .ok (.aload_n 0, 1) := by decide +kernel
theorem dX2_liabilityBehind_1 : decode cX2_liabilityBehind 1 = .ok (.getfield 15, 3) := by decide +kernel
theorem dX2_liabilityBehind_4 : decode cX2_liabilityBehind 4 = .ok (.aload_n 0, 1) := by decide +kernel
theorem dX2_liabilityBehind_5 : decode cX2_liabilityBehind 5 = .ok (.getfield 19, 3) := by decide +kernel
theorem dX2_liabilityBehind_8 : decode cX2_liabilityBehind 8 = .ok (.iload_n 1, 1) := by decide +kernel
theorem dX2_liabilityBehind_9 : decode cX2_liabilityBehind 9 = .ok (.isub, 1) := by decide +kernel
theorem dX2_liabilityBehind_10 : decode cX2_liabilityBehind 10 = .ok (.aload_n 0, 1) := by decide +kernel
theorem dX2_liabilityBehind_11 : decode cX2_liabilityBehind 11 = .ok (.getfield 22, 3) := by decide +kernel
theorem dX2_liabilityBehind_14 : decode cX2_liabilityBehind 14 = .ok (.invokestatic 25, 3) := by decide +kernel
theorem dX2_liabilityBehind_17 : decode cX2_liabilityBehind 17 = .ok (.ireturn, 1) := by decide +kernel
theorem dX2_assetBehind_0 : decode cX2_assetBehind 0 = .ok (.aload_n 0, 1) := by decide +kernel
theorem dX2_assetBehind_1 : decode cX2_assetBehind 1 = .ok (.getfield 32, 3) := by decide +kernel
theorem dX2_assetBehind_4 : decode cX2_assetBehind 4 = .ok (.istore_n 2, 1) := by decide +kernel
theorem dX2_assetBehind_5 : decode cX2_assetBehind 5 = .ok (.aload_n 0, 1) := by decide +kernel
theorem dX2_assetBehind_6 : decode cX2_assetBehind 6 = .ok (.getfield 19, 3) := by decide +kernel
theorem dX2_assetBehind_9 : decode cX2_assetBehind 9 = .ok (.istore_n 3, 1) := by decide +kernel
theorem dX2_assetBehind_10 : decode cX2_assetBehind 10 = .ok (.iload_n 3, 1) := by decide +kernel
theorem dX2_assetBehind_11 : decode cX2_assetBehind 11 = .ok (.ifCond .le 25, 3) := by decide +kernel
theorem dX2_assetBehind_14 : decode cX2_assetBehind 14 = .ok (.iload_n 3, 1) := by decide +kernel
theorem dX2_assetBehind_15 : decode cX2_assetBehind 15 = .ok (.aload_n 0, 1) := by decide +kernel
theorem dX2_assetBehind_16 : decode cX2_assetBehind 16 = .ok (.getfield 19, 3) := by decide +kernel
theorem dX2_assetBehind_19 : decode cX2_assetBehind 19 = .ok (.iload_n 1, 1) := by decide +kernel
theorem dX2_assetBehind_20 : decode cX2_assetBehind 20 = .ok (.isub, 1) := by decide +kernel
theorem dX2_assetBehind_21 : decode cX2_assetBehind 21 = .ok (.if_icmp .le 15, 3) := by decide +kernel
theorem dX2_assetBehind_24 : decode cX2_assetBehind 24 = .ok (.iload_n 2, 1) := by decide +kernel
theorem dX2_assetBehind_25 : decode cX2_assetBehind 25 = .ok (.iload_n 2, 1) := by decide +kernel
theorem dX2_assetBehind_26 : decode cX2_assetBehind 26 = .ok (.iload_n 3, 1) := by decide +kernel
theorem dX2_assetBehind_27 : decode cX2_assetBehind 27 = .ok (.idiv, 1) := by decide +kernel
theorem dX2_assetBehind_28 : decode cX2_assetBehind 28 = .ok (.isub, 1) := by decide +kernel
theorem dX2_assetBehind_29 : decode cX2_assetBehind 29 = .ok (.istore_n 2, 1) := by decide +kernel
theorem dX2_assetBehind_30 : decode cX2_assetBehind 30 = .ok (.iinc 3 (-1), 3) := by decide +kernel
theorem dX2_assetBehind_33 : decode cX2_assetBehind 33 = .ok (.goto (-23), 3) := by decide +kernel
theorem dX2_assetBehind_36 : decode cX2_assetBehind 36 = .ok (.iload_n 2, 1) := by decide +kernel
theorem dX2_assetBehind_37 : decode cX2_assetBehind 37 = .ok (.ireturn, 1) := by decide +kernel
theorem dX2_passPeriods_0 : decode cX2_passPeriods 0 = .ok (.aload_n 0, 1) := by decide +kernel
theorem dX2_passPeriods_1 : decode cX2_passPeriods 1 = .ok (.getfield 15, 3) := by decide +kernel
theorem dX2_passPeriods_4 : decode cX2_passPeriods 4 = .ok (.iload_n 1, 1) := by decide +kernel
theorem dX2_passPeriods_5 : decode cX2_passPeriods 5 = .ok (.aload_n 0, 1) := by decide +kernel
theorem dX2_passPeriods_6 : decode cX2_passPeriods 6 = .ok (.getfield 19, 3) := by decide +kernel
theorem dX2_passPeriods_9 : decode cX2_passPeriods 9 = .ok (.invokestatic 43, 3) := by decide +kernel
theorem dX2_passPeriods_12 : decode cX2_passPeriods 12 = .ok (.imul, 1) := by decide +kernel
theorem dX2_passPeriods_13 : decode cX2_passPeriods 13 = .ok (.istore_n 2, 1) := by decide +kernel
theorem dX2_passPeriods_14 : decode cX2_passPeriods 14 = .ok (.aload_n 0, 1) := by decide +kernel
theorem dX2_passPeriods_15 : decode cX2_passPeriods 15 = .ok (.iload_n 1, 1) := by decide +kernel
theorem dX2_passPeriods_16 : decode cX2_passPeriods 16 = .ok (.invokevirtual 39, 3) := by decide +kernel
theorem dX2_passPeriods_19 : decode cX2_passPeriods 19 = .ok (.istore_n 3, 1) := by decide +kernel
theorem dX2_passPeriods_20 : decode cX2_passPeriods 20 = .ok (.aload_n 0, 1) := by decide +kernel
theorem dX2_passPeriods_21 : decode cX2_passPeriods 21 = .ok (.iload_n 1, 1) := by decide +kernel
theorem dX2_passPeriods_22 : decode cX2_passPeriods 22 = .ok (.invokevirtual 49, 3) := by decide +kernel
theorem dX2_passPeriods_25 : decode cX2_passPeriods 25 = .ok (.istore 4, 2) := by decide +kernel
theorem dX2_passPeriods_27 : decode cX2_passPeriods 27 = .ok (.aload_n 0, 1) := by decide +kernel
theorem dX2_passPeriods_28 : decode cX2_passPeriods 28 = .ok (.iconst 1, 1) := by decide +kernel
theorem dX2_passPeriods_29 : decode cX2_passPeriods 29 = .ok (.iload_n 3, 1) := by decide +kernel
theorem dX2_passPeriods_30 : decode cX2_passPeriods 30 = .ok (.aload_n 0, 1) := by decide +kernel
theorem dX2_passPeriods_31 : decode cX2_passPeriods 31 = .ok (.getfield 29, 3) := by decide +kernel
theorem dX2_passPeriods_34 : decode cX2_passPeriods 34 = .ok (.isub, 1) := by decide +kernel
theorem dX2_passPeriods_35 : decode cX2_passPeriods 35 = .ok (.iload_n 2, 1) := by decide +kernel
theorem dX2_passPeriods_36 : decode cX2_passPeriods 36 = .ok (.iadd, 1) := by decide +kernel
theorem dX2_passPeriods_37 : decode cX2_passPeriods 37 = .ok (.invokevirtual 35, 3) := by decide +kernel
theorem dX2_passPeriods_40 : decode cX2_passPeriods 40 = .ok (.aload_n 0, 1) := by decide +kernel
theorem dX2_passPeriods_41 : decode cX2_passPeriods 41 = .ok (.iconst 2, 1) := by decide +kernel
theorem dX2_passPeriods_42 : decode cX2_passPeriods 42 = .ok (.iload_n 2, 1) := by decide +kernel
theorem dX2_passPeriods_43 : decode cX2_passPeriods 43 = .ok (.invokevirtual 35, 3) := by decide +kernel
theorem dX2_passPeriods_46 : decode cX2_passPeriods 46 = .ok (.aload_n 0, 1) := by decide +kernel
theorem dX2_passPeriods_47 : decode cX2_passPeriods 47 = .ok (.bipush 6, 2) := by decide +kernel
theorem dX2_passPeriods_49 : decode cX2_passPeriods 49 = .ok (.aload_n 0, 1) := by decide +kernel
theorem dX2_passPeriods_50 : decode cX2_passPeriods 50 = .ok (.getfield 32, 3) := by decide +kernel
theorem dX2_passPeriods_53 : decode cX2_passPeriods 53 = .ok (.iload 4, 2) := by decide +kernel
theorem dX2_passPeriods_55 : decode cX2_passPeriods 55 = .ok (.isub, 1) := by decide +kernel
theorem dX2_passPeriods_56 : decode cX2_passPeriods 56 = .ok (.invokevirtual 35, 3) := by decide +kernel
theorem dX2_passPeriods_59 : decode cX2_passPeriods 59 = .ok (.aload_n 0, 1) := by decide +kernel
theorem dX2_passPeriods_60 : decode cX2_passPeriods 60 = .ok (.iload_n 3, 1) := by decide +kernel
theorem dX2_passPeriods_61 : decode cX2_passPeriods 61 = .ok (.putfield 29, 3) := by decide +kernel
theorem dX2_passPeriods_64 : decode cX2_passPeriods 64 = .ok (.aload_n 0, 1) := by decide +kernel
theorem dX2_passPeriods_65 : decode cX2_passPeriods 65 = .ok (.iload 4, 2) := by decide +kernel
theorem dX2_passPeriods_67 : decode cX2_passPeriods 67 = .ok (.putfield 32, 3) := by decide +kernel
theorem dX2_passPeriods_70 : decode cX2_passPeriods 70 = .ok (.aload_n 0, 1) := by decide +kernel
theorem dX2_passPeriods_71 : decode cX2_passPeriods 71 = .ok (.iconst 0, 1) := by decide +kernel
theorem dX2_passPeriods_72 : decode cX2_passPeriods 72 = .ok (.aload_n 0, 1) := by decide +kernel
theorem dX2_passPeriods_73 : decode cX2_passPeriods 73 = .ok (.getfield 19, 3) := by decide +kernel
theorem dX2_passPeriods_76 : decode cX2_passPeriods 76 = .ok (.iload_n 1, 1) := by decide +kernel
theorem dX2_passPeriods_77 : decode cX2_passPeriods 77 = .ok (.isub, 1) := by decide +kernel
theorem dX2_passPeriods_78 : decode cX2_passPeriods 78 = .ok (.invokestatic 52, 3) := by decide +kernel
theorem dX2_passPeriods_81 : decode cX2_passPeriods 81 = .ok (.putfield 19, 3) := by decide +kernel
theorem dX2_passPeriods_84 : decode cX2_passPeriods 84 = .ok (.return_, 1) := by decide +kernel
theorem dX2_assetWithLiability_0 : decode cX2_assetWithLiability 0 = .ok (.iconst 0, 1) := by decide +kernel
theorem dX2_assetWithLiability_1 : decode cX2_assetWithLiability 1 = .ok (.aload_n 0, 1) := by decide +kernel
theorem dX2_assetWithLiability_2 : decode cX2_assetWithLiability 2 = .ok (.getfield 32, 3) := by decide +kernel
theorem dX2_assetWithLiability_5 : decode cX2_assetWithLiability 5 = .ok (.iload_n 1, 1) := by decide +kernel
theorem dX2_assetWithLiability_6 : decode cX2_assetWithLiability 6 = .ok (.iadd, 1) := by decide +kernel
theorem dX2_assetWithLiability_7 : decode cX2_assetWithLiability 7 = .ok (.aload_n 0, 1) := by decide +kernel
theorem dX2_assetWithLiability_8 : decode cX2_assetWithLiability 8 = .ok (.getfield 29, 3) := by decide +kernel
theorem dX2_assetWithLiability_11 : decode cX2_assetWithLiability 11 = .ok (.isub, 1) := by decide +kernel
theorem dX2_assetWithLiability_12 : decode cX2_assetWithLiability 12 = .ok (.invokestatic 52, 3) := by decide +kernel
theorem dX2_assetWithLiability_15 : decode cX2_assetWithLiability 15 = .ok (.ireturn, 1) := by decide +kernel
theorem dX2_measure_0 : decode cX2_measure 0 = .ok (.iload_n 1, 1) := by decide +kernel
theorem dX2_measure_1 : decode cX2_measure 1 = .ok (.iload_n 2, 1) := by decide +kernel
theorem dX2_measure_2 : decode cX2_measure 2 = .ok (.iload_n 3, 1) := by decide +kernel
theorem dX2_measure_3 : decode cX2_measure 3 = .ok (.invokestatic 25, 3) := by decide +kernel
theorem dX2_measure_6 : decode cX2_measure 6 = .ok (.istore 4, 2) := by decide +kernel
theorem dX2_measure_8 : decode cX2_measure 8 = .ok (.aload_n 0, 1) := by decide +kernel
theorem dX2_measure_9 : decode cX2_measure 9 = .ok (.iload 4, 2) := by decide +kernel
theorem dX2_measure_11 : decode cX2_measure 11 = .ok (.invokevirtual 55, 3) := by decide +kernel
theorem dX2_measure_14 : decode cX2_measure 14 = .ok (.istore 5, 2) := by decide +kernel
theorem dX2_measure_16 : decode cX2_measure 16 = .ok (.aload_n 0, 1) := by decide +kernel
theorem dX2_measure_17 : decode cX2_measure 17 = .ok (.iconst 3, 1) := by decide +kernel
theorem dX2_measure_18 : decode cX2_measure 18 = .ok (.iload 4, 2) := by decide +kernel
theorem dX2_measure_20 : decode cX2_measure 20 = .ok (.aload_n 0, 1) := by decide +kernel
theorem dX2_measure_21 : decode cX2_measure 21 = .ok (.getfield 29, 3) := by decide +kernel
theorem dX2_measure_24 : decode cX2_measure 24 = .ok (.isub, 1) := by decide +kernel
theorem dX2_measure_25 : decode cX2_measure 25 = .ok (.invokevirtual 35, 3) := by decide +kernel
theorem dX2_measure_28 : decode cX2_measure 28 = .ok (.aload_n 0, 1) := by decide +kernel
theorem dX2_measure_29 : decode cX2_measure 29 = .ok (.bipush 7, 2) := by decide +kernel
theorem dX2_measure_31 : decode cX2_measure 31 = .ok (.iload 5, 2) := by decide +kernel
theorem dX2_measure_33 : decode cX2_measure 33 = .ok (.aload_n 0, 1) := by decide +kernel
theorem dX2_measure_34 : decode cX2_measure 34 = .ok (.getfield 32, 3) := by decide +kernel
theorem dX2_measure_37 : decode cX2_measure 37 = .ok (.isub, 1) := by decide +kernel
theorem dX2_measure_38 : decode cX2_measure 38 = .ok (.invokevirtual 35, 3) := by decide +kernel
theorem dX2_measure_41 : decode cX2_measure 41 = .ok (.aload_n 0, 1) := by decide +kernel
theorem dX2_measure_42 : decode cX2_measure 42 = .ok (.iload_n 1, 1) := by decide +kernel
theorem dX2_measure_43 : decode cX2_measure 43 = .ok (.putfield 15, 3) := by decide +kernel
theorem dX2_measure_46 : decode cX2_measure 46 = .ok (.aload_n 0, 1) := by decide +kernel
theorem dX2_measure_47 : decode cX2_measure 47 = .ok (.iload_n 2, 1) := by decide +kernel
theorem dX2_measure_48 : decode cX2_measure 48 = .ok (.putfield 19, 3) := by decide +kernel
theorem dX2_measure_51 : decode cX2_measure 51 = .ok (.aload_n 0, 1) := by decide +kernel
theorem dX2_measure_52 : decode cX2_measure 52 = .ok (.iload_n 3, 1) := by decide +kernel
theorem dX2_measure_53 : decode cX2_measure 53 = .ok (.putfield 22, 3) := by decide +kernel
theorem dX2_measure_56 : decode cX2_measure 56 = .ok (.aload_n 0, 1) := by decide +kernel
theorem dX2_measure_57 : decode cX2_measure 57 = .ok (.iload 4, 2) := by decide +kernel
theorem dX2_measure_59 : decode cX2_measure 59 = .ok (.putfield 29, 3) := by decide +kernel
theorem dX2_measure_62 : decode cX2_measure 62 = .ok (.aload_n 0, 1) := by decide +kernel
theorem dX2_measure_63 : decode cX2_measure 63 = .ok (.iload 5, 2) := by decide +kernel
theorem dX2_measure_65 : decode cX2_measure 65 = .ok (.putfield 32, 3) := by decide +kernel
theorem dX2_measure_68 : decode cX2_measure 68 = .ok (.return_, 1) := by decide +kernel
theorem dX2_endThousandths_0 : decode cX2_endThousandths 0 = .ok (.aload_n 0, 1) := by decide +kernel
theorem dX2_endThousandths_1 : decode cX2_endThousandths 1 = .ok (.dup, 1) := by decide +kernel
theorem dX2_endThousandths_2 : decode cX2_endThousandths 2 = .ok (.getfield 15, 3) := by decide +kernel
theorem dX2_endThousandths_5 : decode cX2_endThousandths 5 = .ok (.aload_n 0, 1) := by decide +kernel
theorem dX2_endThousandths_6 : decode cX2_endThousandths 6 = .ok (.getfield 15, 3) := by decide +kernel
theorem dX2_endThousandths_9 : decode cX2_endThousandths 9 = .ok (.iload_n 1, 1) := by decide +kernel
theorem dX2_endThousandths_10 : decode cX2_endThousandths 10 = .ok (.invokestatic 58, 3) := by decide +kernel
theorem dX2_endThousandths_13 : decode cX2_endThousandths 13 = .ok (.isub, 1) := by decide +kernel
theorem dX2_endThousandths_14 : decode cX2_endThousandths 14 = .ok (.putfield 15, 3) := by decide +kernel
theorem dX2_endThousandths_17 : decode cX2_endThousandths 17 = .ok (.aload_n 0, 1) := by decide +kernel
theorem dX2_endThousandths_18 : decode cX2_endThousandths 18 = .ok (.getfield 29, 3) := by decide +kernel
theorem dX2_endThousandths_21 : decode cX2_endThousandths 21 = .ok (.aload_n 0, 1) := by decide +kernel
theorem dX2_endThousandths_22 : decode cX2_endThousandths 22 = .ok (.getfield 15, 3) := by decide +kernel
theorem dX2_endThousandths_25 : decode cX2_endThousandths 25 = .ok (.aload_n 0, 1) := by decide +kernel
theorem dX2_endThousandths_26 : decode cX2_endThousandths 26 = .ok (.getfield 19, 3) := by decide +kernel
theorem dX2_endThousandths_29 : decode cX2_endThousandths 29 = .ok (.aload_n 0, 1) := by decide +kernel
theorem dX2_endThousandths_30 : decode cX2_endThousandths 30 = .ok (.getfield 22, 3) := by decide +kernel
theorem dX2_endThousandths_33 : decode cX2_endThousandths 33 = .ok (.invokestatic 25, 3) := by decide +kernel
theorem dX2_endThousandths_36 : decode cX2_endThousandths 36 = .ok (.isub, 1) := by decide +kernel
theorem dX2_endThousandths_37 : decode cX2_endThousandths 37 = .ok (.istore_n 3, 1) := by decide +kernel
theorem dX2_endThousandths_38 : decode cX2_endThousandths 38 = .ok (.aload_n 0, 1) := by decide +kernel
theorem dX2_endThousandths_39 : decode cX2_endThousandths 39 = .ok (.getfield 32, 3) := by decide +kernel
theorem dX2_endThousandths_42 : decode cX2_endThousandths 42 = .ok (.iload_n 1, 1) := by decide +kernel
theorem dX2_endThousandths_43 : decode cX2_endThousandths 43 = .ok (.invokestatic 58, 3) := by decide +kernel
theorem dX2_endThousandths_46 : decode cX2_endThousandths 46 = .ok (.istore 4, 2) := by decide +kernel
theorem dX2_endThousandths_48 : decode cX2_endThousandths 48 = .ok (.aload_n 0, 1) := by decide +kernel
theorem dX2_endThousandths_49 : decode cX2_endThousandths 49 = .ok (.dup, 1) := by decide +kernel
theorem dX2_endThousandths_50 : decode cX2_endThousandths 50 = .ok (.getfield 29, 3) := by decide +kernel
theorem dX2_endThousandths_53 : decode cX2_endThousandths 53 = .ok (.iload_n 3, 1) := by decide +kernel
theorem dX2_endThousandths_54 : decode cX2_endThousandths 54 = .ok (.isub, 1) := by decide +kernel
theorem dX2_endThousandths_55 : decode cX2_endThousandths 55 = .ok (.putfield 29, 3) := by decide +kernel
theorem dX2_endThousandths_58 : decode cX2_endThousandths 58 = .ok (.aload_n 0, 1) := by decide +kernel
theorem dX2_endThousandths_59 : decode cX2_endThousandths 59 = .ok (.dup, 1) := by decide +kernel
theorem dX2_endThousandths_60 : decode cX2_endThousandths 60 = .ok (.getfield 32, 3) := by decide +kernel
theorem dX2_endThousandths_63 : decode cX2_endThousandths 63 = .ok (.iload 4, 2) := by decide +kernel
theorem dX2_endThousandths_65 : decode cX2_endThousandths 65 = .ok (.isub, 1) := by decide +kernel
theorem dX2_endThousandths_66 : decode cX2_endThousandths 66 = .ok (.putfield 32, 3) := by decide +kernel
theorem dX2_endThousandths_69 : decode cX2_endThousandths 69 = .ok (.aload_n 0, 1) := by decide +kernel
theorem dX2_endThousandths_70 : decode cX2_endThousandths 70 = .ok (.iconst 4, 1) := by decide +kernel
theorem dX2_endThousandths_71 : decode cX2_endThousandths 71 = .ok (.iload_n 3, 1) := by decide +kernel
theorem dX2_endThousandths_72 : decode cX2_endThousandths 72 = .ok (.invokevirtual 35, 3) := by decide +kernel
theorem dX2_endThousandths_75 : decode cX2_endThousandths 75 = .ok (.aload_n 0, 1) := by decide +kernel
theorem dX2_endThousandths_76 : decode cX2_endThousandths 76 = .ok (.bipush 8, 2) := by decide +kernel
theorem dX2_endThousandths_78 : decode cX2_endThousandths 78 = .ok (.iload 4, 2) := by decide +kernel
theorem dX2_endThousandths_80 : decode cX2_endThousandths 80 = .ok (.invokevirtual 35, 3) := by decide +kernel
theorem dX2_endThousandths_83 : decode cX2_endThousandths 83 = .ok (.aload_n 0, 1) := by decide +kernel
theorem dX2_endThousandths_84 : decode cX2_endThousandths 84 = .ok (.bipush 16, 2) := by decide +kernel
theorem dX2_endThousandths_86 : decode cX2_endThousandths 86 = .ok (.iload_n 2, 1) := by decide +kernel
theorem dX2_endThousandths_87 : decode cX2_endThousandths 87 = .ok (.invokevirtual 35, 3) := by decide +kernel
theorem dX2_endThousandths_90 : decode cX2_endThousandths 90 = .ok (.iload_n 3, 1) := by decide +kernel
theorem dX2_endThousandths_91 : decode cX2_endThousandths 91 = .ok (.iload 4, 2) := by decide +kernel
theorem dX2_endThousandths_93 : decode cX2_endThousandths 93 = .ok (.isub, 1) := by decide +kernel
theorem dX2_endThousandths_94 : decode cX2_endThousandths 94 = .ok (.iload_n 2, 1) := by decide +kernel
theorem dX2_endThousandths_95 : decode cX2_endThousandths 95 = .ok (.isub, 1) := by decide +kernel
theorem dX2_endThousandths_96 : decode cX2_endThousandths 96 = .ok (.ireturn, 1) := by decide +kernel
theorem dX2_subletThousandths_0 : decode cX2_subletThousandths 0 = .ok (.aload_n 0, 1) := by decide +kernel
theorem dX2_subletThousandths_1 : decode cX2_subletThousandths 1 = .ok (.getfield 32, 3) := by decide +kernel
theorem dX2_subletThousandths_4 : decode cX2_subletThousandths 4 = .ok (.iload_n 1, 1) := by decide +kernel
theorem dX2_subletThousandths_5 : decode cX2_subletThousandths 5 = .ok (.invokestatic 58, 3) := by decide +kernel
theorem dX2_subletThousandths_8 : decode cX2_subletThousandths 8 = .ok (.istore_n 3, 1) := by decide +kernel
theorem dX2_subletThousandths_9 : decode cX2_subletThousandths 9 = .ok (.aload_n 0, 1) := by decide +kernel
theorem dX2_subletThousandths_10 : decode cX2_subletThousandths 10 = .ok (.dup, 1) := by decide +kernel
theorem dX2_subletThousandths_11 : decode cX2_subletThousandths 11 = .ok (.getfield 32, 3) := by decide +kernel
theorem dX2_subletThousandths_14 : decode cX2_subletThousandths 14 = .ok (.iload_n 3, 1) := by decide +kernel
theorem dX2_subletThousandths_15 : decode cX2_subletThousandths 15 = .ok (.isub, 1) := by decide +kernel
theorem dX2_subletThousandths_16 : decode cX2_subletThousandths 16 = .ok (.putfield 32, 3) := by decide +kernel
theorem dX2_subletThousandths_19 : decode cX2_subletThousandths 19 = .ok (.aload_n 0, 1) := by decide +kernel
theorem dX2_subletThousandths_20 : decode cX2_subletThousandths 20 = .ok (.bipush 9, 2) := by decide +kernel
theorem dX2_subletThousandths_22 : decode cX2_subletThousandths 22 = .ok (.iload_n 3, 1) := by decide +kernel
theorem dX2_subletThousandths_23 : decode cX2_subletThousandths 23 = .ok (.invokevirtual 35, 3) := by decide +kernel
theorem dX2_subletThousandths_26 : decode cX2_subletThousandths 26 = .ok (.aload_n 0, 1) := by decide +kernel
theorem dX2_subletThousandths_27 : decode cX2_subletThousandths 27 = .ok (.bipush 11, 2) := by decide +kernel
theorem dX2_subletThousandths_29 : decode cX2_subletThousandths 29 = .ok (.iload_n 2, 1) := by decide +kernel
theorem dX2_subletThousandths_30 : decode cX2_subletThousandths 30 = .ok (.invokevirtual 35, 3) := by decide +kernel
theorem dX2_subletThousandths_33 : decode cX2_subletThousandths 33 = .ok (.return_, 1) := by decide +kernel
theorem dX2_impairBy_0 : decode cX2_impairBy 0 = .ok (.aload_n 0, 1) := by decide +kernel
theorem dX2_impairBy_1 : decode cX2_impairBy 1 = .ok (.dup, 1) := by decide +kernel
theorem dX2_impairBy_2 : decode cX2_impairBy 2 = .ok (.getfield 32, 3) := by decide +kernel
theorem dX2_impairBy_5 : decode cX2_impairBy 5 = .ok (.iload_n 1, 1) := by decide +kernel
theorem dX2_impairBy_6 : decode cX2_impairBy 6 = .ok (.isub, 1) := by decide +kernel
theorem dX2_impairBy_7 : decode cX2_impairBy 7 = .ok (.putfield 32, 3) := by decide +kernel
theorem dX2_impairBy_10 : decode cX2_impairBy 10 = .ok (.aload_n 0, 1) := by decide +kernel
theorem dX2_impairBy_11 : decode cX2_impairBy 11 = .ok (.bipush 10, 2) := by decide +kernel
theorem dX2_impairBy_13 : decode cX2_impairBy 13 = .ok (.iload_n 1, 1) := by decide +kernel
theorem dX2_impairBy_14 : decode cX2_impairBy 14 = .ok (.invokevirtual 35, 3) := by decide +kernel
theorem dX2_impairBy_17 : decode cX2_impairBy 17 = .ok (.return_, 1) := by decide +kernel
theorem dX2_profitByMovements_0 : decode cX2_profitByMovements 0 = .ok (.aload_n 0, 1) := by decide +kernel
theorem dX2_profitByMovements_1 : decode cX2_profitByMovements 1 = .ok (.bipush 7, 2) := by decide +kernel
theorem dX2_profitByMovements_3 : decode cX2_profitByMovements 3 = .ok (.invokevirtual 61, 3) := by decide +kernel
theorem dX2_profitByMovements_6 : decode cX2_profitByMovements 6 = .ok (.aload_n 0, 1) := by decide +kernel
theorem dX2_profitByMovements_7 : decode cX2_profitByMovements 7 = .ok (.iconst 3, 1) := by decide +kernel
theorem dX2_profitByMovements_8 : decode cX2_profitByMovements 8 = .ok (.invokevirtual 61, 3) := by decide +kernel
theorem dX2_profitByMovements_11 : decode cX2_profitByMovements 11 = .ok (.isub, 1) := by decide +kernel
theorem dX2_profitByMovements_12 : decode cX2_profitByMovements 12 = .ok (.aload_n 0, 1) := by decide +kernel
theorem dX2_profitByMovements_13 : decode cX2_profitByMovements 13 = .ok (.iconst 1, 1) := by decide +kernel
theorem dX2_profitByMovements_14 : decode cX2_profitByMovements 14 = .ok (.invokevirtual 61, 3) := by decide +kernel
theorem dX2_profitByMovements_17 : decode cX2_profitByMovements 17 = .ok (.isub, 1) := by decide +kernel
theorem dX2_profitByMovements_18 : decode cX2_profitByMovements 18 = .ok (.aload_n 0, 1) := by decide +kernel
theorem dX2_profitByMovements_19 : decode cX2_profitByMovements 19 = .ok (.bipush 6, 2) := by decide +kernel
theorem dX2_profitByMovements_21 : decode cX2_profitByMovements 21 = .ok (.invokevirtual 61, 3) := by decide +kernel
theorem dX2_profitByMovements_24 : decode cX2_profitByMovements 24 = .ok (.isub, 1) := by decide +kernel
theorem dX2_profitByMovements_25 : decode cX2_profitByMovements 25 = .ok (.aload_n 0, 1) := by decide +kernel
theorem dX2_profitByMovements_26 : decode cX2_profitByMovements 26 = .ok (.iconst 4, 1) := by decide +kernel
theorem dX2_profitByMovements_27 : decode cX2_profitByMovements 27 = .ok (.invokevirtual 61, 3) := by decide +kernel
theorem dX2_profitByMovements_30 : decode cX2_profitByMovements 30 = .ok (.iadd, 1) := by decide +kernel
theorem dX2_profitByMovements_31 : decode cX2_profitByMovements 31 = .ok (.aload_n 0, 1) := by decide +kernel
theorem dX2_profitByMovements_32 : decode cX2_profitByMovements 32 = .ok (.bipush 8, 2) := by decide +kernel
theorem dX2_profitByMovements_34 : decode cX2_profitByMovements 34 = .ok (.invokevirtual 61, 3) := by decide +kernel
theorem dX2_profitByMovements_37 : decode cX2_profitByMovements 37 = .ok (.isub, 1) := by decide +kernel
theorem dX2_profitByMovements_38 : decode cX2_profitByMovements 38 = .ok (.aload_n 0, 1) := by decide +kernel
theorem dX2_profitByMovements_39 : decode cX2_profitByMovements 39 = .ok (.bipush 16, 2) := by decide +kernel
theorem dX2_profitByMovements_41 : decode cX2_profitByMovements 41 = .ok (.invokevirtual 61, 3) := by decide +kernel
theorem dX2_profitByMovements_44 : decode cX2_profitByMovements 44 = .ok (.isub, 1) := by decide +kernel
theorem dX2_profitByMovements_45 : decode cX2_profitByMovements 45 = .ok (.aload_n 0, 1) := by decide +kernel
theorem dX2_profitByMovements_46 : decode cX2_profitByMovements 46 = .ok (.bipush 11, 2) := by decide +kernel
theorem dX2_profitByMovements_48 : decode cX2_profitByMovements 48 = .ok (.invokevirtual 61, 3) := by decide +kernel
theorem dX2_profitByMovements_51 : decode cX2_profitByMovements 51 = .ok (.iadd, 1) := by decide +kernel
theorem dX2_profitByMovements_52 : decode cX2_profitByMovements 52 = .ok (.aload_n 0, 1) := by decide +kernel
theorem dX2_profitByMovements_53 : decode cX2_profitByMovements 53 = .ok (.bipush 9, 2) := by decide +kernel
theorem dX2_profitByMovements_55 : decode cX2_profitByMovements 55 = .ok (.invokevirtual 61, 3) := by decide +kernel
theorem dX2_profitByMovements_58 : decode cX2_profitByMovements 58 = .ok (.isub, 1) := by decide +kernel
theorem dX2_profitByMovements_59 : decode cX2_profitByMovements 59 = .ok (.aload_n 0, 1) := by decide +kernel
theorem dX2_profitByMovements_60 : decode cX2_profitByMovements 60 = .ok (.bipush 12, 2) := by decide +kernel
theorem dX2_profitByMovements_62 : decode cX2_profitByMovements 62 = .ok (.invokevirtual 61, 3) := by decide +kernel
theorem dX2_profitByMovements_65 : decode cX2_profitByMovements 65 = .ok (.iadd, 1) := by decide +kernel
theorem dX2_profitByMovements_66 : decode cX2_profitByMovements 66 = .ok (.aload_n 0, 1) := by decide +kernel
theorem dX2_profitByMovements_67 : decode cX2_profitByMovements 67 = .ok (.bipush 14, 2) := by decide +kernel
theorem dX2_profitByMovements_69 : decode cX2_profitByMovements 69 = .ok (.invokevirtual 61, 3) := by decide +kernel
theorem dX2_profitByMovements_72 : decode cX2_profitByMovements 72 = .ok (.isub, 1) := by decide +kernel
theorem dX2_profitByMovements_73 : decode cX2_profitByMovements 73 = .ok (.aload_n 0, 1) := by decide +kernel
theorem dX2_profitByMovements_74 : decode cX2_profitByMovements 74 = .ok (.bipush 10, 2) := by decide +kernel
theorem dX2_profitByMovements_76 : decode cX2_profitByMovements 76 = .ok (.invokevirtual 61, 3) := by decide +kernel
theorem dX2_profitByMovements_79 : decode cX2_profitByMovements 79 = .ok (.isub, 1) := by decide +kernel
theorem dX2_profitByMovements_80 : decode cX2_profitByMovements 80 = .ok (.ireturn, 1) := by decide +kernel
theorem dX2_profitByHoldings_0 : decode cX2_profitByHoldings 0 = .ok (.aload_n 0, 1) := by decide +kernel
theorem dX2_profitByHoldings_1 : decode cX2_profitByHoldings 1 = .ok (.getfield 32, 3) := by decide +kernel
theorem dX2_profitByHoldings_4 : decode cX2_profitByHoldings 4 = .ok (.iload_n 1, 1) := by decide +kernel
theorem dX2_profitByHoldings_5 : decode cX2_profitByHoldings 5 = .ok (.iadd, 1) := by decide +kernel
theorem dX2_profitByHoldings_6 : decode cX2_profitByHoldings 6 = .ok (.aload_n 0, 1) := by decide +kernel
theorem dX2_profitByHoldings_7 : decode cX2_profitByHoldings 7 = .ok (.getfield 29, 3) := by decide +kernel
theorem dX2_profitByHoldings_10 : decode cX2_profitByHoldings 10 = .ok (.isub, 1) := by decide +kernel
theorem dX2_profitByHoldings_11 : decode cX2_profitByHoldings 11 = .ok (.aload_n 0, 1) := by decide +kernel
theorem dX2_profitByHoldings_12 : decode cX2_profitByHoldings 12 = .ok (.bipush 13, 2) := by decide +kernel
theorem dX2_profitByHoldings_14 : decode cX2_profitByHoldings 14 = .ok (.invokevirtual 61, 3) := by decide +kernel
theorem dX2_profitByHoldings_17 : decode cX2_profitByHoldings 17 = .ok (.iadd, 1) := by decide +kernel
theorem dX2_profitByHoldings_18 : decode cX2_profitByHoldings 18 = .ok (.aload_n 0, 1) := by decide +kernel
theorem dX2_profitByHoldings_19 : decode cX2_profitByHoldings 19 = .ok (.iconst 2, 1) := by decide +kernel
theorem dX2_profitByHoldings_20 : decode cX2_profitByHoldings 20 = .ok (.invokevirtual 61, 3) := by decide +kernel
theorem dX2_profitByHoldings_23 : decode cX2_profitByHoldings 23 = .ok (.isub, 1) := by decide +kernel
theorem dX2_profitByHoldings_24 : decode cX2_profitByHoldings 24 = .ok (.aload_n 0, 1) := by decide +kernel
theorem dX2_profitByHoldings_25 : decode cX2_profitByHoldings 25 = .ok (.bipush 15, 2) := by decide +kernel
theorem dX2_profitByHoldings_27 : decode cX2_profitByHoldings 27 = .ok (.invokevirtual 61, 3) := by decide +kernel
theorem dX2_profitByHoldings_30 : decode cX2_profitByHoldings 30 = .ok (.isub, 1) := by decide +kernel
theorem dX2_profitByHoldings_31 : decode cX2_profitByHoldings 31 = .ok (.aload_n 0, 1) := by decide +kernel
theorem dX2_profitByHoldings_32 : decode cX2_profitByHoldings 32 = .ok (.bipush 16, 2) := by decide +kernel
theorem dX2_profitByHoldings_34 : decode cX2_profitByHoldings 34 = .ok (.invokevirtual 61, 3) := by decide +kernel
theorem dX2_profitByHoldings_37 : decode cX2_profitByHoldings 37 = .ok (.isub, 1) := by decide +kernel
theorem dX2_profitByHoldings_38 : decode cX2_profitByHoldings 38 = .ok (.ireturn, 1) := by decide +kernel
theorem dX3_init_0 : decode cX3_init 0 = .ok (.aload_n 0, 1) := by decide +kernel
theorem dX3_init_1 : decode cX3_init 1 = .ok (.invokespecial 3, 3) := by decide +kernel
theorem dX3_init_4 : decode cX3_init 4 = .ok (.aload_n 0, 1) := by decide +kernel
theorem dX3_init_5 : decode cX3_init 5 = .ok (.iconst 4, 1) := by decide +kernel
theorem dX3_init_6 : decode cX3_init 6 = .ok (.newarray .int, 2) := by decide +kernel
theorem dX3_init_8 : decode cX3_init 8 = .ok (.putfield 9, 3) := by decide +kernel
theorem dX3_init_11 : decode cX3_init 11 = .ok (.return_, 1) := by decide +kernel
theorem dX4_init_0 : decode cX4_init 0 = .ok (.aload_n 0, 1) := by decide +kernel
theorem dX4_init_1 : decode cX4_init 1 = .ok (.invokespecial 3, 3) := by decide +kernel
theorem dX4_init_4 : decode cX4_init 4 = .ok (.aload_n 0, 1) := by decide +kernel
theorem dX4_init_5 : decode cX4_init 5 = .ok (.bipush 8, 2) := by decide +kernel
theorem dX4_init_7 : decode cX4_init 7 = .ok (.anewarray 9, 3) := by decide +kernel
theorem dX4_init_10 : decode cX4_init 10 = .ok (.putfield 11, 3) := by decide +kernel
theorem dX4_init_13 : decode cX4_init 13 = .ok (.aload_n 0, 1) := by decide +kernel
theorem dX4_init_14 : decode cX4_init 14 = .ok (.bipush 12, 2) := by decide +kernel
theorem dX4_init_16 : decode cX4_init 16 = .ok (.anewarray 17, 3) := by decide +kernel
theorem dX4_init_19 : decode cX4_init 19 = .ok (.putfield 19, 3) := by decide +kernel
theorem dX4_init_22 : decode cX4_init 22 = .ok (.iconst 0, 1) := by decide +kernel
theorem dX4_init_23 : decode cX4_init 23 = .ok (.istore_n 1, 1) := by decide +kernel
theorem dX4_init_24 : decode cX4_init 24 = .ok (.iload_n 1, 1) := by decide +kernel
theorem dX4_init_25 : decode cX4_init 25 = .ok (.aload_n 0, 1) := by decide +kernel
theorem dX4_init_26 : decode cX4_init 26 = .ok (.getfield 11, 3) := by decide +kernel
theorem dX4_init_29 : decode cX4_init 29 = .ok (.arraylength, 1) := by decide +kernel
theorem dX4_init_30 : decode cX4_init 30 = .ok (.if_icmp .ge 22, 3) := by decide +kernel
theorem dX4_init_33 : decode cX4_init 33 = .ok (.aload_n 0, 1) := by decide +kernel
theorem dX4_init_34 : decode cX4_init 34 = .ok (.getfield 11, 3) := by decide +kernel
theorem dX4_init_37 : decode cX4_init 37 = .ok (.iload_n 1, 1) := by decide +kernel
theorem dX4_init_38 : decode cX4_init 38 = .ok (.new 9, 3) := by decide +kernel
theorem dX4_init_41 : decode cX4_init 41 = .ok (.dup, 1) := by decide +kernel
theorem dX4_init_42 : decode cX4_init 42 = .ok (.invokespecial 23, 3) := by decide +kernel
theorem dX4_init_45 : decode cX4_init 45 = .ok (.aastore, 1) := by decide +kernel
theorem dX4_init_46 : decode cX4_init 46 = .ok (.iinc 1 1, 3) := by decide +kernel
theorem dX4_init_49 : decode cX4_init 49 = .ok (.goto (-25), 3) := by decide +kernel
theorem dX4_init_52 : decode cX4_init 52 = .ok (.iconst 0, 1) := by decide +kernel
theorem dX4_init_53 : decode cX4_init 53 = .ok (.istore_n 1, 1) := by decide +kernel
theorem dX4_init_54 : decode cX4_init 54 = .ok (.iload_n 1, 1) := by decide +kernel
theorem dX4_init_55 : decode cX4_init 55 = .ok (.aload_n 0, 1) := by decide +kernel
theorem dX4_init_56 : decode cX4_init 56 = .ok (.getfield 19, 3) := by decide +kernel
theorem dX4_init_59 : decode cX4_init 59 = .ok (.arraylength, 1) := by decide +kernel
theorem dX4_init_60 : decode cX4_init 60 = .ok (.if_icmp .ge 22, 3) := by decide +kernel
theorem dX4_init_63 : decode cX4_init 63 = .ok (.aload_n 0, 1) := by decide +kernel
theorem dX4_init_64 : decode cX4_init 64 = .ok (.getfield 19, 3) := by decide +kernel
theorem dX4_init_67 : decode cX4_init 67 = .ok (.iload_n 1, 1) := by decide +kernel
theorem dX4_init_68 : decode cX4_init 68 = .ok (.new 17, 3) := by decide +kernel
theorem dX4_init_71 : decode cX4_init 71 = .ok (.dup, 1) := by decide +kernel
theorem dX4_init_72 : decode cX4_init 72 = .ok (.invokespecial 24, 3) := by decide +kernel
theorem dX4_init_75 : decode cX4_init 75 = .ok (.aastore, 1) := by decide +kernel
theorem dX4_init_76 : decode cX4_init 76 = .ok (.iinc 1 1, 3) := by decide +kernel
theorem dX4_init_79 : decode cX4_init 79 = .ok (.goto (-25), 3) := by decide +kernel
theorem dX4_init_82 : decode cX4_init 82 = .ok (.return_, 1) := by decide +kernel
theorem dX4_copyFrom_0 : decode cX4_copyFrom 0 = .ok (.aload_n 0, 1) := by decide +kernel
theorem dX4_copyFrom_1 : decode cX4_copyFrom 1 = .ok (.aload_n 1, 1) := by decide +kernel
theorem dX4_copyFrom_2 : decode cX4_copyFrom 2 = .ok (.getfield 25, 3) := by decide +kernel
theorem dX4_copyFrom_5 : decode cX4_copyFrom 5 = .ok (.putfield 25, 3) := by decide +kernel
theorem dX4_copyFrom_8 : decode cX4_copyFrom 8 = .ok (.aload_n 0, 1) := by decide +kernel
theorem dX4_copyFrom_9 : decode cX4_copyFrom 9 = .ok (.aload_n 1, 1) := by decide +kernel
theorem dX4_copyFrom_10 : decode cX4_copyFrom 10 = .ok (.getfield 29, 3) := by decide +kernel
theorem dX4_copyFrom_13 : decode cX4_copyFrom 13 = .ok (.putfield 29, 3) := by decide +kernel
theorem dX4_copyFrom_16 : decode cX4_copyFrom 16 = .ok (.aload_n 0, 1) := by decide +kernel
theorem dX4_copyFrom_17 : decode cX4_copyFrom 17 = .ok (.aload_n 1, 1) := by decide +kernel
theorem dX4_copyFrom_18 : decode cX4_copyFrom 18 = .ok (.getfield 32, 3) := by decide +kernel
theorem dX4_copyFrom_21 : decode cX4_copyFrom 21 = .ok (.putfield 32, 3) := by decide +kernel
theorem dX4_copyFrom_24 : decode cX4_copyFrom 24 = .ok (.iconst 0, 1) := by decide +kernel
theorem dX4_copyFrom_25 : decode cX4_copyFrom 25 = .ok (.istore_n 2, 1) := by decide +kernel
theorem dX4_copyFrom_26 : decode cX4_copyFrom 26 = .ok (.iload_n 2, 1) := by decide +kernel
theorem dX4_copyFrom_27 : decode cX4_copyFrom 27 = .ok (.aload_n 0, 1) := by decide +kernel
theorem dX4_copyFrom_28 : decode cX4_copyFrom 28 = .ok (.getfield 25, 3) := by decide +kernel
theorem dX4_copyFrom_31 : decode cX4_copyFrom 31 = .ok (.if_icmp .ge 37, 3) := by decide +kernel
theorem dX4_copyFrom_34 : decode cX4_copyFrom 34 = .ok (.aload_n 0, 1) := by decide +kernel
theorem dX4_copyFrom_35 : decode cX4_copyFrom 35 = .ok (.iload_n 2, 1) := by decide +kernel
theorem dX4_copyFrom_36 : decode cX4_copyFrom 36 = .ok (.invokevirtual 35, 3) := by decide +kernel
theorem dX4_copyFrom_39 : decode cX4_copyFrom 39 = .ok (.astore_n 3, 1) := by decide +kernel
theorem dX4_copyFrom_40 : decode cX4_copyFrom 40 = .ok (.aload_n 1, 1) := by decide +kernel
theorem dX4_copyFrom_41 : decode cX4_copyFrom 41 = .ok (.iload_n 2, 1) := by decide +kernel
theorem dX4_copyFrom_42 : decode cX4_copyFrom 42 = .ok (.invokevirtual 35, 3) := by decide +kernel
theorem dX4_copyFrom_45 : decode cX4_copyFrom 45 = .ok (.astore 4, 2) := by decide +kernel
theorem dX4_copyFrom_47 : decode cX4_copyFrom 47 = .ok (.aload_n 3, 1) := by decide +kernel
theorem dX4_copyFrom_48 : decode cX4_copyFrom 48 = .ok (.ifnull 14, 3) := by decide +kernel
theorem dX4_copyFrom_51 : decode cX4_copyFrom 51 = .ok (.aload 4, 2) := by decide +kernel
theorem dX4_copyFrom_53 : decode cX4_copyFrom 53 = .ok (.ifnull 9, 3) := by decide +kernel
theorem dX4_copyFrom_56 : decode cX4_copyFrom 56 = .ok (.aload_n 3, 1) := by decide +kernel
theorem dX4_copyFrom_57 : decode cX4_copyFrom 57 = .ok (.aload 4, 2) := by decide +kernel
theorem dX4_copyFrom_59 : decode cX4_copyFrom 59 = .ok (.invokevirtual 39, 3) := by decide +kernel
theorem dX4_copyFrom_62 : decode cX4_copyFrom 62 = .ok (.iinc 2 1, 3) := by decide +kernel
theorem dX4_copyFrom_65 : decode cX4_copyFrom 65 = .ok (.goto (-39), 3) := by decide +kernel
theorem dX4_copyFrom_68 : decode cX4_copyFrom 68 = .ok (.iconst 0, 1) := by decide +kernel
theorem dX4_copyFrom_69 : decode cX4_copyFrom 69 = .ok (.istore_n 2, 1) := by decide +kernel
theorem dX4_copyFrom_70 : decode cX4_copyFrom 70 = .ok (.iload_n 2, 1) := by decide +kernel
theorem dX4_copyFrom_71 : decode cX4_copyFrom 71 = .ok (.aload_n 0, 1) := by decide +kernel
theorem dX4_copyFrom_72 : decode cX4_copyFrom 72 = .ok (.getfield 29, 3) := by decide +kernel
theorem dX4_copyFrom_75 : decode cX4_copyFrom 75 = .ok (.if_icmp .ge 37, 3) := by decide +kernel
theorem dX4_copyFrom_78 : decode cX4_copyFrom 78 = .ok (.aload_n 0, 1) := by decide +kernel
theorem dX4_copyFrom_79 : decode cX4_copyFrom 79 = .ok (.iload_n 2, 1) := by decide +kernel
theorem dX4_copyFrom_80 : decode cX4_copyFrom 80 = .ok (.invokevirtual 43, 3) := by decide +kernel
theorem dX4_copyFrom_83 : decode cX4_copyFrom 83 = .ok (.astore_n 3, 1) := by decide +kernel
theorem dX4_copyFrom_84 : decode cX4_copyFrom 84 = .ok (.aload_n 1, 1) := by decide +kernel
theorem dX4_copyFrom_85 : decode cX4_copyFrom 85 = .ok (.iload_n 2, 1) := by decide +kernel
theorem dX4_copyFrom_86 : decode cX4_copyFrom 86 = .ok (.invokevirtual 43, 3) := by decide +kernel
theorem dX4_copyFrom_89 : decode cX4_copyFrom 89 = .ok (.astore 4, 2) := by decide +kernel
theorem dX4_copyFrom_91 : decode cX4_copyFrom 91 = .ok (.aload_n 3, 1) := by decide +kernel
theorem dX4_copyFrom_92 : decode cX4_copyFrom 92 = .ok (.ifnull 14, 3) := by decide +kernel
theorem dX4_copyFrom_95 : decode cX4_copyFrom 95 = .ok (.aload 4, 2) := by decide +kernel
theorem dX4_copyFrom_97 : decode cX4_copyFrom 97 = .ok (.ifnull 9, 3) := by decide +kernel
theorem dX4_copyFrom_100 : decode cX4_copyFrom 100 = .ok (.aload_n 3, 1) := by decide +kernel
theorem dX4_copyFrom_101 : decode cX4_copyFrom 101 = .ok (.aload 4, 2) := by decide +kernel
theorem dX4_copyFrom_103 : decode cX4_copyFrom 103 = .ok (.invokevirtual 47, 3) := by decide +kernel
theorem dX4_copyFrom_106 : decode cX4_copyFrom 106 = .ok (.iinc 2 1, 3) := by decide +kernel
theorem dX4_copyFrom_109 : decode cX4_copyFrom 109 = .ok (.goto (-39), 3) := by decide +kernel
theorem dX4_copyFrom_112 : decode cX4_copyFrom 112 = .ok (.return_, 1) := by decide +kernel
theorem dX4_leaseAt_0 : decode cX4_leaseAt 0 = .ok (.iload_n 1, 1) := by decide +kernel
theorem dX4_leaseAt_1 : decode cX4_leaseAt 1 = .ok (.ifCond .lt 29, 3) := by decide +kernel
theorem dX4_leaseAt_4 : decode cX4_leaseAt 4 = .ok (.iload_n 1, 1) := by decide +kernel
theorem dX4_leaseAt_5 : decode cX4_leaseAt 5 = .ok (.aload_n 0, 1) := by decide +kernel
theorem dX4_leaseAt_6 : decode cX4_leaseAt 6 = .ok (.getfield 25, 3) := by decide +kernel
theorem dX4_leaseAt_9 : decode cX4_leaseAt 9 = .ok (.if_icmp .ge 21, 3) := by decide +kernel
theorem dX4_leaseAt_12 : decode cX4_leaseAt 12 = .ok (.iload_n 1, 1) := by decide +kernel
theorem dX4_leaseAt_13 : decode cX4_leaseAt 13 = .ok (.aload_n 0, 1) := by decide +kernel
theorem dX4_leaseAt_14 : decode cX4_leaseAt 14 = .ok (.getfield 11, 3) := by decide +kernel
theorem dX4_leaseAt_17 : decode cX4_leaseAt 17 = .ok (.arraylength, 1) := by decide +kernel
theorem dX4_leaseAt_18 : decode cX4_leaseAt 18 = .ok (.if_icmp .ge 12, 3) := by decide +kernel
theorem dX4_leaseAt_21 : decode cX4_leaseAt 21 = .ok (.aload_n 0, 1) := by decide +kernel
theorem dX4_leaseAt_22 : decode cX4_leaseAt 22 = .ok (.getfield 11, 3) := by decide +kernel
theorem dX4_leaseAt_25 : decode cX4_leaseAt 25 = .ok (.iload_n 1, 1) := by decide +kernel
theorem dX4_leaseAt_26 : decode cX4_leaseAt 26 = .ok (.aaload, 1) := by decide +kernel
theorem dX4_leaseAt_27 : decode cX4_leaseAt 27 = .ok (.goto 4, 3) := by decide +kernel
theorem dX4_leaseAt_30 : decode cX4_leaseAt 30 = .ok (.aconst_null, 1) := by decide +kernel
theorem dX4_leaseAt_31 : decode cX4_leaseAt 31 = .ok (.areturn, 1) := by decide +kernel
theorem dX4_subleaseAt_0 : decode cX4_subleaseAt 0 = .ok (.iload_n 1, 1) := by decide +kernel
theorem dX4_subleaseAt_1 : decode cX4_subleaseAt 1 = .ok (.ifCond .lt 29, 3) := by decide +kernel
theorem dX4_subleaseAt_4 : decode cX4_subleaseAt 4 = .ok (.iload_n 1, 1) := by decide +kernel
theorem dX4_subleaseAt_5 : decode cX4_subleaseAt 5 = .ok (.aload_n 0, 1) := by decide +kernel
theorem dX4_subleaseAt_6 : decode cX4_subleaseAt 6 = .ok (.getfield 29, 3) := by decide +kernel
theorem dX4_subleaseAt_9 : decode cX4_subleaseAt 9 = .ok (.if_icmp .ge 21, 3) := by decide +kernel
theorem dX4_subleaseAt_12 : decode cX4_subleaseAt 12 = .ok (.iload_n 1, 1) := by decide +kernel
theorem dX4_subleaseAt_13 : decode cX4_subleaseAt 13 = .ok (.aload_n 0, 1) := by decide +kernel
theorem dX4_subleaseAt_14 : decode cX4_subleaseAt 14 = .ok (.getfield 19, 3) := by decide +kernel
theorem dX4_subleaseAt_17 : decode cX4_subleaseAt 17 = .ok (.arraylength, 1) := by decide +kernel
theorem dX4_subleaseAt_18 : decode cX4_subleaseAt 18 = .ok (.if_icmp .ge 12, 3) := by decide +kernel
theorem dX4_subleaseAt_21 : decode cX4_subleaseAt 21 = .ok (.aload_n 0, 1) := by decide +kernel
theorem dX4_subleaseAt_22 : decode cX4_subleaseAt 22 = .ok (.getfield 19, 3) := by decide +kernel
theorem dX4_subleaseAt_25 : decode cX4_subleaseAt 25 = .ok (.iload_n 1, 1) := by decide +kernel
theorem dX4_subleaseAt_26 : decode cX4_subleaseAt 26 = .ok (.aaload, 1) := by decide +kernel
theorem dX4_subleaseAt_27 : decode cX4_subleaseAt 27 = .ok (.goto 4, 3) := by decide +kernel
theorem dX4_subleaseAt_30 : decode cX4_subleaseAt 30 = .ok (.aconst_null, 1) := by decide +kernel
theorem dX4_subleaseAt_31 : decode cX4_subleaseAt 31 = .ok (.areturn, 1) := by decide +kernel
theorem dX4_addLease_0 : decode cX4_addLease 0 = .ok (.aload_n 0, 1) := by decide +kernel
theorem dX4_addLease_1 : decode cX4_addLease 1 = .ok (.getfield 25, 3) := by decide +kernel
theorem dX4_addLease_4 : decode cX4_addLease 4 = .ok (.istore 5, 2) := by decide +kernel
theorem dX4_addLease_6 : decode cX4_addLease 6 = .ok (.aload_n 0, 1) := by decide +kernel
theorem dX4_addLease_7 : decode cX4_addLease 7 = .ok (.dup, 1) := by decide +kernel
theorem dX4_addLease_8 : decode cX4_addLease 8 = .ok (.getfield 25, 3) := by decide +kernel
theorem dX4_addLease_11 : decode cX4_addLease 11 = .ok (.iconst 1, 1) := by decide +kernel
theorem dX4_addLease_12 : decode cX4_addLease 12 = .ok (.iadd, 1) := by decide +kernel
theorem dX4_addLease_13 : decode cX4_addLease 13 = .ok (.putfield 25, 3) := by decide +kernel
theorem dX4_addLease_16 : decode cX4_addLease 16 = .ok (.aload_n 0, 1) := by decide +kernel
theorem dX4_addLease_17 : decode cX4_addLease 17 = .ok (.iload 5, 2) := by decide +kernel
theorem dX4_addLease_19 : decode cX4_addLease 19 = .ok (.invokevirtual 35, 3) := by decide +kernel
theorem dX4_addLease_22 : decode cX4_addLease 22 = .ok (.astore 6, 2) := by decide +kernel
theorem dX4_addLease_24 : decode cX4_addLease 24 = .ok (.aload 6, 2) := by decide +kernel
theorem dX4_addLease_26 : decode cX4_addLease 26 = .ok (.ifnull 13, 3) := by decide +kernel
theorem dX4_addLease_29 : decode cX4_addLease 29 = .ok (.aload 6, 2) := by decide +kernel
theorem dX4_addLease_31 : decode cX4_addLease 31 = .ok (.iload_n 1, 1) := by decide +kernel
theorem dX4_addLease_32 : decode cX4_addLease 32 = .ok (.iload_n 2, 1) := by decide +kernel
theorem dX4_addLease_33 : decode cX4_addLease 33 = .ok (.iload_n 3, 1) := by decide +kernel
theorem dX4_addLease_34 : decode cX4_addLease 34 = .ok (.iload 4, 2) := by decide +kernel
theorem dX4_addLease_36 : decode cX4_addLease 36 = .ok (.invokevirtual 50, 3) := by decide +kernel
theorem dX4_addLease_39 : decode cX4_addLease 39 = .ok (.iload 5, 2) := by decide +kernel
theorem dX4_addLease_41 : decode cX4_addLease 41 = .ok (.ireturn, 1) := by decide +kernel
theorem dX4_addSublease_0 : decode cX4_addSublease 0 = .ok (.aload_n 0, 1) := by decide +kernel
theorem dX4_addSublease_1 : decode cX4_addSublease 1 = .ok (.getfield 29, 3) := by decide +kernel
theorem dX4_addSublease_4 : decode cX4_addSublease 4 = .ok (.istore 6, 2) := by decide +kernel
theorem dX4_addSublease_6 : decode cX4_addSublease 6 = .ok (.aload_n 0, 1) := by decide +kernel
theorem dX4_addSublease_7 : decode cX4_addSublease 7 = .ok (.dup, 1) := by decide +kernel
theorem dX4_addSublease_8 : decode cX4_addSublease 8 = .ok (.getfield 29, 3) := by decide +kernel
theorem dX4_addSublease_11 : decode cX4_addSublease 11 = .ok (.iconst 1, 1) := by decide +kernel
theorem dX4_addSublease_12 : decode cX4_addSublease 12 = .ok (.iadd, 1) := by decide +kernel
theorem dX4_addSublease_13 : decode cX4_addSublease 13 = .ok (.putfield 29, 3) := by decide +kernel
theorem dX4_addSublease_16 : decode cX4_addSublease 16 = .ok (.aload_n 0, 1) := by decide +kernel
theorem dX4_addSublease_17 : decode cX4_addSublease 17 = .ok (.iload 6, 2) := by decide +kernel
theorem dX4_addSublease_19 : decode cX4_addSublease 19 = .ok (.invokevirtual 43, 3) := by decide +kernel
theorem dX4_addSublease_22 : decode cX4_addSublease 22 = .ok (.astore 7, 2) := by decide +kernel
theorem dX4_addSublease_24 : decode cX4_addSublease 24 = .ok (.aload 7, 2) := by decide +kernel
theorem dX4_addSublease_26 : decode cX4_addSublease 26 = .ok (.ifnull 60, 3) := by decide +kernel
theorem dX4_addSublease_29 : decode cX4_addSublease 29 = .ok (.aload 7, 2) := by decide +kernel
theorem dX4_addSublease_31 : decode cX4_addSublease 31 = .ok (.iload_n 1, 1) := by decide +kernel
theorem dX4_addSublease_32 : decode cX4_addSublease 32 = .ok (.putfield 54, 3) := by decide +kernel
theorem dX4_addSublease_35 : decode cX4_addSublease 35 = .ok (.aload 7, 2) := by decide +kernel
theorem dX4_addSublease_37 : decode cX4_addSublease 37 = .ok (.iload_n 3, 1) := by decide +kernel
theorem dX4_addSublease_38 : decode cX4_addSublease 38 = .ok (.putfield 57, 3) := by decide +kernel
theorem dX4_addSublease_41 : decode cX4_addSublease 41 = .ok (.aload 7, 2) := by decide +kernel
theorem dX4_addSublease_43 : decode cX4_addSublease 43 = .ok (.iload 4, 2) := by decide +kernel
theorem dX4_addSublease_45 : decode cX4_addSublease 45 = .ok (.putfield 60, 3) := by decide +kernel
theorem dX4_addSublease_48 : decode cX4_addSublease 48 = .ok (.aload 7, 2) := by decide +kernel
theorem dX4_addSublease_50 : decode cX4_addSublease 50 = .ok (.iload 5, 2) := by decide +kernel
theorem dX4_addSublease_52 : decode cX4_addSublease 52 = .ok (.putfield 63, 3) := by decide +kernel
theorem dX4_addSublease_55 : decode cX4_addSublease 55 = .ok (.aload 7, 2) := by decide +kernel
theorem dX4_addSublease_57 : decode cX4_addSublease 57 = .ok (.aload_n 2, 1) := by decide +kernel
theorem dX4_addSublease_58 : decode cX4_addSublease 58 = .ok (.getfield 66, 3) := by decide +kernel
theorem dX4_addSublease_61 : decode cX4_addSublease 61 = .ok (.putfield 69, 3) := by decide +kernel
theorem dX4_addSublease_64 : decode cX4_addSublease 64 = .ok (.aload 7, 2) := by decide +kernel
theorem dX4_addSublease_66 : decode cX4_addSublease 66 = .ok (.aload 7, 2) := by decide +kernel
theorem dX4_addSublease_68 : decode cX4_addSublease 68 = .ok (.iload 5, 2) := by decide +kernel
theorem dX4_addSublease_70 : decode cX4_addSublease 70 = .ok (.invokevirtual 70, 3) := by decide +kernel
theorem dX4_addSublease_73 : decode cX4_addSublease 73 = .ok (.putfield 74, 3) := by decide +kernel
theorem dX4_addSublease_76 : decode cX4_addSublease 76 = .ok (.aload_n 2, 1) := by decide +kernel
theorem dX4_addSublease_77 : decode cX4_addSublease 77 = .ok (.iload_n 3, 1) := by decide +kernel
theorem dX4_addSublease_78 : decode cX4_addSublease 78 = .ok (.aload 7, 2) := by decide +kernel
theorem dX4_addSublease_80 : decode cX4_addSublease 80 = .ok (.getfield 74, 3) := by decide +kernel
theorem dX4_addSublease_83 : decode cX4_addSublease 83 = .ok (.invokevirtual 77, 3) := by decide +kernel
theorem dX4_addSublease_86 : decode cX4_addSublease 86 = .ok (.iload 6, 2) := by decide +kernel
theorem dX4_addSublease_88 : decode cX4_addSublease 88 = .ok (.ireturn, 1) := by decide +kernel
theorem dX4_leaseProperty_0 : decode cX4_leaseProperty 0 = .ok (.aload_n 0, 1) := by decide +kernel
theorem dX4_leaseProperty_1 : decode cX4_leaseProperty 1 = .ok (.iload_n 1, 1) := by decide +kernel
theorem dX4_leaseProperty_2 : decode cX4_leaseProperty 2 = .ok (.invokevirtual 35, 3) := by decide +kernel
theorem dX4_leaseProperty_5 : decode cX4_leaseProperty 5 = .ok (.astore_n 3, 1) := by decide +kernel
theorem dX4_leaseProperty_6 : decode cX4_leaseProperty 6 = .ok (.aload_n 3, 1) := by decide +kernel
theorem dX4_leaseProperty_7 : decode cX4_leaseProperty 7 = .ok (.ifnonnull 5, 3) := by decide +kernel
theorem dX4_leaseProperty_10 : decode cX4_leaseProperty 10 = .ok (.iconst (-1), 1) := by decide +kernel
theorem dX4_leaseProperty_11 : decode cX4_leaseProperty 11 = .ok (.ireturn, 1) := by decide +kernel
theorem dX4_leaseProperty_12 : decode cX4_leaseProperty 12 = .ok (.iload_n 2, 1) := by decide +kernel
theorem dX4_leaseProperty_13 : decode cX4_leaseProperty 13 = .ok (.tableswitch 98 0 7 #[47, 52, 57, 62, 67, 72, 79, 91], 47) := by decide +kernel
theorem dX4_leaseProperty_60 : decode cX4_leaseProperty 60 = .ok (.aload_n 3, 1) := by decide +kernel
theorem dX4_leaseProperty_61 : decode cX4_leaseProperty 61 = .ok (.getfield 81, 3) := by decide +kernel
theorem dX4_leaseProperty_64 : decode cX4_leaseProperty 64 = .ok (.ireturn, 1) := by decide +kernel
theorem dX4_leaseProperty_65 : decode cX4_leaseProperty 65 = .ok (.aload_n 3, 1) := by decide +kernel
theorem dX4_leaseProperty_66 : decode cX4_leaseProperty 66 = .ok (.getfield 84, 3) := by decide +kernel
theorem dX4_leaseProperty_69 : decode cX4_leaseProperty 69 = .ok (.ireturn, 1) := by decide +kernel
theorem dX4_leaseProperty_70 : decode cX4_leaseProperty 70 = .ok (.aload_n 3, 1) := by decide +kernel
theorem dX4_leaseProperty_71 : decode cX4_leaseProperty 71 = .ok (.getfield 66, 3) := by decide +kernel
theorem dX4_leaseProperty_74 : decode cX4_leaseProperty 74 = .ok (.ireturn, 1) := by decide +kernel
theorem dX4_leaseProperty_75 : decode cX4_leaseProperty 75 = .ok (.aload_n 3, 1) := by decide +kernel
theorem dX4_leaseProperty_76 : decode cX4_leaseProperty 76 = .ok (.getfield 85, 3) := by decide +kernel
theorem dX4_leaseProperty_79 : decode cX4_leaseProperty 79 = .ok (.ireturn, 1) := by decide +kernel
theorem dX4_leaseProperty_80 : decode cX4_leaseProperty 80 = .ok (.aload_n 3, 1) := by decide +kernel
theorem dX4_leaseProperty_81 : decode cX4_leaseProperty 81 = .ok (.getfield 88, 3) := by decide +kernel
theorem dX4_leaseProperty_84 : decode cX4_leaseProperty 84 = .ok (.ireturn, 1) := by decide +kernel
theorem dX4_leaseProperty_85 : decode cX4_leaseProperty 85 = .ok (.aload_n 0, 1) := by decide +kernel
theorem dX4_leaseProperty_86 : decode cX4_leaseProperty 86 = .ok (.iload_n 1, 1) := by decide +kernel
theorem dX4_leaseProperty_87 : decode cX4_leaseProperty 87 = .ok (.iconst 5, 1) := by decide +kernel
theorem dX4_leaseProperty_88 : decode cX4_leaseProperty 88 = .ok (.invokevirtual 91, 3) := by decide +kernel
theorem dX4_leaseProperty_91 : decode cX4_leaseProperty 91 = .ok (.ireturn, 1) := by decide +kernel
theorem dX4_leaseProperty_92 : decode cX4_leaseProperty 92 = .ok (.aload_n 3, 1) := by decide +kernel
theorem dX4_leaseProperty_93 : decode cX4_leaseProperty 93 = .ok (.getfield 85, 3) := by decide +kernel
theorem dX4_leaseProperty_96 : decode cX4_leaseProperty 96 = .ok (.aload_n 0, 1) := by decide +kernel
theorem dX4_leaseProperty_97 : decode cX4_leaseProperty 97 = .ok (.iload_n 1, 1) := by decide +kernel
theorem dX4_leaseProperty_98 : decode cX4_leaseProperty 98 = .ok (.iconst 5, 1) := by decide +kernel
theorem dX4_leaseProperty_99 : decode cX4_leaseProperty 99 = .ok (.invokevirtual 91, 3) := by decide +kernel
theorem dX4_leaseProperty_102 : decode cX4_leaseProperty 102 = .ok (.isub, 1) := by decide +kernel
theorem dX4_leaseProperty_103 : decode cX4_leaseProperty 103 = .ok (.ireturn, 1) := by decide +kernel
theorem dX4_leaseProperty_104 : decode cX4_leaseProperty 104 = .ok (.aload_n 0, 1) := by decide +kernel
theorem dX4_leaseProperty_105 : decode cX4_leaseProperty 105 = .ok (.iload_n 1, 1) := by decide +kernel
theorem dX4_leaseProperty_106 : decode cX4_leaseProperty 106 = .ok (.iconst 1, 1) := by decide +kernel
theorem dX4_leaseProperty_107 : decode cX4_leaseProperty 107 = .ok (.invokevirtual 91, 3) := by decide +kernel
theorem dX4_leaseProperty_110 : decode cX4_leaseProperty 110 = .ok (.ireturn, 1) := by decide +kernel
theorem dX4_leaseProperty_111 : decode cX4_leaseProperty 111 = .ok (.aload_n 0, 1) := by decide +kernel
theorem dX4_leaseProperty_112 : decode cX4_leaseProperty 112 = .ok (.iload_n 1, 1) := by decide +kernel
theorem dX4_leaseProperty_113 : decode cX4_leaseProperty 113 = .ok (.invokevirtual 95, 3) := by decide +kernel
theorem dX4_leaseProperty_116 : decode cX4_leaseProperty 116 = .ok (.ireturn, 1) := by decide +kernel
theorem dX4_subleaseProperty_0 : decode cX4_subleaseProperty 0 = .ok (.aload_n 0, 1) := by decide +kernel
theorem dX4_subleaseProperty_1 : decode cX4_subleaseProperty 1 = .ok (.iload_n 1, 1) := by decide +kernel
theorem dX4_subleaseProperty_2 : decode cX4_subleaseProperty 2 = .ok (.invokevirtual 43, 3) := by decide +kernel
theorem dX4_subleaseProperty_5 : decode cX4_subleaseProperty 5 = .ok (.astore_n 3, 1) := by decide +kernel
theorem dX4_subleaseProperty_6 : decode cX4_subleaseProperty 6 = .ok (.aload_n 3, 1) := by decide +kernel
theorem dX4_subleaseProperty_7 : decode cX4_subleaseProperty 7 = .ok (.ifnonnull 7, 3) := by decide +kernel
theorem dX4_subleaseProperty_10 : decode cX4_subleaseProperty 10 = .ok (.iconst (-1), 1) := by decide +kernel
theorem dX4_subleaseProperty_11 : decode cX4_subleaseProperty 11 = .ok (.goto 8, 3) := by decide +kernel
theorem dX4_subleaseProperty_14 : decode cX4_subleaseProperty 14 = .ok (.aload_n 3, 1) := by decide +kernel
theorem dX4_subleaseProperty_15 : decode cX4_subleaseProperty 15 = .ok (.iload_n 2, 1) := by decide +kernel
theorem dX4_subleaseProperty_16 : decode cX4_subleaseProperty 16 = .ok (.invokevirtual 98, 3) := by decide +kernel
theorem dX4_subleaseProperty_19 : decode cX4_subleaseProperty 19 = .ok (.ireturn, 1) := by decide +kernel
theorem dX4_canSublet_0 : decode cX4_canSublet 0 = .ok (.aload_n 0, 1) := by decide +kernel
theorem dX4_canSublet_1 : decode cX4_canSublet 1 = .ok (.iload_n 1, 1) := by decide +kernel
theorem dX4_canSublet_2 : decode cX4_canSublet 2 = .ok (.invokevirtual 35, 3) := by decide +kernel
theorem dX4_canSublet_5 : decode cX4_canSublet 5 = .ok (.astore 4, 2) := by decide +kernel
theorem dX4_canSublet_7 : decode cX4_canSublet 7 = .ok (.aload 4, 2) := by decide +kernel
theorem dX4_canSublet_9 : decode cX4_canSublet 9 = .ok (.ifnull 39, 3) := by decide +kernel
theorem dX4_canSublet_12 : decode cX4_canSublet 12 = .ok (.iload_n 3, 1) := by decide +kernel
theorem dX4_canSublet_13 : decode cX4_canSublet 13 = .ok (.aload 4, 2) := by decide +kernel
theorem dX4_canSublet_15 : decode cX4_canSublet 15 = .ok (.getfield 84, 3) := by decide +kernel
theorem dX4_canSublet_18 : decode cX4_canSublet 18 = .ok (.if_icmp .gt 30, 3) := by decide +kernel
theorem dX4_canSublet_21 : decode cX4_canSublet 21 = .ok (.aload_n 0, 1) := by decide +kernel
theorem dX4_canSublet_22 : decode cX4_canSublet 22 = .ok (.getfield 29, 3) := by decide +kernel
theorem dX4_canSublet_25 : decode cX4_canSublet 25 = .ok (.bipush 12, 2) := by decide +kernel
theorem dX4_canSublet_27 : decode cX4_canSublet 27 = .ok (.if_icmp .ge 21, 3) := by decide +kernel
theorem dX4_canSublet_30 : decode cX4_canSublet 30 = .ok (.aload_n 0, 1) := by decide +kernel
theorem dX4_canSublet_31 : decode cX4_canSublet 31 = .ok (.iload_n 1, 1) := by decide +kernel
theorem dX4_canSublet_32 : decode cX4_canSublet 32 = .ok (.iconst 1, 1) := by decide +kernel
theorem dX4_canSublet_33 : decode cX4_canSublet 33 = .ok (.invokevirtual 91, 3) := by decide +kernel
theorem dX4_canSublet_36 : decode cX4_canSublet 36 = .ok (.iload_n 2, 1) := by decide +kernel
theorem dX4_canSublet_37 : decode cX4_canSublet 37 = .ok (.iadd, 1) := by decide +kernel
theorem dX4_canSublet_38 : decode cX4_canSublet 38 = .ok (.sipush 1000, 3) := by decide +kernel
theorem dX4_canSublet_41 : decode cX4_canSublet 41 = .ok (.if_icmp .gt 7, 3) := by decide +kernel
theorem dX4_canSublet_44 : decode cX4_canSublet 44 = .ok (.iconst 1, 1) := by decide +kernel
theorem dX4_canSublet_45 : decode cX4_canSublet 45 = .ok (.goto 4, 3) := by decide +kernel
theorem dX4_canSublet_48 : decode cX4_canSublet 48 = .ok (.iconst 0, 1) := by decide +kernel
theorem dX4_canSublet_49 : decode cX4_canSublet 49 = .ok (.ireturn, 1) := by decide +kernel
theorem dX4_passPeriods_0 : decode cX4_passPeriods 0 = .ok (.aload_n 0, 1) := by decide +kernel
theorem dX4_passPeriods_1 : decode cX4_passPeriods 1 = .ok (.dup, 1) := by decide +kernel
theorem dX4_passPeriods_2 : decode cX4_passPeriods 2 = .ok (.getfield 32, 3) := by decide +kernel
theorem dX4_passPeriods_5 : decode cX4_passPeriods 5 = .ok (.iload_n 1, 1) := by decide +kernel
theorem dX4_passPeriods_6 : decode cX4_passPeriods 6 = .ok (.iadd, 1) := by decide +kernel
theorem dX4_passPeriods_7 : decode cX4_passPeriods 7 = .ok (.putfield 32, 3) := by decide +kernel
theorem dX4_passPeriods_10 : decode cX4_passPeriods 10 = .ok (.iconst 0, 1) := by decide +kernel
theorem dX4_passPeriods_11 : decode cX4_passPeriods 11 = .ok (.istore_n 2, 1) := by decide +kernel
theorem dX4_passPeriods_12 : decode cX4_passPeriods 12 = .ok (.iload_n 2, 1) := by decide +kernel
theorem dX4_passPeriods_13 : decode cX4_passPeriods 13 = .ok (.aload_n 0, 1) := by decide +kernel
theorem dX4_passPeriods_14 : decode cX4_passPeriods 14 = .ok (.getfield 25, 3) := by decide +kernel
theorem dX4_passPeriods_17 : decode cX4_passPeriods 17 = .ok (.if_icmp .ge 24, 3) := by decide +kernel
theorem dX4_passPeriods_20 : decode cX4_passPeriods 20 = .ok (.aload_n 0, 1) := by decide +kernel
theorem dX4_passPeriods_21 : decode cX4_passPeriods 21 = .ok (.iload_n 2, 1) := by decide +kernel
theorem dX4_passPeriods_22 : decode cX4_passPeriods 22 = .ok (.invokevirtual 35, 3) := by decide +kernel
theorem dX4_passPeriods_25 : decode cX4_passPeriods 25 = .ok (.astore_n 3, 1) := by decide +kernel
theorem dX4_passPeriods_26 : decode cX4_passPeriods 26 = .ok (.aload_n 3, 1) := by decide +kernel
theorem dX4_passPeriods_27 : decode cX4_passPeriods 27 = .ok (.ifnull 8, 3) := by decide +kernel
theorem dX4_passPeriods_30 : decode cX4_passPeriods 30 = .ok (.aload_n 3, 1) := by decide +kernel
theorem dX4_passPeriods_31 : decode cX4_passPeriods 31 = .ok (.iload_n 1, 1) := by decide +kernel
theorem dX4_passPeriods_32 : decode cX4_passPeriods 32 = .ok (.invokevirtual 101, 3) := by decide +kernel
theorem dX4_passPeriods_35 : decode cX4_passPeriods 35 = .ok (.iinc 2 1, 3) := by decide +kernel
theorem dX4_passPeriods_38 : decode cX4_passPeriods 38 = .ok (.goto (-26), 3) := by decide +kernel
theorem dX4_passPeriods_41 : decode cX4_passPeriods 41 = .ok (.iconst 0, 1) := by decide +kernel
theorem dX4_passPeriods_42 : decode cX4_passPeriods 42 = .ok (.istore_n 2, 1) := by decide +kernel
theorem dX4_passPeriods_43 : decode cX4_passPeriods 43 = .ok (.iload_n 2, 1) := by decide +kernel
theorem dX4_passPeriods_44 : decode cX4_passPeriods 44 = .ok (.aload_n 0, 1) := by decide +kernel
theorem dX4_passPeriods_45 : decode cX4_passPeriods 45 = .ok (.getfield 29, 3) := by decide +kernel
theorem dX4_passPeriods_48 : decode cX4_passPeriods 48 = .ok (.if_icmp .ge 49, 3) := by decide +kernel
theorem dX4_passPeriods_51 : decode cX4_passPeriods 51 = .ok (.aload_n 0, 1) := by decide +kernel
theorem dX4_passPeriods_52 : decode cX4_passPeriods 52 = .ok (.iload_n 2, 1) := by decide +kernel
theorem dX4_passPeriods_53 : decode cX4_passPeriods 53 = .ok (.invokevirtual 43, 3) := by decide +kernel
theorem dX4_passPeriods_56 : decode cX4_passPeriods 56 = .ok (.astore_n 3, 1) := by decide +kernel
theorem dX4_passPeriods_57 : decode cX4_passPeriods 57 = .ok (.aload_n 3, 1) := by decide +kernel
theorem dX4_passPeriods_58 : decode cX4_passPeriods 58 = .ok (.ifnonnull 7, 3) := by decide +kernel
theorem dX4_passPeriods_61 : decode cX4_passPeriods 61 = .ok (.aconst_null, 1) := by decide +kernel
theorem dX4_passPeriods_62 : decode cX4_passPeriods 62 = .ok (.goto 11, 3) := by decide +kernel
theorem dX4_passPeriods_65 : decode cX4_passPeriods 65 = .ok (.aload_n 0, 1) := by decide +kernel
theorem dX4_passPeriods_66 : decode cX4_passPeriods 66 = .ok (.aload_n 3, 1) := by decide +kernel
theorem dX4_passPeriods_67 : decode cX4_passPeriods 67 = .ok (.getfield 54, 3) := by decide +kernel
theorem dX4_passPeriods_70 : decode cX4_passPeriods 70 = .ok (.invokevirtual 35, 3) := by decide +kernel
theorem dX4_passPeriods_73 : decode cX4_passPeriods 73 = .ok (.astore 4, 2) := by decide +kernel
theorem dX4_passPeriods_75 : decode cX4_passPeriods 75 = .ok (.aload_n 3, 1) := by decide +kernel
theorem dX4_passPeriods_76 : decode cX4_passPeriods 76 = .ok (.ifnull 15, 3) := by decide +kernel
theorem dX4_passPeriods_79 : decode cX4_passPeriods 79 = .ok (.aload 4, 2) := by decide +kernel
theorem dX4_passPeriods_81 : decode cX4_passPeriods 81 = .ok (.ifnull 10, 3) := by decide +kernel
theorem dX4_passPeriods_84 : decode cX4_passPeriods 84 = .ok (.aload_n 3, 1) := by decide +kernel
theorem dX4_passPeriods_85 : decode cX4_passPeriods 85 = .ok (.iload_n 1, 1) := by decide +kernel
theorem dX4_passPeriods_86 : decode cX4_passPeriods 86 = .ok (.aload 4, 2) := by decide +kernel
theorem dX4_passPeriods_88 : decode cX4_passPeriods 88 = .ok (.invokevirtual 105, 3) := by decide +kernel
theorem dX4_passPeriods_91 : decode cX4_passPeriods 91 = .ok (.iinc 2 1, 3) := by decide +kernel
theorem dX4_passPeriods_94 : decode cX4_passPeriods 94 = .ok (.goto (-51), 3) := by decide +kernel
theorem dX4_passPeriods_97 : decode cX4_passPeriods 97 = .ok (.return_, 1) := by decide +kernel
theorem dX4_cutOff_0 : decode cX4_cutOff 0 = .ok (.aload_n 2, 1) := by decide +kernel
theorem dX4_cutOff_1 : decode cX4_cutOff 1 = .ok (.bipush 14, 2) := by decide +kernel
theorem dX4_cutOff_3 : decode cX4_cutOff 3 = .ok (.aload_n 0, 1) := by decide +kernel
theorem dX4_cutOff_4 : decode cX4_cutOff 4 = .ok (.iload_n 1, 1) := by decide +kernel
theorem dX4_cutOff_5 : decode cX4_cutOff 5 = .ok (.aload_n 2, 1) := by decide +kernel
theorem dX4_cutOff_6 : decode cX4_cutOff 6 = .ok (.getfield 84, 3) := by decide +kernel
theorem dX4_cutOff_9 : decode cX4_cutOff 9 = .ok (.invokevirtual 108, 3) := by decide +kernel
theorem dX4_cutOff_12 : decode cX4_cutOff 12 = .ok (.invokevirtual 111, 3) := by decide +kernel
theorem dX4_cutOff_15 : decode cX4_cutOff 15 = .ok (.iconst 0, 1) := by decide +kernel
theorem dX4_cutOff_16 : decode cX4_cutOff 16 = .ok (.istore_n 3, 1) := by decide +kernel
theorem dX4_cutOff_17 : decode cX4_cutOff 17 = .ok (.iload_n 3, 1) := by decide +kernel
theorem dX4_cutOff_18 : decode cX4_cutOff 18 = .ok (.aload_n 0, 1) := by decide +kernel
theorem dX4_cutOff_19 : decode cX4_cutOff 19 = .ok (.getfield 29, 3) := by decide +kernel
theorem dX4_cutOff_22 : decode cX4_cutOff 22 = .ok (.if_icmp .ge 62, 3) := by decide +kernel
theorem dX4_cutOff_25 : decode cX4_cutOff 25 = .ok (.aload_n 0, 1) := by decide +kernel
theorem dX4_cutOff_26 : decode cX4_cutOff 26 = .ok (.iload_n 3, 1) := by decide +kernel
theorem dX4_cutOff_27 : decode cX4_cutOff 27 = .ok (.invokevirtual 43, 3) := by decide +kernel
theorem dX4_cutOff_30 : decode cX4_cutOff 30 = .ok (.astore 4, 2) := by decide +kernel
theorem dX4_cutOff_32 : decode cX4_cutOff 32 = .ok (.aload 4, 2) := by decide +kernel
theorem dX4_cutOff_34 : decode cX4_cutOff 34 = .ok (.ifnull 44, 3) := by decide +kernel
theorem dX4_cutOff_37 : decode cX4_cutOff 37 = .ok (.aload 4, 2) := by decide +kernel
theorem dX4_cutOff_39 : decode cX4_cutOff 39 = .ok (.iload_n 1, 1) := by decide +kernel
theorem dX4_cutOff_40 : decode cX4_cutOff 40 = .ok (.invokevirtual 114, 3) := by decide +kernel
theorem dX4_cutOff_43 : decode cX4_cutOff 43 = .ok (.ifCond .eq 35, 3) := by decide +kernel
theorem dX4_cutOff_46 : decode cX4_cutOff 46 = .ok (.aload 4, 2) := by decide +kernel
theorem dX4_cutOff_48 : decode cX4_cutOff 48 = .ok (.aload 4, 2) := by decide +kernel
theorem dX4_cutOff_50 : decode cX4_cutOff 50 = .ok (.getfield 63, 3) := by decide +kernel
theorem dX4_cutOff_53 : decode cX4_cutOff 53 = .ok (.aload_n 2, 1) := by decide +kernel
theorem dX4_cutOff_54 : decode cX4_cutOff 54 = .ok (.getfield 84, 3) := by decide +kernel
theorem dX4_cutOff_57 : decode cX4_cutOff 57 = .ok (.invokestatic 118, 3) := by decide +kernel
theorem dX4_cutOff_60 : decode cX4_cutOff 60 = .ok (.putfield 63, 3) := by decide +kernel
theorem dX4_cutOff_63 : decode cX4_cutOff 63 = .ok (.aload 4, 2) := by decide +kernel
theorem dX4_cutOff_65 : decode cX4_cutOff 65 = .ok (.aload 4, 2) := by decide +kernel
theorem dX4_cutOff_67 : decode cX4_cutOff 67 = .ok (.aload 4, 2) := by decide +kernel
theorem dX4_cutOff_69 : decode cX4_cutOff 69 = .ok (.getfield 63, 3) := by decide +kernel
theorem dX4_cutOff_72 : decode cX4_cutOff 72 = .ok (.invokevirtual 70, 3) := by decide +kernel
theorem dX4_cutOff_75 : decode cX4_cutOff 75 = .ok (.putfield 74, 3) := by decide +kernel
theorem dX4_cutOff_78 : decode cX4_cutOff 78 = .ok (.iinc 3 1, 3) := by decide +kernel
theorem dX4_cutOff_81 : decode cX4_cutOff 81 = .ok (.goto (-64), 3) := by decide +kernel
theorem dX4_cutOff_84 : decode cX4_cutOff 84 = .ok (.return_, 1) := by decide +kernel
theorem dX4_lossByCutOff_0 : decode cX4_lossByCutOff 0 = .ok (.iconst 0, 1) := by decide +kernel
theorem dX4_lossByCutOff_1 : decode cX4_lossByCutOff 1 = .ok (.istore_n 3, 1) := by decide +kernel
theorem dX4_lossByCutOff_2 : decode cX4_lossByCutOff 2 = .ok (.iconst 0, 1) := by decide +kernel
theorem dX4_lossByCutOff_3 : decode cX4_lossByCutOff 3 = .ok (.istore 4, 2) := by decide +kernel
theorem dX4_lossByCutOff_5 : decode cX4_lossByCutOff 5 = .ok (.iload 4, 2) := by decide +kernel
theorem dX4_lossByCutOff_7 : decode cX4_lossByCutOff 7 = .ok (.aload_n 0, 1) := by decide +kernel
theorem dX4_lossByCutOff_8 : decode cX4_lossByCutOff 8 = .ok (.getfield 29, 3) := by decide +kernel
theorem dX4_lossByCutOff_11 : decode cX4_lossByCutOff 11 = .ok (.if_icmp .ge 40, 3) := by decide +kernel
theorem dX4_lossByCutOff_14 : decode cX4_lossByCutOff 14 = .ok (.aload_n 0, 1) := by decide +kernel
theorem dX4_lossByCutOff_15 : decode cX4_lossByCutOff 15 = .ok (.iload 4, 2) := by decide +kernel
theorem dX4_lossByCutOff_17 : decode cX4_lossByCutOff 17 = .ok (.invokevirtual 43, 3) := by decide +kernel
theorem dX4_lossByCutOff_20 : decode cX4_lossByCutOff 20 = .ok (.astore 5, 2) := by decide +kernel
theorem dX4_lossByCutOff_22 : decode cX4_lossByCutOff 22 = .ok (.aload 5, 2) := by decide +kernel
theorem dX4_lossByCutOff_24 : decode cX4_lossByCutOff 24 = .ok (.ifnull 21, 3) := by decide +kernel
theorem dX4_lossByCutOff_27 : decode cX4_lossByCutOff 27 = .ok (.aload 5, 2) := by decide +kernel
theorem dX4_lossByCutOff_29 : decode cX4_lossByCutOff 29 = .ok (.iload_n 1, 1) := by decide +kernel
theorem dX4_lossByCutOff_30 : decode cX4_lossByCutOff 30 = .ok (.invokevirtual 114, 3) := by decide +kernel
theorem dX4_lossByCutOff_33 : decode cX4_lossByCutOff 33 = .ok (.ifCond .eq 12, 3) := by decide +kernel
theorem dX4_lossByCutOff_36 : decode cX4_lossByCutOff 36 = .ok (.iload_n 3, 1) := by decide +kernel
theorem dX4_lossByCutOff_37 : decode cX4_lossByCutOff 37 = .ok (.aload 5, 2) := by decide +kernel
theorem dX4_lossByCutOff_39 : decode cX4_lossByCutOff 39 = .ok (.iload_n 2, 1) := by decide +kernel
theorem dX4_lossByCutOff_40 : decode cX4_lossByCutOff 40 = .ok (.invokevirtual 123, 3) := by decide +kernel
theorem dX4_lossByCutOff_43 : decode cX4_lossByCutOff 43 = .ok (.iadd, 1) := by decide +kernel
theorem dX4_lossByCutOff_44 : decode cX4_lossByCutOff 44 = .ok (.istore_n 3, 1) := by decide +kernel
theorem dX4_lossByCutOff_45 : decode cX4_lossByCutOff 45 = .ok (.iinc 4 1, 3) := by decide +kernel
theorem dX4_lossByCutOff_48 : decode cX4_lossByCutOff 48 = .ok (.goto (-43), 3) := by decide +kernel
theorem dX4_lossByCutOff_51 : decode cX4_lossByCutOff 51 = .ok (.iload_n 3, 1) := by decide +kernel
theorem dX4_lossByCutOff_52 : decode cX4_lossByCutOff 52 = .ok (.ireturn, 1) := by decide +kernel
theorem dX4_sumOfSubleases_0 : decode cX4_sumOfSubleases 0 = .ok (.iconst 0, 1) := by decide +kernel
theorem dX4_sumOfSubleases_1 : decode cX4_sumOfSubleases 1 = .ok (.istore_n 3, 1) := by decide +kernel
theorem dX4_sumOfSubleases_2 : decode cX4_sumOfSubleases 2 = .ok (.iconst 0, 1) := by decide +kernel
theorem dX4_sumOfSubleases_3 : decode cX4_sumOfSubleases 3 = .ok (.istore 4, 2) := by decide +kernel
theorem dX4_sumOfSubleases_5 : decode cX4_sumOfSubleases 5 = .ok (.iload 4, 2) := by decide +kernel
theorem dX4_sumOfSubleases_7 : decode cX4_sumOfSubleases 7 = .ok (.aload_n 0, 1) := by decide +kernel
theorem dX4_sumOfSubleases_8 : decode cX4_sumOfSubleases 8 = .ok (.getfield 29, 3) := by decide +kernel
theorem dX4_sumOfSubleases_11 : decode cX4_sumOfSubleases 11 = .ok (.if_icmp .ge 40, 3) := by decide +kernel
theorem dX4_sumOfSubleases_14 : decode cX4_sumOfSubleases 14 = .ok (.aload_n 0, 1) := by decide +kernel
theorem dX4_sumOfSubleases_15 : decode cX4_sumOfSubleases 15 = .ok (.iload 4, 2) := by decide +kernel
theorem dX4_sumOfSubleases_17 : decode cX4_sumOfSubleases 17 = .ok (.invokevirtual 43, 3) := by decide +kernel
theorem dX4_sumOfSubleases_20 : decode cX4_sumOfSubleases 20 = .ok (.astore 5, 2) := by decide +kernel
theorem dX4_sumOfSubleases_22 : decode cX4_sumOfSubleases 22 = .ok (.aload 5, 2) := by decide +kernel
theorem dX4_sumOfSubleases_24 : decode cX4_sumOfSubleases 24 = .ok (.ifnull 21, 3) := by decide +kernel
theorem dX4_sumOfSubleases_27 : decode cX4_sumOfSubleases 27 = .ok (.aload 5, 2) := by decide +kernel
theorem dX4_sumOfSubleases_29 : decode cX4_sumOfSubleases 29 = .ok (.iload_n 1, 1) := by decide +kernel
theorem dX4_sumOfSubleases_30 : decode cX4_sumOfSubleases 30 = .ok (.invokevirtual 114, 3) := by decide +kernel
theorem dX4_sumOfSubleases_33 : decode cX4_sumOfSubleases 33 = .ok (.ifCond .eq 12, 3) := by decide +kernel
theorem dX4_sumOfSubleases_36 : decode cX4_sumOfSubleases 36 = .ok (.iload_n 3, 1) := by decide +kernel
theorem dX4_sumOfSubleases_37 : decode cX4_sumOfSubleases 37 = .ok (.aload 5, 2) := by decide +kernel
theorem dX4_sumOfSubleases_39 : decode cX4_sumOfSubleases 39 = .ok (.iload_n 2, 1) := by decide +kernel
theorem dX4_sumOfSubleases_40 : decode cX4_sumOfSubleases 40 = .ok (.invokevirtual 98, 3) := by decide +kernel
theorem dX4_sumOfSubleases_43 : decode cX4_sumOfSubleases 43 = .ok (.iadd, 1) := by decide +kernel
theorem dX4_sumOfSubleases_44 : decode cX4_sumOfSubleases 44 = .ok (.istore_n 3, 1) := by decide +kernel
theorem dX4_sumOfSubleases_45 : decode cX4_sumOfSubleases 45 = .ok (.iinc 4 1, 3) := by decide +kernel
theorem dX4_sumOfSubleases_48 : decode cX4_sumOfSubleases 48 = .ok (.goto (-43), 3) := by decide +kernel
theorem dX4_sumOfSubleases_51 : decode cX4_sumOfSubleases 51 = .ok (.iload_n 3, 1) := by decide +kernel
theorem dX4_sumOfSubleases_52 : decode cX4_sumOfSubleases 52 = .ok (.ireturn, 1) := by decide +kernel
theorem dX4_runningOf_0 : decode cX4_runningOf 0 = .ok (.iconst 0, 1) := by decide +kernel
theorem dX4_runningOf_1 : decode cX4_runningOf 1 = .ok (.istore_n 2, 1) := by decide +kernel
theorem dX4_runningOf_2 : decode cX4_runningOf 2 = .ok (.iconst 0, 1) := by decide +kernel
theorem dX4_runningOf_3 : decode cX4_runningOf 3 = .ok (.istore_n 3, 1) := by decide +kernel
theorem dX4_runningOf_4 : decode cX4_runningOf 4 = .ok (.iload_n 3, 1) := by decide +kernel
theorem dX4_runningOf_5 : decode cX4_runningOf 5 = .ok (.aload_n 0, 1) := by decide +kernel
theorem dX4_runningOf_6 : decode cX4_runningOf 6 = .ok (.getfield 29, 3) := by decide +kernel
theorem dX4_runningOf_9 : decode cX4_runningOf 9 = .ok (.if_icmp .ge 33, 3) := by decide +kernel
theorem dX4_runningOf_12 : decode cX4_runningOf 12 = .ok (.aload_n 0, 1) := by decide +kernel
theorem dX4_runningOf_13 : decode cX4_runningOf 13 = .ok (.iload_n 3, 1) := by decide +kernel
theorem dX4_runningOf_14 : decode cX4_runningOf 14 = .ok (.invokevirtual 43, 3) := by decide +kernel
theorem dX4_runningOf_17 : decode cX4_runningOf 17 = .ok (.astore 4, 2) := by decide +kernel
theorem dX4_runningOf_19 : decode cX4_runningOf 19 = .ok (.aload 4, 2) := by decide +kernel
theorem dX4_runningOf_21 : decode cX4_runningOf 21 = .ok (.ifnull 15, 3) := by decide +kernel
theorem dX4_runningOf_24 : decode cX4_runningOf 24 = .ok (.aload 4, 2) := by decide +kernel
theorem dX4_runningOf_26 : decode cX4_runningOf 26 = .ok (.iload_n 1, 1) := by decide +kernel
theorem dX4_runningOf_27 : decode cX4_runningOf 27 = .ok (.invokevirtual 114, 3) := by decide +kernel
theorem dX4_runningOf_30 : decode cX4_runningOf 30 = .ok (.ifCond .eq 6, 3) := by decide +kernel
theorem dX4_runningOf_33 : decode cX4_runningOf 33 = .ok (.iinc 2 1, 3) := by decide +kernel
theorem dX4_runningOf_36 : decode cX4_runningOf 36 = .ok (.iinc 3 1, 3) := by decide +kernel
theorem dX4_runningOf_39 : decode cX4_runningOf 39 = .ok (.goto (-35), 3) := by decide +kernel
theorem dX4_runningOf_42 : decode cX4_runningOf 42 = .ok (.iload_n 2, 1) := by decide +kernel
theorem dX4_runningOf_43 : decode cX4_runningOf 43 = .ok (.ireturn, 1) := by decide +kernel
theorem dX4_runningLeases_0 : decode cX4_runningLeases 0 = .ok (.iconst 0, 1) := by decide +kernel
theorem dX4_runningLeases_1 : decode cX4_runningLeases 1 = .ok (.istore_n 1, 1) := by decide +kernel
theorem dX4_runningLeases_2 : decode cX4_runningLeases 2 = .ok (.iconst 0, 1) := by decide +kernel
theorem dX4_runningLeases_3 : decode cX4_runningLeases 3 = .ok (.istore_n 2, 1) := by decide +kernel
theorem dX4_runningLeases_4 : decode cX4_runningLeases 4 = .ok (.iload_n 2, 1) := by decide +kernel
theorem dX4_runningLeases_5 : decode cX4_runningLeases 5 = .ok (.aload_n 0, 1) := by decide +kernel
theorem dX4_runningLeases_6 : decode cX4_runningLeases 6 = .ok (.getfield 25, 3) := by decide +kernel
theorem dX4_runningLeases_9 : decode cX4_runningLeases 9 = .ok (.if_icmp .ge 29, 3) := by decide +kernel
theorem dX4_runningLeases_12 : decode cX4_runningLeases 12 = .ok (.aload_n 0, 1) := by decide +kernel
theorem dX4_runningLeases_13 : decode cX4_runningLeases 13 = .ok (.iload_n 2, 1) := by decide +kernel
theorem dX4_runningLeases_14 : decode cX4_runningLeases 14 = .ok (.invokevirtual 35, 3) := by decide +kernel
theorem dX4_runningLeases_17 : decode cX4_runningLeases 17 = .ok (.astore_n 3, 1) := by decide +kernel
theorem dX4_runningLeases_18 : decode cX4_runningLeases 18 = .ok (.aload_n 3, 1) := by decide +kernel
theorem dX4_runningLeases_19 : decode cX4_runningLeases 19 = .ok (.ifnull 13, 3) := by decide +kernel
theorem dX4_runningLeases_22 : decode cX4_runningLeases 22 = .ok (.aload_n 3, 1) := by decide +kernel
theorem dX4_runningLeases_23 : decode cX4_runningLeases 23 = .ok (.invokevirtual 126, 3) := by decide +kernel
theorem dX4_runningLeases_26 : decode cX4_runningLeases 26 = .ok (.ifCond .eq 6, 3) := by decide +kernel
theorem dX4_runningLeases_29 : decode cX4_runningLeases 29 = .ok (.iinc 1 1, 3) := by decide +kernel
theorem dX4_runningLeases_32 : decode cX4_runningLeases 32 = .ok (.iinc 2 1, 3) := by decide +kernel
theorem dX4_runningLeases_35 : decode cX4_runningLeases 35 = .ok (.goto (-31), 3) := by decide +kernel
theorem dX4_runningLeases_38 : decode cX4_runningLeases 38 = .ok (.iload_n 1, 1) := by decide +kernel
theorem dX4_runningLeases_39 : decode cX4_runningLeases 39 = .ok (.ireturn, 1) := by decide +kernel
theorem dX4_sumOfLeases_0 : decode cX4_sumOfLeases 0 = .ok (.iconst 0, 1) := by decide +kernel
theorem dX4_sumOfLeases_1 : decode cX4_sumOfLeases 1 = .ok (.istore_n 2, 1) := by decide +kernel
theorem dX4_sumOfLeases_2 : decode cX4_sumOfLeases 2 = .ok (.iconst 0, 1) := by decide +kernel
theorem dX4_sumOfLeases_3 : decode cX4_sumOfLeases 3 = .ok (.istore_n 3, 1) := by decide +kernel
theorem dX4_sumOfLeases_4 : decode cX4_sumOfLeases 4 = .ok (.iload_n 3, 1) := by decide +kernel
theorem dX4_sumOfLeases_5 : decode cX4_sumOfLeases 5 = .ok (.aload_n 0, 1) := by decide +kernel
theorem dX4_sumOfLeases_6 : decode cX4_sumOfLeases 6 = .ok (.getfield 25, 3) := by decide +kernel
theorem dX4_sumOfLeases_9 : decode cX4_sumOfLeases 9 = .ok (.if_icmp .ge 18, 3) := by decide +kernel
theorem dX4_sumOfLeases_12 : decode cX4_sumOfLeases 12 = .ok (.iload_n 2, 1) := by decide +kernel
theorem dX4_sumOfLeases_13 : decode cX4_sumOfLeases 13 = .ok (.aload_n 0, 1) := by decide +kernel
theorem dX4_sumOfLeases_14 : decode cX4_sumOfLeases 14 = .ok (.iload_n 3, 1) := by decide +kernel
theorem dX4_sumOfLeases_15 : decode cX4_sumOfLeases 15 = .ok (.iload_n 1, 1) := by decide +kernel
theorem dX4_sumOfLeases_16 : decode cX4_sumOfLeases 16 = .ok (.invokevirtual 130, 3) := by decide +kernel
theorem dX4_sumOfLeases_19 : decode cX4_sumOfLeases 19 = .ok (.iadd, 1) := by decide +kernel
theorem dX4_sumOfLeases_20 : decode cX4_sumOfLeases 20 = .ok (.istore_n 2, 1) := by decide +kernel
theorem dX4_sumOfLeases_21 : decode cX4_sumOfLeases 21 = .ok (.iinc 3 1, 3) := by decide +kernel
theorem dX4_sumOfLeases_24 : decode cX4_sumOfLeases 24 = .ok (.goto (-20), 3) := by decide +kernel
theorem dX4_sumOfLeases_27 : decode cX4_sumOfLeases 27 = .ok (.iload_n 2, 1) := by decide +kernel
theorem dX4_sumOfLeases_28 : decode cX4_sumOfLeases 28 = .ok (.ireturn, 1) := by decide +kernel
theorem dX4_allProfits_0 : decode cX4_allProfits 0 = .ok (.iconst 0, 1) := by decide +kernel
theorem dX4_allProfits_1 : decode cX4_allProfits 1 = .ok (.istore_n 1, 1) := by decide +kernel
theorem dX4_allProfits_2 : decode cX4_allProfits 2 = .ok (.iconst 0, 1) := by decide +kernel
theorem dX4_allProfits_3 : decode cX4_allProfits 3 = .ok (.istore_n 2, 1) := by decide +kernel
theorem dX4_allProfits_4 : decode cX4_allProfits 4 = .ok (.iload_n 2, 1) := by decide +kernel
theorem dX4_allProfits_5 : decode cX4_allProfits 5 = .ok (.aload_n 0, 1) := by decide +kernel
theorem dX4_allProfits_6 : decode cX4_allProfits 6 = .ok (.getfield 25, 3) := by decide +kernel
theorem dX4_allProfits_9 : decode cX4_allProfits 9 = .ok (.if_icmp .ge 30, 3) := by decide +kernel
theorem dX4_allProfits_12 : decode cX4_allProfits 12 = .ok (.aload_n 0, 1) := by decide +kernel
theorem dX4_allProfits_13 : decode cX4_allProfits 13 = .ok (.iload_n 2, 1) := by decide +kernel
theorem dX4_allProfits_14 : decode cX4_allProfits 14 = .ok (.invokevirtual 35, 3) := by decide +kernel
theorem dX4_allProfits_17 : decode cX4_allProfits 17 = .ok (.astore_n 3, 1) := by decide +kernel
theorem dX4_allProfits_18 : decode cX4_allProfits 18 = .ok (.iload_n 1, 1) := by decide +kernel
theorem dX4_allProfits_19 : decode cX4_allProfits 19 = .ok (.aload_n 3, 1) := by decide +kernel
theorem dX4_allProfits_20 : decode cX4_allProfits 20 = .ok (.ifnonnull 7, 3) := by decide +kernel
theorem dX4_allProfits_23 : decode cX4_allProfits 23 = .ok (.iconst 0, 1) := by decide +kernel
theorem dX4_allProfits_24 : decode cX4_allProfits 24 = .ok (.goto 7, 3) := by decide +kernel
theorem dX4_allProfits_27 : decode cX4_allProfits 27 = .ok (.aload_n 3, 1) := by decide +kernel
theorem dX4_allProfits_28 : decode cX4_allProfits 28 = .ok (.invokevirtual 133, 3) := by decide +kernel
theorem dX4_allProfits_31 : decode cX4_allProfits 31 = .ok (.iadd, 1) := by decide +kernel
theorem dX4_allProfits_32 : decode cX4_allProfits 32 = .ok (.istore_n 1, 1) := by decide +kernel
theorem dX4_allProfits_33 : decode cX4_allProfits 33 = .ok (.iinc 2 1, 3) := by decide +kernel
theorem dX4_allProfits_36 : decode cX4_allProfits 36 = .ok (.goto (-32), 3) := by decide +kernel
theorem dX4_allProfits_39 : decode cX4_allProfits 39 = .ok (.iload_n 1, 1) := by decide +kernel
theorem dX4_allProfits_40 : decode cX4_allProfits 40 = .ok (.ireturn, 1) := by decide +kernel
theorem dX4_endingFirst_0 : decode cX4_endingFirst 0 = .ok (.iconst (-1), 1) := by decide +kernel
theorem dX4_endingFirst_1 : decode cX4_endingFirst 1 = .ok (.istore_n 1, 1) := by decide +kernel
theorem dX4_endingFirst_2 : decode cX4_endingFirst 2 = .ok (.bipush 61, 2) := by decide +kernel
theorem dX4_endingFirst_4 : decode cX4_endingFirst 4 = .ok (.istore_n 2, 1) := by decide +kernel
theorem dX4_endingFirst_5 : decode cX4_endingFirst 5 = .ok (.iconst 0, 1) := by decide +kernel
theorem dX4_endingFirst_6 : decode cX4_endingFirst 6 = .ok (.istore_n 3, 1) := by decide +kernel
theorem dX4_endingFirst_7 : decode cX4_endingFirst 7 = .ok (.iload_n 3, 1) := by decide +kernel
theorem dX4_endingFirst_8 : decode cX4_endingFirst 8 = .ok (.aload_n 0, 1) := by decide +kernel
theorem dX4_endingFirst_9 : decode cX4_endingFirst 9 = .ok (.getfield 25, 3) := by decide +kernel
theorem dX4_endingFirst_12 : decode cX4_endingFirst 12 = .ok (.if_icmp .ge 46, 3) := by decide +kernel
theorem dX4_endingFirst_15 : decode cX4_endingFirst 15 = .ok (.aload_n 0, 1) := by decide +kernel
theorem dX4_endingFirst_16 : decode cX4_endingFirst 16 = .ok (.iload_n 3, 1) := by decide +kernel
theorem dX4_endingFirst_17 : decode cX4_endingFirst 17 = .ok (.invokevirtual 35, 3) := by decide +kernel
theorem dX4_endingFirst_20 : decode cX4_endingFirst 20 = .ok (.astore 4, 2) := by decide +kernel
theorem dX4_endingFirst_22 : decode cX4_endingFirst 22 = .ok (.aload 4, 2) := by decide +kernel
theorem dX4_endingFirst_24 : decode cX4_endingFirst 24 = .ok (.ifnull 28, 3) := by decide +kernel
theorem dX4_endingFirst_27 : decode cX4_endingFirst 27 = .ok (.aload 4, 2) := by decide +kernel
theorem dX4_endingFirst_29 : decode cX4_endingFirst 29 = .ok (.invokevirtual 126, 3) := by decide +kernel
theorem dX4_endingFirst_32 : decode cX4_endingFirst 32 = .ok (.ifCond .eq 20, 3) := by decide +kernel
theorem dX4_endingFirst_35 : decode cX4_endingFirst 35 = .ok (.aload 4, 2) := by decide +kernel
theorem dX4_endingFirst_37 : decode cX4_endingFirst 37 = .ok (.getfield 84, 3) := by decide +kernel
theorem dX4_endingFirst_40 : decode cX4_endingFirst 40 = .ok (.iload_n 2, 1) := by decide +kernel
theorem dX4_endingFirst_41 : decode cX4_endingFirst 41 = .ok (.if_icmp .ge 11, 3) := by decide +kernel
theorem dX4_endingFirst_44 : decode cX4_endingFirst 44 = .ok (.iload_n 3, 1) := by decide +kernel
theorem dX4_endingFirst_45 : decode cX4_endingFirst 45 = .ok (.istore_n 1, 1) := by decide +kernel
theorem dX4_endingFirst_46 : decode cX4_endingFirst 46 = .ok (.aload 4, 2) := by decide +kernel
theorem dX4_endingFirst_48 : decode cX4_endingFirst 48 = .ok (.getfield 84, 3) := by decide +kernel
theorem dX4_endingFirst_51 : decode cX4_endingFirst 51 = .ok (.istore_n 2, 1) := by decide +kernel
theorem dX4_endingFirst_52 : decode cX4_endingFirst 52 = .ok (.iinc 3 1, 3) := by decide +kernel
theorem dX4_endingFirst_55 : decode cX4_endingFirst 55 = .ok (.goto (-48), 3) := by decide +kernel
theorem dX4_endingFirst_58 : decode cX4_endingFirst 58 = .ok (.iload_n 1, 1) := by decide +kernel
theorem dX4_endingFirst_59 : decode cX4_endingFirst 59 = .ok (.ireturn, 1) := by decide +kernel
theorem dX5_init_0 : decode cX5_init 0 = .ok (.aload_n 0, 1) := by decide +kernel
theorem dX5_init_1 : decode cX5_init 1 = .ok (.invokespecial 3, 3) := by decide +kernel
theorem dX5_init_4 : decode cX5_init 4 = .ok (.return_, 1) := by decide +kernel
theorem dX5_copyFrom_0 : decode cX5_copyFrom 0 = .ok (.aload_n 0, 1) := by decide +kernel
theorem dX5_copyFrom_1 : decode cX5_copyFrom 1 = .ok (.aload_n 1, 1) := by decide +kernel
theorem dX5_copyFrom_2 : decode cX5_copyFrom 2 = .ok (.getfield 9, 3) := by decide +kernel
theorem dX5_copyFrom_5 : decode cX5_copyFrom 5 = .ok (.putfield 9, 3) := by decide +kernel
theorem dX5_copyFrom_8 : decode cX5_copyFrom 8 = .ok (.aload_n 0, 1) := by decide +kernel
theorem dX5_copyFrom_9 : decode cX5_copyFrom 9 = .ok (.aload_n 1, 1) := by decide +kernel
theorem dX5_copyFrom_10 : decode cX5_copyFrom 10 = .ok (.getfield 15, 3) := by decide +kernel
theorem dX5_copyFrom_13 : decode cX5_copyFrom 13 = .ok (.putfield 15, 3) := by decide +kernel
theorem dX5_copyFrom_16 : decode cX5_copyFrom 16 = .ok (.aload_n 0, 1) := by decide +kernel
theorem dX5_copyFrom_17 : decode cX5_copyFrom 17 = .ok (.aload_n 1, 1) := by decide +kernel
theorem dX5_copyFrom_18 : decode cX5_copyFrom 18 = .ok (.getfield 18, 3) := by decide +kernel
theorem dX5_copyFrom_21 : decode cX5_copyFrom 21 = .ok (.putfield 18, 3) := by decide +kernel
theorem dX5_copyFrom_24 : decode cX5_copyFrom 24 = .ok (.aload_n 0, 1) := by decide +kernel
theorem dX5_copyFrom_25 : decode cX5_copyFrom 25 = .ok (.aload_n 1, 1) := by decide +kernel
theorem dX5_copyFrom_26 : decode cX5_copyFrom 26 = .ok (.getfield 21, 3) := by decide +kernel
theorem dX5_copyFrom_29 : decode cX5_copyFrom 29 = .ok (.putfield 21, 3) := by decide +kernel
theorem dX5_copyFrom_32 : decode cX5_copyFrom 32 = .ok (.aload_n 0, 1) := by decide +kernel
theorem dX5_copyFrom_33 : decode cX5_copyFrom 33 = .ok (.aload_n 1, 1) := by decide +kernel
theorem dX5_copyFrom_34 : decode cX5_copyFrom 34 = .ok (.getfield 24, 3) := by decide +kernel
theorem dX5_copyFrom_37 : decode cX5_copyFrom 37 = .ok (.putfield 24, 3) := by decide +kernel
theorem dX5_copyFrom_40 : decode cX5_copyFrom 40 = .ok (.aload_n 0, 1) := by decide +kernel
theorem dX5_copyFrom_41 : decode cX5_copyFrom 41 = .ok (.aload_n 1, 1) := by decide +kernel
theorem dX5_copyFrom_42 : decode cX5_copyFrom 42 = .ok (.getfield 27, 3) := by decide +kernel
theorem dX5_copyFrom_45 : decode cX5_copyFrom 45 = .ok (.putfield 27, 3) := by decide +kernel
theorem dX5_copyFrom_48 : decode cX5_copyFrom 48 = .ok (.return_, 1) := by decide +kernel
theorem dX5_runsUnder_0 : decode cX5_runsUnder 0 = .ok (.aload_n 0, 1) := by decide +kernel
theorem dX5_runsUnder_1 : decode cX5_runsUnder 1 = .ok (.getfield 9, 3) := by decide +kernel
theorem dX5_runsUnder_4 : decode cX5_runsUnder 4 = .ok (.iload_n 1, 1) := by decide +kernel
theorem dX5_runsUnder_5 : decode cX5_runsUnder 5 = .ok (.if_icmp .ne 14, 3) := by decide +kernel
theorem dX5_runsUnder_8 : decode cX5_runsUnder 8 = .ok (.aload_n 0, 1) := by decide +kernel
theorem dX5_runsUnder_9 : decode cX5_runsUnder 9 = .ok (.getfield 21, 3) := by decide +kernel
theorem dX5_runsUnder_12 : decode cX5_runsUnder 12 = .ok (.ifCond .le 7, 3) := by decide +kernel
theorem dX5_runsUnder_15 : decode cX5_runsUnder 15 = .ok (.iconst 1, 1) := by decide +kernel
theorem dX5_runsUnder_16 : decode cX5_runsUnder 16 = .ok (.goto 4, 3) := by decide +kernel
theorem dX5_runsUnder_19 : decode cX5_runsUnder 19 = .ok (.iconst 0, 1) := by decide +kernel
theorem dX5_runsUnder_20 : decode cX5_runsUnder 20 = .ok (.ireturn, 1) := by decide +kernel
theorem dX5_receivableWith_0 : decode cX5_receivableWith 0 = .ok (.aload_n 0, 1) := by decide +kernel
theorem dX5_receivableWith_1 : decode cX5_receivableWith 1 = .ok (.getfield 18, 3) := by decide +kernel
theorem dX5_receivableWith_4 : decode cX5_receivableWith 4 = .ok (.iload_n 1, 1) := by decide +kernel
theorem dX5_receivableWith_5 : decode cX5_receivableWith 5 = .ok (.aload_n 0, 1) := by decide +kernel
theorem dX5_receivableWith_6 : decode cX5_receivableWith 6 = .ok (.getfield 24, 3) := by decide +kernel
theorem dX5_receivableWith_9 : decode cX5_receivableWith 9 = .ok (.invokestatic 30, 3) := by decide +kernel
theorem dX5_receivableWith_12 : decode cX5_receivableWith 12 = .ok (.ireturn, 1) := by decide +kernel
theorem dX5_passPeriods_0 : decode cX5_passPeriods 0 = .ok (.aload_n 0, 1) := by decide +kernel
theorem dX5_passPeriods_1 : decode cX5_passPeriods 1 = .ok (.getfield 18, 3) := by decide +kernel
theorem dX5_passPeriods_4 : decode cX5_passPeriods 4 = .ok (.iload_n 1, 1) := by decide +kernel
theorem dX5_passPeriods_5 : decode cX5_passPeriods 5 = .ok (.aload_n 0, 1) := by decide +kernel
theorem dX5_passPeriods_6 : decode cX5_passPeriods 6 = .ok (.getfield 21, 3) := by decide +kernel
theorem dX5_passPeriods_9 : decode cX5_passPeriods 9 = .ok (.invokestatic 34, 3) := by decide +kernel
theorem dX5_passPeriods_12 : decode cX5_passPeriods 12 = .ok (.imul, 1) := by decide +kernel
theorem dX5_passPeriods_13 : decode cX5_passPeriods 13 = .ok (.istore_n 3, 1) := by decide +kernel
theorem dX5_passPeriods_14 : decode cX5_passPeriods 14 = .ok (.aload_n 0, 1) := by decide +kernel
theorem dX5_passPeriods_15 : decode cX5_passPeriods 15 = .ok (.aload_n 0, 1) := by decide +kernel
theorem dX5_passPeriods_16 : decode cX5_passPeriods 16 = .ok (.getfield 21, 3) := by decide +kernel
theorem dX5_passPeriods_19 : decode cX5_passPeriods 19 = .ok (.iload_n 1, 1) := by decide +kernel
theorem dX5_passPeriods_20 : decode cX5_passPeriods 20 = .ok (.isub, 1) := by decide +kernel
theorem dX5_passPeriods_21 : decode cX5_passPeriods 21 = .ok (.invokevirtual 40, 3) := by decide +kernel
theorem dX5_passPeriods_24 : decode cX5_passPeriods 24 = .ok (.istore 4, 2) := by decide +kernel
theorem dX5_passPeriods_26 : decode cX5_passPeriods 26 = .ok (.aload_n 2, 1) := by decide +kernel
theorem dX5_passPeriods_27 : decode cX5_passPeriods 27 = .ok (.bipush 12, 2) := by decide +kernel
theorem dX5_passPeriods_29 : decode cX5_passPeriods 29 = .ok (.iload 4, 2) := by decide +kernel
theorem dX5_passPeriods_31 : decode cX5_passPeriods 31 = .ok (.aload_n 0, 1) := by decide +kernel
theorem dX5_passPeriods_32 : decode cX5_passPeriods 32 = .ok (.getfield 27, 3) := by decide +kernel
theorem dX5_passPeriods_35 : decode cX5_passPeriods 35 = .ok (.isub, 1) := by decide +kernel
theorem dX5_passPeriods_36 : decode cX5_passPeriods 36 = .ok (.iload_n 3, 1) := by decide +kernel
theorem dX5_passPeriods_37 : decode cX5_passPeriods 37 = .ok (.iadd, 1) := by decide +kernel
theorem dX5_passPeriods_38 : decode cX5_passPeriods 38 = .ok (.invokevirtual 44, 3) := by decide +kernel
theorem dX5_passPeriods_41 : decode cX5_passPeriods 41 = .ok (.aload_n 2, 1) := by decide +kernel
theorem dX5_passPeriods_42 : decode cX5_passPeriods 42 = .ok (.bipush 13, 2) := by decide +kernel
theorem dX5_passPeriods_44 : decode cX5_passPeriods 44 = .ok (.iload_n 3, 1) := by decide +kernel
theorem dX5_passPeriods_45 : decode cX5_passPeriods 45 = .ok (.invokevirtual 44, 3) := by decide +kernel
theorem dX5_passPeriods_48 : decode cX5_passPeriods 48 = .ok (.aload_n 0, 1) := by decide +kernel
theorem dX5_passPeriods_49 : decode cX5_passPeriods 49 = .ok (.iload 4, 2) := by decide +kernel
theorem dX5_passPeriods_51 : decode cX5_passPeriods 51 = .ok (.putfield 27, 3) := by decide +kernel
theorem dX5_passPeriods_54 : decode cX5_passPeriods 54 = .ok (.aload_n 0, 1) := by decide +kernel
theorem dX5_passPeriods_55 : decode cX5_passPeriods 55 = .ok (.iconst 0, 1) := by decide +kernel
theorem dX5_passPeriods_56 : decode cX5_passPeriods 56 = .ok (.aload_n 0, 1) := by decide +kernel
theorem dX5_passPeriods_57 : decode cX5_passPeriods 57 = .ok (.getfield 21, 3) := by decide +kernel
theorem dX5_passPeriods_60 : decode cX5_passPeriods 60 = .ok (.iload_n 1, 1) := by decide +kernel
theorem dX5_passPeriods_61 : decode cX5_passPeriods 61 = .ok (.isub, 1) := by decide +kernel
theorem dX5_passPeriods_62 : decode cX5_passPeriods 62 = .ok (.invokestatic 50, 3) := by decide +kernel
theorem dX5_passPeriods_65 : decode cX5_passPeriods 65 = .ok (.putfield 21, 3) := by decide +kernel
theorem dX5_passPeriods_68 : decode cX5_passPeriods 68 = .ok (.return_, 1) := by decide +kernel
theorem dX5_lossByCutTo_0 : decode cX5_lossByCutTo 0 = .ok (.aload_n 0, 1) := by decide +kernel
theorem dX5_lossByCutTo_1 : decode cX5_lossByCutTo 1 = .ok (.getfield 27, 3) := by decide +kernel
theorem dX5_lossByCutTo_4 : decode cX5_lossByCutTo 4 = .ok (.aload_n 0, 1) := by decide +kernel
theorem dX5_lossByCutTo_5 : decode cX5_lossByCutTo 5 = .ok (.aload_n 0, 1) := by decide +kernel
theorem dX5_lossByCutTo_6 : decode cX5_lossByCutTo 6 = .ok (.getfield 21, 3) := by decide +kernel
theorem dX5_lossByCutTo_9 : decode cX5_lossByCutTo 9 = .ok (.iload_n 1, 1) := by decide +kernel
theorem dX5_lossByCutTo_10 : decode cX5_lossByCutTo 10 = .ok (.invokestatic 34, 3) := by decide +kernel
theorem dX5_lossByCutTo_13 : decode cX5_lossByCutTo 13 = .ok (.invokevirtual 40, 3) := by decide +kernel
theorem dX5_lossByCutTo_16 : decode cX5_lossByCutTo 16 = .ok (.isub, 1) := by decide +kernel
theorem dX5_lossByCutTo_17 : decode cX5_lossByCutTo 17 = .ok (.ireturn, 1) := by decide +kernel
theorem dX5_valueOf_0 : decode cX5_valueOf 0 = .ok (.iload_n 1, 1) := by decide +kernel
theorem dX5_valueOf_1 : decode cX5_valueOf 1 = .ok (.tableswitch 60 0 4 #[35, 40, 45, 50, 55], 35) := by decide +kernel
theorem dX5_valueOf_36 : decode cX5_valueOf 36 = .ok (.aload_n 0, 1) := by decide +kernel
theorem dX5_valueOf_37 : decode cX5_valueOf 37 = .ok (.getfield 9, 3) := by decide +kernel
theorem dX5_valueOf_40 : decode cX5_valueOf 40 = .ok (.ireturn, 1) := by decide +kernel
theorem dX5_valueOf_41 : decode cX5_valueOf 41 = .ok (.aload_n 0, 1) := by decide +kernel
theorem dX5_valueOf_42 : decode cX5_valueOf 42 = .ok (.getfield 15, 3) := by decide +kernel
theorem dX5_valueOf_45 : decode cX5_valueOf 45 = .ok (.ireturn, 1) := by decide +kernel
theorem dX5_valueOf_46 : decode cX5_valueOf 46 = .ok (.aload_n 0, 1) := by decide +kernel
theorem dX5_valueOf_47 : decode cX5_valueOf 47 = .ok (.getfield 18, 3) := by decide +kernel
theorem dX5_valueOf_50 : decode cX5_valueOf 50 = .ok (.ireturn, 1) := by decide +kernel
theorem dX5_valueOf_51 : decode cX5_valueOf 51 = .ok (.aload_n 0, 1) := by decide +kernel
theorem dX5_valueOf_52 : decode cX5_valueOf 52 = .ok (.getfield 21, 3) := by decide +kernel
theorem dX5_valueOf_55 : decode cX5_valueOf 55 = .ok (.ireturn, 1) := by decide +kernel
theorem dX5_valueOf_56 : decode cX5_valueOf 56 = .ok (.aload_n 0, 1) := by decide +kernel
theorem dX5_valueOf_57 : decode cX5_valueOf 57 = .ok (.getfield 24, 3) := by decide +kernel
theorem dX5_valueOf_60 : decode cX5_valueOf 60 = .ok (.ireturn, 1) := by decide +kernel
theorem dX5_valueOf_61 : decode cX5_valueOf 61 = .ok (.aload_n 0, 1) := by decide +kernel
theorem dX5_valueOf_62 : decode cX5_valueOf 62 = .ok (.getfield 27, 3) := by decide +kernel
theorem dX5_valueOf_65 : decode cX5_valueOf 65 = .ok (.ireturn, 1) := by decide +kernel
theorem dX6_init_0 : decode cX6_init 0 = .ok (.aload_n 0, 1) := by decide +kernel
theorem dX6_init_1 : decode cX6_init 1 = .ok (.invokespecial 3, 3) := by decide +kernel
theorem dX6_init_4 : decode cX6_init 4 = .ok (.aload_n 0, 1) := by decide +kernel
theorem dX6_init_5 : decode cX6_init 5 = .ok (.new 9, 3) := by decide +kernel
theorem dX6_init_8 : decode cX6_init 8 = .ok (.dup, 1) := by decide +kernel
theorem dX6_init_9 : decode cX6_init 9 = .ok (.invokespecial 11, 3) := by decide +kernel
theorem dX6_init_12 : decode cX6_init 12 = .ok (.putfield 12, 3) := by decide +kernel
theorem dX6_init_15 : decode cX6_init 15 = .ok (.aload_n 0, 1) := by decide +kernel
theorem dX6_init_16 : decode cX6_init 16 = .ok (.new 16, 3) := by decide +kernel
theorem dX6_init_19 : decode cX6_init 19 = .ok (.dup, 1) := by decide +kernel
theorem dX6_init_20 : decode cX6_init 20 = .ok (.invokespecial 18, 3) := by decide +kernel
theorem dX6_init_23 : decode cX6_init 23 = .ok (.putfield 19, 3) := by decide +kernel
theorem dX6_init_26 : decode cX6_init 26 = .ok (.aload_n 0, 1) := by decide +kernel
theorem dX6_init_27 : decode cX6_init 27 = .ok (.new 23, 3) := by decide +kernel
theorem dX6_init_30 : decode cX6_init 30 = .ok (.dup, 1) := by decide +kernel
theorem dX6_init_31 : decode cX6_init 31 = .ok (.invokespecial 25, 3) := by decide +kernel
theorem dX6_init_34 : decode cX6_init 34 = .ok (.putfield 26, 3) := by decide +kernel
theorem dX6_init_37 : decode cX6_init 37 = .ok (.aload_n 0, 1) := by decide +kernel
theorem dX6_init_38 : decode cX6_init 38 = .ok (.new 30, 3) := by decide +kernel
theorem dX6_init_41 : decode cX6_init 41 = .ok (.dup, 1) := by decide +kernel
theorem dX6_init_42 : decode cX6_init 42 = .ok (.invokespecial 32, 3) := by decide +kernel
theorem dX6_init_45 : decode cX6_init 45 = .ok (.putfield 33, 3) := by decide +kernel
theorem dX6_init_48 : decode cX6_init 48 = .ok (.return_, 1) := by decide +kernel
theorem dX6_open_0 : decode cX6_open 0 = .ok (.iload_n 1, 1) := by decide +kernel
theorem dX6_open_1 : decode cX6_open 1 = .ok (.invokestatic 37, 3) := by decide +kernel
theorem dX6_open_4 : decode cX6_open 4 = .ok (.ifCond .eq 29, 3) := by decide +kernel
theorem dX6_open_7 : decode cX6_open 7 = .ok (.iload_n 2, 1) := by decide +kernel
theorem dX6_open_8 : decode cX6_open 8 = .ok (.invokestatic 41, 3) := by decide +kernel
theorem dX6_open_11 : decode cX6_open 11 = .ok (.ifCond .eq 22, 3) := by decide +kernel
theorem dX6_open_14 : decode cX6_open 14 = .ok (.iload_n 3, 1) := by decide +kernel
theorem dX6_open_15 : decode cX6_open 15 = .ok (.invokestatic 44, 3) := by decide +kernel
theorem dX6_open_18 : decode cX6_open 18 = .ok (.ifCond .eq 15, 3) := by decide +kernel
theorem dX6_open_21 : decode cX6_open 21 = .ok (.iload 4, 2) := by decide +kernel
theorem dX6_open_23 : decode cX6_open 23 = .ok (.invokestatic 37, 3) := by decide +kernel
theorem dX6_open_26 : decode cX6_open 26 = .ok (.ifCond .eq 7, 3) := by decide +kernel
theorem dX6_open_29 : decode cX6_open 29 = .ok (.iconst 1, 1) := by decide +kernel
theorem dX6_open_30 : decode cX6_open 30 = .ok (.goto 4, 3) := by decide +kernel
theorem dX6_open_33 : decode cX6_open 33 = .ok (.iconst 0, 1) := by decide +kernel
theorem dX6_open_34 : decode cX6_open 34 = .ok (.invokestatic 47, 3) := by decide +kernel
theorem dX6_open_37 : decode cX6_open 37 = .ok (.aload_n 0, 1) := by decide +kernel
theorem dX6_open_38 : decode cX6_open 38 = .ok (.getfield 12, 3) := by decide +kernel
theorem dX6_open_41 : decode cX6_open 41 = .ok (.getfield 51, 3) := by decide +kernel
theorem dX6_open_44 : decode cX6_open 44 = .ok (.bipush 8, 2) := by decide +kernel
theorem dX6_open_46 : decode cX6_open 46 = .ok (.if_icmp .ge 7, 3) := by decide +kernel
theorem dX6_open_49 : decode cX6_open 49 = .ok (.iconst 1, 1) := by decide +kernel
theorem dX6_open_50 : decode cX6_open 50 = .ok (.goto 4, 3) := by decide +kernel
theorem dX6_open_53 : decode cX6_open 53 = .ok (.iconst 0, 1) := by decide +kernel
theorem dX6_open_54 : decode cX6_open 54 = .ok (.invokestatic 55, 3) := by decide +kernel
theorem dX6_open_57 : decode cX6_open 57 = .ok (.aload_n 0, 1) := by decide +kernel
theorem dX6_open_58 : decode cX6_open 58 = .ok (.getfield 19, 3) := by decide +kernel
theorem dX6_open_61 : decode cX6_open 61 = .ok (.aload_n 0, 1) := by decide +kernel
theorem dX6_open_62 : decode cX6_open 62 = .ok (.getfield 12, 3) := by decide +kernel
theorem dX6_open_65 : decode cX6_open 65 = .ok (.invokevirtual 58, 3) := by decide +kernel
theorem dX6_open_68 : decode cX6_open 68 = .ok (.aload_n 0, 1) := by decide +kernel
theorem dX6_open_69 : decode cX6_open 69 = .ok (.getfield 12, 3) := by decide +kernel
theorem dX6_open_72 : decode cX6_open 72 = .ok (.iload_n 1, 1) := by decide +kernel
theorem dX6_open_73 : decode cX6_open 73 = .ok (.iload_n 2, 1) := by decide +kernel
theorem dX6_open_74 : decode cX6_open 74 = .ok (.iload_n 3, 1) := by decide +kernel
theorem dX6_open_75 : decode cX6_open 75 = .ok (.iload 4, 2) := by decide +kernel
theorem dX6_open_77 : decode cX6_open 77 = .ok (.invokevirtual 62, 3) := by decide +kernel
theorem dX6_open_80 : decode cX6_open 80 = .ok (.ireturn, 1) := by decide +kernel
theorem dX6_term_0 : decode cX6_term 0 = .ok (.aload_n 0, 1) := by decide +kernel
theorem dX6_term_1 : decode cX6_term 1 = .ok (.iload_n 1, 1) := by decide +kernel
theorem dX6_term_2 : decode cX6_term 2 = .ok (.invokevirtual 66, 3) := by decide +kernel
theorem dX6_term_5 : decode cX6_term 5 = .ok (.astore 4, 2) := by decide +kernel
theorem dX6_term_7 : decode cX6_term 7 = .ok (.iload_n 2, 1) := by decide +kernel
theorem dX6_term_8 : decode cX6_term 8 = .ok (.invokestatic 41, 3) := by decide +kernel
theorem dX6_term_11 : decode cX6_term 11 = .ok (.ifCond .eq 14, 3) := by decide +kernel
theorem dX6_term_14 : decode cX6_term 14 = .ok (.iload_n 3, 1) := by decide +kernel
theorem dX6_term_15 : decode cX6_term 15 = .ok (.invokestatic 44, 3) := by decide +kernel
theorem dX6_term_18 : decode cX6_term 18 = .ok (.ifCond .eq 7, 3) := by decide +kernel
theorem dX6_term_21 : decode cX6_term 21 = .ok (.iconst 1, 1) := by decide +kernel
theorem dX6_term_22 : decode cX6_term 22 = .ok (.goto 4, 3) := by decide +kernel
theorem dX6_term_25 : decode cX6_term 25 = .ok (.iconst 0, 1) := by decide +kernel
theorem dX6_term_26 : decode cX6_term 26 = .ok (.invokestatic 47, 3) := by decide +kernel
theorem dX6_term_29 : decode cX6_term 29 = .ok (.aload 4, 2) := by decide +kernel
theorem dX6_term_31 : decode cX6_term 31 = .ok (.invokevirtual 70, 3) := by decide +kernel
theorem dX6_term_34 : decode cX6_term 34 = .ok (.invokestatic 55, 3) := by decide +kernel
theorem dX6_term_37 : decode cX6_term 37 = .ok (.aload_n 0, 1) := by decide +kernel
theorem dX6_term_38 : decode cX6_term 38 = .ok (.getfield 19, 3) := by decide +kernel
theorem dX6_term_41 : decode cX6_term 41 = .ok (.aload_n 0, 1) := by decide +kernel
theorem dX6_term_42 : decode cX6_term 42 = .ok (.getfield 12, 3) := by decide +kernel
theorem dX6_term_45 : decode cX6_term 45 = .ok (.invokevirtual 58, 3) := by decide +kernel
theorem dX6_term_48 : decode cX6_term 48 = .ok (.aload 4, 2) := by decide +kernel
theorem dX6_term_50 : decode cX6_term 50 = .ok (.aload 4, 2) := by decide +kernel
theorem dX6_term_52 : decode cX6_term 52 = .ok (.getfield 76, 3) := by decide +kernel
theorem dX6_term_55 : decode cX6_term 55 = .ok (.iload_n 2, 1) := by decide +kernel
theorem dX6_term_56 : decode cX6_term 56 = .ok (.iload_n 3, 1) := by decide +kernel
theorem dX6_term_57 : decode cX6_term 57 = .ok (.invokevirtual 79, 3) := by decide +kernel
theorem dX6_term_60 : decode cX6_term 60 = .ok (.aload_n 0, 1) := by decide +kernel
theorem dX6_term_61 : decode cX6_term 61 = .ok (.getfield 12, 3) := by decide +kernel
theorem dX6_term_64 : decode cX6_term 64 = .ok (.iload_n 1, 1) := by decide +kernel
theorem dX6_term_65 : decode cX6_term 65 = .ok (.aload 4, 2) := by decide +kernel
theorem dX6_term_67 : decode cX6_term 67 = .ok (.invokevirtual 83, 3) := by decide +kernel
theorem dX6_term_70 : decode cX6_term 70 = .ok (.aload 4, 2) := by decide +kernel
theorem dX6_term_72 : decode cX6_term 72 = .ok (.getfield 87, 3) := by decide +kernel
theorem dX6_term_75 : decode cX6_term 75 = .ok (.ireturn, 1) := by decide +kernel
theorem dX6_rent_0 : decode cX6_rent 0 = .ok (.aload_n 0, 1) := by decide +kernel
theorem dX6_rent_1 : decode cX6_rent 1 = .ok (.iload_n 1, 1) := by decide +kernel
theorem dX6_rent_2 : decode cX6_rent 2 = .ok (.invokevirtual 66, 3) := by decide +kernel
theorem dX6_rent_5 : decode cX6_rent 5 = .ok (.astore_n 3, 1) := by decide +kernel
theorem dX6_rent_6 : decode cX6_rent 6 = .ok (.iload_n 2, 1) := by decide +kernel
theorem dX6_rent_7 : decode cX6_rent 7 = .ok (.invokestatic 37, 3) := by decide +kernel
theorem dX6_rent_10 : decode cX6_rent 10 = .ok (.invokestatic 47, 3) := by decide +kernel
theorem dX6_rent_13 : decode cX6_rent 13 = .ok (.aload_n 3, 1) := by decide +kernel
theorem dX6_rent_14 : decode cX6_rent 14 = .ok (.invokevirtual 70, 3) := by decide +kernel
theorem dX6_rent_17 : decode cX6_rent 17 = .ok (.invokestatic 55, 3) := by decide +kernel
theorem dX6_rent_20 : decode cX6_rent 20 = .ok (.aload_n 0, 1) := by decide +kernel
theorem dX6_rent_21 : decode cX6_rent 21 = .ok (.getfield 19, 3) := by decide +kernel
theorem dX6_rent_24 : decode cX6_rent 24 = .ok (.aload_n 0, 1) := by decide +kernel
theorem dX6_rent_25 : decode cX6_rent 25 = .ok (.getfield 12, 3) := by decide +kernel
theorem dX6_rent_28 : decode cX6_rent 28 = .ok (.invokevirtual 58, 3) := by decide +kernel
theorem dX6_rent_31 : decode cX6_rent 31 = .ok (.aload_n 3, 1) := by decide +kernel
theorem dX6_rent_32 : decode cX6_rent 32 = .ok (.iload_n 2, 1) := by decide +kernel
theorem dX6_rent_33 : decode cX6_rent 33 = .ok (.aload_n 3, 1) := by decide +kernel
theorem dX6_rent_34 : decode cX6_rent 34 = .ok (.getfield 90, 3) := by decide +kernel
theorem dX6_rent_37 : decode cX6_rent 37 = .ok (.aload_n 3, 1) := by decide +kernel
theorem dX6_rent_38 : decode cX6_rent 38 = .ok (.getfield 93, 3) := by decide +kernel
theorem dX6_rent_41 : decode cX6_rent 41 = .ok (.invokevirtual 79, 3) := by decide +kernel
theorem dX6_rent_44 : decode cX6_rent 44 = .ok (.aload_n 3, 1) := by decide +kernel
theorem dX6_rent_45 : decode cX6_rent 45 = .ok (.getfield 87, 3) := by decide +kernel
theorem dX6_rent_48 : decode cX6_rent 48 = .ok (.ireturn, 1) := by decide +kernel
theorem dX6_endPart_0 : decode cX6_endPart 0 = .ok (.aload_n 0, 1) := by decide +kernel
theorem dX6_endPart_1 : decode cX6_endPart 1 = .ok (.iload_n 1, 1) := by decide +kernel
theorem dX6_endPart_2 : decode cX6_endPart 2 = .ok (.invokevirtual 66, 3) := by decide +kernel
theorem dX6_endPart_5 : decode cX6_endPart 5 = .ok (.astore 4, 2) := by decide +kernel
theorem dX6_endPart_7 : decode cX6_endPart 7 = .ok (.iload_n 2, 1) := by decide +kernel
theorem dX6_endPart_8 : decode cX6_endPart 8 = .ok (.invokestatic 96, 3) := by decide +kernel
theorem dX6_endPart_11 : decode cX6_endPart 11 = .ok (.ifCond .eq 14, 3) := by decide +kernel
theorem dX6_endPart_14 : decode cX6_endPart 14 = .ok (.iload_n 3, 1) := by decide +kernel
theorem dX6_endPart_15 : decode cX6_endPart 15 = .ok (.invokestatic 37, 3) := by decide +kernel
theorem dX6_endPart_18 : decode cX6_endPart 18 = .ok (.ifCond .eq 7, 3) := by decide +kernel
theorem dX6_endPart_21 : decode cX6_endPart 21 = .ok (.iconst 1, 1) := by decide +kernel
theorem dX6_endPart_22 : decode cX6_endPart 22 = .ok (.goto 4, 3) := by decide +kernel
theorem dX6_endPart_25 : decode cX6_endPart 25 = .ok (.iconst 0, 1) := by decide +kernel
theorem dX6_endPart_26 : decode cX6_endPart 26 = .ok (.invokestatic 47, 3) := by decide +kernel
theorem dX6_endPart_29 : decode cX6_endPart 29 = .ok (.aload 4, 2) := by decide +kernel
theorem dX6_endPart_31 : decode cX6_endPart 31 = .ok (.invokevirtual 70, 3) := by decide +kernel
theorem dX6_endPart_34 : decode cX6_endPart 34 = .ok (.ifCond .eq 18, 3) := by decide +kernel
theorem dX6_endPart_37 : decode cX6_endPart 37 = .ok (.aload_n 0, 1) := by decide +kernel
theorem dX6_endPart_38 : decode cX6_endPart 38 = .ok (.getfield 12, 3) := by decide +kernel
theorem dX6_endPart_41 : decode cX6_endPart 41 = .ok (.iload_n 1, 1) := by decide +kernel
theorem dX6_endPart_42 : decode cX6_endPart 42 = .ok (.invokevirtual 99, 3) := by decide +kernel
theorem dX6_endPart_45 : decode cX6_endPart 45 = .ok (.ifCond .ne 7, 3) := by decide +kernel
theorem dX6_endPart_48 : decode cX6_endPart 48 = .ok (.iconst 1, 1) := by decide +kernel
theorem dX6_endPart_49 : decode cX6_endPart 49 = .ok (.goto 4, 3) := by decide +kernel
theorem dX6_endPart_52 : decode cX6_endPart 52 = .ok (.iconst 0, 1) := by decide +kernel
theorem dX6_endPart_53 : decode cX6_endPart 53 = .ok (.invokestatic 55, 3) := by decide +kernel
theorem dX6_endPart_56 : decode cX6_endPart 56 = .ok (.aload_n 0, 1) := by decide +kernel
theorem dX6_endPart_57 : decode cX6_endPart 57 = .ok (.getfield 19, 3) := by decide +kernel
theorem dX6_endPart_60 : decode cX6_endPart 60 = .ok (.aload_n 0, 1) := by decide +kernel
theorem dX6_endPart_61 : decode cX6_endPart 61 = .ok (.getfield 12, 3) := by decide +kernel
theorem dX6_endPart_64 : decode cX6_endPart 64 = .ok (.invokevirtual 58, 3) := by decide +kernel
theorem dX6_endPart_67 : decode cX6_endPart 67 = .ok (.aload 4, 2) := by decide +kernel
theorem dX6_endPart_69 : decode cX6_endPart 69 = .ok (.iload_n 2, 1) := by decide +kernel
theorem dX6_endPart_70 : decode cX6_endPart 70 = .ok (.iload_n 3, 1) := by decide +kernel
theorem dX6_endPart_71 : decode cX6_endPart 71 = .ok (.invokevirtual 103, 3) := by decide +kernel
theorem dX6_endPart_74 : decode cX6_endPart 74 = .ok (.ireturn, 1) := by decide +kernel
theorem dX6_impair_0 : decode cX6_impair 0 = .ok (.aload_n 0, 1) := by decide +kernel
theorem dX6_impair_1 : decode cX6_impair 1 = .ok (.iload_n 1, 1) := by decide +kernel
theorem dX6_impair_2 : decode cX6_impair 2 = .ok (.invokevirtual 66, 3) := by decide +kernel
theorem dX6_impair_5 : decode cX6_impair 5 = .ok (.astore_n 3, 1) := by decide +kernel
theorem dX6_impair_6 : decode cX6_impair 6 = .ok (.iload_n 2, 1) := by decide +kernel
theorem dX6_impair_7 : decode cX6_impair 7 = .ok (.iconst 1, 1) := by decide +kernel
theorem dX6_impair_8 : decode cX6_impair 8 = .ok (.ldc 107, 2) := by decide +kernel
theorem dX6_impair_10 : decode cX6_impair 10 = .ok (.invokestatic 108, 3) := by decide +kernel
theorem dX6_impair_13 : decode cX6_impair 13 = .ok (.invokestatic 47, 3) := by decide +kernel
theorem dX6_impair_16 : decode cX6_impair 16 = .ok (.aload_n 3, 1) := by decide +kernel
theorem dX6_impair_17 : decode cX6_impair 17 = .ok (.getfield 112, 3) := by decide +kernel
theorem dX6_impair_20 : decode cX6_impair 20 = .ok (.iload_n 2, 1) := by decide +kernel
theorem dX6_impair_21 : decode cX6_impair 21 = .ok (.if_icmp .lt 7, 3) := by decide +kernel
theorem dX6_impair_24 : decode cX6_impair 24 = .ok (.iconst 1, 1) := by decide +kernel
theorem dX6_impair_25 : decode cX6_impair 25 = .ok (.goto 4, 3) := by decide +kernel
theorem dX6_impair_28 : decode cX6_impair 28 = .ok (.iconst 0, 1) := by decide +kernel
theorem dX6_impair_29 : decode cX6_impair 29 = .ok (.invokestatic 55, 3) := by decide +kernel
theorem dX6_impair_32 : decode cX6_impair 32 = .ok (.aload_n 0, 1) := by decide +kernel
theorem dX6_impair_33 : decode cX6_impair 33 = .ok (.getfield 19, 3) := by decide +kernel
theorem dX6_impair_36 : decode cX6_impair 36 = .ok (.aload_n 0, 1) := by decide +kernel
theorem dX6_impair_37 : decode cX6_impair 37 = .ok (.getfield 12, 3) := by decide +kernel
theorem dX6_impair_40 : decode cX6_impair 40 = .ok (.invokevirtual 58, 3) := by decide +kernel
theorem dX6_impair_43 : decode cX6_impair 43 = .ok (.aload_n 3, 1) := by decide +kernel
theorem dX6_impair_44 : decode cX6_impair 44 = .ok (.iload_n 2, 1) := by decide +kernel
theorem dX6_impair_45 : decode cX6_impair 45 = .ok (.invokevirtual 115, 3) := by decide +kernel
theorem dX6_impair_48 : decode cX6_impair 48 = .ok (.aload_n 3, 1) := by decide +kernel
theorem dX6_impair_49 : decode cX6_impair 49 = .ok (.getfield 112, 3) := by decide +kernel
theorem dX6_impair_52 : decode cX6_impair 52 = .ok (.ireturn, 1) := by decide +kernel
theorem dX6_sublet_0 : decode cX6_sublet 0 = .ok (.aload_n 0, 1) := by decide +kernel
theorem dX6_sublet_1 : decode cX6_sublet 1 = .ok (.iload_n 1, 1) := by decide +kernel
theorem dX6_sublet_2 : decode cX6_sublet 2 = .ok (.invokevirtual 66, 3) := by decide +kernel
theorem dX6_sublet_5 : decode cX6_sublet 5 = .ok (.astore 5, 2) := by decide +kernel
theorem dX6_sublet_7 : decode cX6_sublet 7 = .ok (.iload_n 2, 1) := by decide +kernel
theorem dX6_sublet_8 : decode cX6_sublet 8 = .ok (.invokestatic 96, 3) := by decide +kernel
theorem dX6_sublet_11 : decode cX6_sublet 11 = .ok (.ifCond .eq 22, 3) := by decide +kernel
theorem dX6_sublet_14 : decode cX6_sublet 14 = .ok (.iload_n 3, 1) := by decide +kernel
theorem dX6_sublet_15 : decode cX6_sublet 15 = .ok (.invokestatic 37, 3) := by decide +kernel
theorem dX6_sublet_18 : decode cX6_sublet 18 = .ok (.ifCond .eq 15, 3) := by decide +kernel
theorem dX6_sublet_21 : decode cX6_sublet 21 = .ok (.iload 4, 2) := by decide +kernel
theorem dX6_sublet_23 : decode cX6_sublet 23 = .ok (.invokestatic 41, 3) := by decide +kernel
theorem dX6_sublet_26 : decode cX6_sublet 26 = .ok (.ifCond .eq 7, 3) := by decide +kernel
theorem dX6_sublet_29 : decode cX6_sublet 29 = .ok (.iconst 1, 1) := by decide +kernel
theorem dX6_sublet_30 : decode cX6_sublet 30 = .ok (.goto 4, 3) := by decide +kernel
theorem dX6_sublet_33 : decode cX6_sublet 33 = .ok (.iconst 0, 1) := by decide +kernel
theorem dX6_sublet_34 : decode cX6_sublet 34 = .ok (.invokestatic 47, 3) := by decide +kernel
theorem dX6_sublet_37 : decode cX6_sublet 37 = .ok (.aload_n 0, 1) := by decide +kernel
theorem dX6_sublet_38 : decode cX6_sublet 38 = .ok (.getfield 12, 3) := by decide +kernel
theorem dX6_sublet_41 : decode cX6_sublet 41 = .ok (.iload_n 1, 1) := by decide +kernel
theorem dX6_sublet_42 : decode cX6_sublet 42 = .ok (.iload_n 2, 1) := by decide +kernel
theorem dX6_sublet_43 : decode cX6_sublet 43 = .ok (.iload 4, 2) := by decide +kernel
theorem dX6_sublet_45 : decode cX6_sublet 45 = .ok (.invokevirtual 119, 3) := by decide +kernel
theorem dX6_sublet_48 : decode cX6_sublet 48 = .ok (.invokestatic 55, 3) := by decide +kernel
theorem dX6_sublet_51 : decode cX6_sublet 51 = .ok (.aload_n 0, 1) := by decide +kernel
theorem dX6_sublet_52 : decode cX6_sublet 52 = .ok (.getfield 19, 3) := by decide +kernel
theorem dX6_sublet_55 : decode cX6_sublet 55 = .ok (.aload_n 0, 1) := by decide +kernel
theorem dX6_sublet_56 : decode cX6_sublet 56 = .ok (.getfield 12, 3) := by decide +kernel
theorem dX6_sublet_59 : decode cX6_sublet 59 = .ok (.invokevirtual 58, 3) := by decide +kernel
theorem dX6_sublet_62 : decode cX6_sublet 62 = .ok (.aload_n 0, 1) := by decide +kernel
theorem dX6_sublet_63 : decode cX6_sublet 63 = .ok (.getfield 12, 3) := by decide +kernel
theorem dX6_sublet_66 : decode cX6_sublet 66 = .ok (.iload_n 1, 1) := by decide +kernel
theorem dX6_sublet_67 : decode cX6_sublet 67 = .ok (.aload 5, 2) := by decide +kernel
theorem dX6_sublet_69 : decode cX6_sublet 69 = .ok (.iload_n 2, 1) := by decide +kernel
theorem dX6_sublet_70 : decode cX6_sublet 70 = .ok (.iload_n 3, 1) := by decide +kernel
theorem dX6_sublet_71 : decode cX6_sublet 71 = .ok (.iload 4, 2) := by decide +kernel
theorem dX6_sublet_73 : decode cX6_sublet 73 = .ok (.invokevirtual 122, 3) := by decide +kernel
theorem dX6_sublet_76 : decode cX6_sublet 76 = .ok (.ireturn, 1) := by decide +kernel
theorem dX6_pass_0 : decode cX6_pass 0 = .ok (.iload_n 1, 1) := by decide +kernel
theorem dX6_pass_1 : decode cX6_pass 1 = .ok (.invokestatic 41, 3) := by decide +kernel
theorem dX6_pass_4 : decode cX6_pass 4 = .ok (.invokestatic 47, 3) := by decide +kernel
theorem dX6_pass_7 : decode cX6_pass 7 = .ok (.aload_n 0, 1) := by decide +kernel
theorem dX6_pass_8 : decode cX6_pass 8 = .ok (.getfield 12, 3) := by decide +kernel
theorem dX6_pass_11 : decode cX6_pass 11 = .ok (.getfield 126, 3) := by decide +kernel
theorem dX6_pass_14 : decode cX6_pass 14 = .ok (.iload_n 1, 1) := by decide +kernel
theorem dX6_pass_15 : decode cX6_pass 15 = .ok (.iadd, 1) := by decide +kernel
theorem dX6_pass_16 : decode cX6_pass 16 = .ok (.sipush 2000, 3) := by decide +kernel
theorem dX6_pass_19 : decode cX6_pass 19 = .ok (.if_icmp .gt 7, 3) := by decide +kernel
theorem dX6_pass_22 : decode cX6_pass 22 = .ok (.iconst 1, 1) := by decide +kernel
theorem dX6_pass_23 : decode cX6_pass 23 = .ok (.goto 4, 3) := by decide +kernel
theorem dX6_pass_26 : decode cX6_pass 26 = .ok (.iconst 0, 1) := by decide +kernel
theorem dX6_pass_27 : decode cX6_pass 27 = .ok (.invokestatic 55, 3) := by decide +kernel
theorem dX6_pass_30 : decode cX6_pass 30 = .ok (.aload_n 0, 1) := by decide +kernel
theorem dX6_pass_31 : decode cX6_pass 31 = .ok (.getfield 19, 3) := by decide +kernel
theorem dX6_pass_34 : decode cX6_pass 34 = .ok (.aload_n 0, 1) := by decide +kernel
theorem dX6_pass_35 : decode cX6_pass 35 = .ok (.getfield 12, 3) := by decide +kernel
theorem dX6_pass_38 : decode cX6_pass 38 = .ok (.invokevirtual 58, 3) := by decide +kernel
theorem dX6_pass_41 : decode cX6_pass 41 = .ok (.aload_n 0, 1) := by decide +kernel
theorem dX6_pass_42 : decode cX6_pass 42 = .ok (.getfield 12, 3) := by decide +kernel
theorem dX6_pass_45 : decode cX6_pass 45 = .ok (.iload_n 1, 1) := by decide +kernel
theorem dX6_pass_46 : decode cX6_pass 46 = .ok (.invokevirtual 129, 3) := by decide +kernel
theorem dX6_pass_49 : decode cX6_pass 49 = .ok (.aload_n 0, 1) := by decide +kernel
theorem dX6_pass_50 : decode cX6_pass 50 = .ok (.getfield 12, 3) := by decide +kernel
theorem dX6_pass_53 : decode cX6_pass 53 = .ok (.getfield 126, 3) := by decide +kernel
theorem dX6_pass_56 : decode cX6_pass 56 = .ok (.ireturn, 1) := by decide +kernel
theorem dX6_lease_0 : decode cX6_lease 0 = .ok (.aload_n 0, 1) := by decide +kernel
theorem dX6_lease_1 : decode cX6_lease 1 = .ok (.iload_n 1, 1) := by decide +kernel
theorem dX6_lease_2 : decode cX6_lease 2 = .ok (.invokevirtual 66, 3) := by decide +kernel
theorem dX6_lease_5 : decode cX6_lease 5 = .ok (.pop, 1) := by decide +kernel
theorem dX6_lease_6 : decode cX6_lease 6 = .ok (.iload_n 2, 1) := by decide +kernel
theorem dX6_lease_7 : decode cX6_lease 7 = .ok (.iconst 0, 1) := by decide +kernel
theorem dX6_lease_8 : decode cX6_lease 8 = .ok (.bipush 8, 2) := by decide +kernel
theorem dX6_lease_10 : decode cX6_lease 10 = .ok (.invokestatic 108, 3) := by decide +kernel
theorem dX6_lease_13 : decode cX6_lease 13 = .ok (.invokestatic 47, 3) := by decide +kernel
theorem dX6_lease_16 : decode cX6_lease 16 = .ok (.aload_n 0, 1) := by decide +kernel
theorem dX6_lease_17 : decode cX6_lease 17 = .ok (.getfield 12, 3) := by decide +kernel
theorem dX6_lease_20 : decode cX6_lease 20 = .ok (.iload_n 1, 1) := by decide +kernel
theorem dX6_lease_21 : decode cX6_lease 21 = .ok (.iload_n 2, 1) := by decide +kernel
theorem dX6_lease_22 : decode cX6_lease 22 = .ok (.invokevirtual 157, 3) := by decide +kernel
theorem dX6_lease_25 : decode cX6_lease 25 = .ok (.ireturn, 1) := by decide +kernel
theorem dX6_sublease_0 : decode cX6_sublease 0 = .ok (.iload_n 1, 1) := by decide +kernel
theorem dX6_sublease_1 : decode cX6_sublease 1 = .ok (.ifCond .lt 18, 3) := by decide +kernel
theorem dX6_sublease_4 : decode cX6_sublease 4 = .ok (.iload_n 1, 1) := by decide +kernel
theorem dX6_sublease_5 : decode cX6_sublease 5 = .ok (.aload_n 0, 1) := by decide +kernel
theorem dX6_sublease_6 : decode cX6_sublease 6 = .ok (.getfield 12, 3) := by decide +kernel
theorem dX6_sublease_9 : decode cX6_sublease 9 = .ok (.getfield 160, 3) := by decide +kernel
theorem dX6_sublease_12 : decode cX6_sublease 12 = .ok (.if_icmp .ge 7, 3) := by decide +kernel
theorem dX6_sublease_15 : decode cX6_sublease 15 = .ok (.iconst 1, 1) := by decide +kernel
theorem dX6_sublease_16 : decode cX6_sublease 16 = .ok (.goto 4, 3) := by decide +kernel
theorem dX6_sublease_19 : decode cX6_sublease 19 = .ok (.iconst 0, 1) := by decide +kernel
theorem dX6_sublease_20 : decode cX6_sublease 20 = .ok (.invokestatic 163, 3) := by decide +kernel
theorem dX6_sublease_23 : decode cX6_sublease 23 = .ok (.iload_n 2, 1) := by decide +kernel
theorem dX6_sublease_24 : decode cX6_sublease 24 = .ok (.iconst 0, 1) := by decide +kernel
theorem dX6_sublease_25 : decode cX6_sublease 25 = .ok (.iconst 5, 1) := by decide +kernel
theorem dX6_sublease_26 : decode cX6_sublease 26 = .ok (.invokestatic 108, 3) := by decide +kernel
theorem dX6_sublease_29 : decode cX6_sublease 29 = .ok (.invokestatic 47, 3) := by decide +kernel
theorem dX6_sublease_32 : decode cX6_sublease 32 = .ok (.aload_n 0, 1) := by decide +kernel
theorem dX6_sublease_33 : decode cX6_sublease 33 = .ok (.getfield 12, 3) := by decide +kernel
theorem dX6_sublease_36 : decode cX6_sublease 36 = .ok (.iload_n 1, 1) := by decide +kernel
theorem dX6_sublease_37 : decode cX6_sublease 37 = .ok (.iload_n 2, 1) := by decide +kernel
theorem dX6_sublease_38 : decode cX6_sublease 38 = .ok (.invokevirtual 166, 3) := by decide +kernel
theorem dX6_sublease_41 : decode cX6_sublease 41 = .ok (.ireturn, 1) := by decide +kernel
theorem dX6_profit_0 : decode cX6_profit 0 = .ok (.aload_n 0, 1) := by decide +kernel
theorem dX6_profit_1 : decode cX6_profit 1 = .ok (.iload_n 1, 1) := by decide +kernel
theorem dX6_profit_2 : decode cX6_profit 2 = .ok (.invokevirtual 66, 3) := by decide +kernel
theorem dX6_profit_5 : decode cX6_profit 5 = .ok (.astore_n 3, 1) := by decide +kernel
theorem dX6_profit_6 : decode cX6_profit 6 = .ok (.iload_n 2, 1) := by decide +kernel
theorem dX6_profit_7 : decode cX6_profit 7 = .ok (.iconst 0, 1) := by decide +kernel
theorem dX6_profit_8 : decode cX6_profit 8 = .ok (.iconst 1, 1) := by decide +kernel
theorem dX6_profit_9 : decode cX6_profit 9 = .ok (.invokestatic 108, 3) := by decide +kernel
theorem dX6_profit_12 : decode cX6_profit 12 = .ok (.invokestatic 47, 3) := by decide +kernel
theorem dX6_profit_15 : decode cX6_profit 15 = .ok (.iload_n 2, 1) := by decide +kernel
theorem dX6_profit_16 : decode cX6_profit 16 = .ok (.ifCond .ne 8, 3) := by decide +kernel
theorem dX6_profit_19 : decode cX6_profit 19 = .ok (.aload_n 3, 1) := by decide +kernel
theorem dX6_profit_20 : decode cX6_profit 20 = .ok (.invokevirtual 172, 3) := by decide +kernel
theorem dX6_profit_23 : decode cX6_profit 23 = .ok (.ireturn, 1) := by decide +kernel
theorem dX6_profit_24 : decode cX6_profit 24 = .ok (.aload_n 3, 1) := by decide +kernel
theorem dX6_profit_25 : decode cX6_profit 25 = .ok (.aload_n 0, 1) := by decide +kernel
theorem dX6_profit_26 : decode cX6_profit 26 = .ok (.getfield 12, 3) := by decide +kernel
theorem dX6_profit_29 : decode cX6_profit 29 = .ok (.iload_n 1, 1) := by decide +kernel
theorem dX6_profit_30 : decode cX6_profit 30 = .ok (.iconst 5, 1) := by decide +kernel
theorem dX6_profit_31 : decode cX6_profit 31 = .ok (.invokevirtual 176, 3) := by decide +kernel
theorem dX6_profit_34 : decode cX6_profit 34 = .ok (.invokevirtual 179, 3) := by decide +kernel
theorem dX6_profit_37 : decode cX6_profit 37 = .ok (.ireturn, 1) := by decide +kernel
theorem dX6_count_0 : decode cX6_count 0 = .ok (.iload_n 1, 1) := by decide +kernel
theorem dX6_count_1 : decode cX6_count 1 = .ok (.iconst 0, 1) := by decide +kernel
theorem dX6_count_2 : decode cX6_count 2 = .ok (.bipush 10, 2) := by decide +kernel
theorem dX6_count_4 : decode cX6_count 4 = .ok (.invokestatic 108, 3) := by decide +kernel
theorem dX6_count_7 : decode cX6_count 7 = .ok (.invokestatic 47, 3) := by decide +kernel
theorem dX6_count_10 : decode cX6_count 10 = .ok (.iload_n 1, 1) := by decide +kernel
theorem dX6_count_11 : decode cX6_count 11 = .ok (.tableswitch 138 0 9 #[53, 61, 69, 77, 85, 95, 104, 113, 122, 130], 53) := by decide +kernel
theorem dX6_count_64 : decode cX6_count 64 = .ok (.aload_n 0, 1) := by decide +kernel
theorem dX6_count_65 : decode cX6_count 65 = .ok (.getfield 12, 3) := by decide +kernel
theorem dX6_count_68 : decode cX6_count 68 = .ok (.getfield 51, 3) := by decide +kernel
theorem dX6_count_71 : decode cX6_count 71 = .ok (.ireturn, 1) := by decide +kernel
theorem dX6_count_72 : decode cX6_count 72 = .ok (.aload_n 0, 1) := by decide +kernel
theorem dX6_count_73 : decode cX6_count 73 = .ok (.getfield 12, 3) := by decide +kernel
theorem dX6_count_76 : decode cX6_count 76 = .ok (.getfield 160, 3) := by decide +kernel
theorem dX6_count_79 : decode cX6_count 79 = .ok (.ireturn, 1) := by decide +kernel
theorem dX6_count_80 : decode cX6_count 80 = .ok (.aload_n 0, 1) := by decide +kernel
theorem dX6_count_81 : decode cX6_count 81 = .ok (.getfield 12, 3) := by decide +kernel
theorem dX6_count_84 : decode cX6_count 84 = .ok (.getfield 126, 3) := by decide +kernel
theorem dX6_count_87 : decode cX6_count 87 = .ok (.ireturn, 1) := by decide +kernel
theorem dX6_count_88 : decode cX6_count 88 = .ok (.aload_n 0, 1) := by decide +kernel
theorem dX6_count_89 : decode cX6_count 89 = .ok (.getfield 12, 3) := by decide +kernel
theorem dX6_count_92 : decode cX6_count 92 = .ok (.invokevirtual 182, 3) := by decide +kernel
theorem dX6_count_95 : decode cX6_count 95 = .ok (.ireturn, 1) := by decide +kernel
theorem dX6_count_96 : decode cX6_count 96 = .ok (.aload_n 0, 1) := by decide +kernel
theorem dX6_count_97 : decode cX6_count 97 = .ok (.getfield 12, 3) := by decide +kernel
theorem dX6_count_100 : decode cX6_count 100 = .ok (.bipush 8, 2) := by decide +kernel
theorem dX6_count_102 : decode cX6_count 102 = .ok (.invokevirtual 185, 3) := by decide +kernel
theorem dX6_count_105 : decode cX6_count 105 = .ok (.ireturn, 1) := by decide +kernel
theorem dX6_count_106 : decode cX6_count 106 = .ok (.aload_n 0, 1) := by decide +kernel
theorem dX6_count_107 : decode cX6_count 107 = .ok (.getfield 12, 3) := by decide +kernel
theorem dX6_count_110 : decode cX6_count 110 = .ok (.iconst 3, 1) := by decide +kernel
theorem dX6_count_111 : decode cX6_count 111 = .ok (.invokevirtual 185, 3) := by decide +kernel
theorem dX6_count_114 : decode cX6_count 114 = .ok (.ireturn, 1) := by decide +kernel
theorem dX6_count_115 : decode cX6_count 115 = .ok (.aload_n 0, 1) := by decide +kernel
theorem dX6_count_116 : decode cX6_count 116 = .ok (.getfield 12, 3) := by decide +kernel
theorem dX6_count_119 : decode cX6_count 119 = .ok (.iconst 4, 1) := by decide +kernel
theorem dX6_count_120 : decode cX6_count 120 = .ok (.invokevirtual 185, 3) := by decide +kernel
theorem dX6_count_123 : decode cX6_count 123 = .ok (.ireturn, 1) := by decide +kernel
theorem dX6_count_124 : decode cX6_count 124 = .ok (.aload_n 0, 1) := by decide +kernel
theorem dX6_count_125 : decode cX6_count 125 = .ok (.getfield 12, 3) := by decide +kernel
theorem dX6_count_128 : decode cX6_count 128 = .ok (.iconst 5, 1) := by decide +kernel
theorem dX6_count_129 : decode cX6_count 129 = .ok (.invokevirtual 185, 3) := by decide +kernel
theorem dX6_count_132 : decode cX6_count 132 = .ok (.ireturn, 1) := by decide +kernel
theorem dX6_count_133 : decode cX6_count 133 = .ok (.aload_n 0, 1) := by decide +kernel
theorem dX6_count_134 : decode cX6_count 134 = .ok (.getfield 12, 3) := by decide +kernel
theorem dX6_count_137 : decode cX6_count 137 = .ok (.invokevirtual 188, 3) := by decide +kernel
theorem dX6_count_140 : decode cX6_count 140 = .ok (.ireturn, 1) := by decide +kernel
theorem dX6_count_141 : decode cX6_count 141 = .ok (.aload_n 0, 1) := by decide +kernel
theorem dX6_count_142 : decode cX6_count 142 = .ok (.getfield 12, 3) := by decide +kernel
theorem dX6_count_145 : decode cX6_count 145 = .ok (.invokevirtual 191, 3) := by decide +kernel
theorem dX6_count_148 : decode cX6_count 148 = .ok (.ireturn, 1) := by decide +kernel
theorem dX6_count_149 : decode cX6_count 149 = .ok (.aload_n 0, 1) := by decide +kernel
theorem dX6_count_150 : decode cX6_count 150 = .ok (.getfield 19, 3) := by decide +kernel
theorem dX6_count_153 : decode cX6_count 153 = .ok (.getfield 151, 3) := by decide +kernel
theorem dX6_count_156 : decode cX6_count 156 = .ok (.ireturn, 1) := by decide +kernel
theorem dX6_offShare_0 : decode cX6_offShare 0 = .ok (.aload_n 0, 1) := by decide +kernel
theorem dX6_offShare_1 : decode cX6_offShare 1 = .ok (.getfield 12, 3) := by decide +kernel
theorem dX6_offShare_4 : decode cX6_offShare 4 = .ok (.iconst 3, 1) := by decide +kernel
theorem dX6_offShare_5 : decode cX6_offShare 5 = .ok (.invokevirtual 185, 3) := by decide +kernel
theorem dX6_offShare_8 : decode cX6_offShare 8 = .ok (.istore_n 1, 1) := by decide +kernel
theorem dX6_offShare_9 : decode cX6_offShare 9 = .ok (.aload_n 0, 1) := by decide +kernel
theorem dX6_offShare_10 : decode cX6_offShare 10 = .ok (.getfield 12, 3) := by decide +kernel
theorem dX6_offShare_13 : decode cX6_offShare 13 = .ok (.iconst 5, 1) := by decide +kernel
theorem dX6_offShare_14 : decode cX6_offShare 14 = .ok (.invokevirtual 185, 3) := by decide +kernel
theorem dX6_offShare_17 : decode cX6_offShare 17 = .ok (.istore_n 2, 1) := by decide +kernel
theorem dX6_offShare_18 : decode cX6_offShare 18 = .ok (.iload_n 1, 1) := by decide +kernel
theorem dX6_offShare_19 : decode cX6_offShare 19 = .ok (.ifCond .le 11, 3) := by decide +kernel
theorem dX6_offShare_22 : decode cX6_offShare 22 = .ok (.iload_n 2, 1) := by decide +kernel
theorem dX6_offShare_23 : decode cX6_offShare 23 = .ok (.i2d, 1) := by decide +kernel
theorem dX6_offShare_24 : decode cX6_offShare 24 = .ok (.iload_n 1, 1) := by decide +kernel
theorem dX6_offShare_25 : decode cX6_offShare 25 = .ok (.i2d, 1) := by decide +kernel
theorem dX6_offShare_26 : decode cX6_offShare 26 = .ok (.ddiv, 1) := by decide +kernel
theorem dX6_offShare_27 : decode cX6_offShare 27 = .ok (.goto 4, 3) := by decide +kernel
theorem dX6_offShare_30 : decode cX6_offShare 30 = .ok (.dconst 0, 1) := by decide +kernel
theorem dX6_offShare_31 : decode cX6_offShare 31 = .ok (.dreturn, 1) := by decide +kernel
theorem dX6_demandLease_0 : decode cX6_demandLease 0 = .ok (.aload_n 0, 1) := by decide +kernel
theorem dX6_demandLease_1 : decode cX6_demandLease 1 = .ok (.getfield 12, 3) := by decide +kernel
theorem dX6_demandLease_4 : decode cX6_demandLease 4 = .ok (.iload_n 1, 1) := by decide +kernel
theorem dX6_demandLease_5 : decode cX6_demandLease 5 = .ok (.invokevirtual 292, 3) := by decide +kernel
theorem dX6_demandLease_8 : decode cX6_demandLease 8 = .ok (.astore_n 2, 1) := by decide +kernel
theorem dX6_demandLease_9 : decode cX6_demandLease 9 = .ok (.aload_n 2, 1) := by decide +kernel
theorem dX6_demandLease_10 : decode cX6_demandLease 10 = .ok (.ifnonnull 14, 3) := by decide +kernel
theorem dX6_demandLease_13 : decode cX6_demandLease 13 = .ok (.new 295, 3) := by decide +kernel
theorem dX6_demandLease_16 : decode cX6_demandLease 16 = .ok (.dup, 1) := by decide +kernel
theorem dX6_demandLease_17 : decode cX6_demandLease 17 = .ok (.ldc_w 297, 3) := by decide +kernel
theorem dX6_demandLease_20 : decode cX6_demandLease 20 = .ok (.invokespecial 299, 3) := by decide +kernel
theorem dX6_demandLease_23 : decode cX6_demandLease 23 = .ok (.athrow, 1) := by decide +kernel
theorem dX6_demandLease_24 : decode cX6_demandLease 24 = .ok (.aload_n 2, 1) := by decide +kernel
theorem dX6_demandLease_25 : decode cX6_demandLease 25 = .ok (.areturn, 1) := by decide +kernel
theorem dX6_demandIndex_0 : decode cX6_demandIndex 0 = .ok (.iload_n 0, 1) := by decide +kernel
theorem dX6_demandIndex_1 : decode cX6_demandIndex 1 = .ok (.ifCond .ne 14, 3) := by decide +kernel
theorem dX6_demandIndex_4 : decode cX6_demandIndex 4 = .ok (.new 295, 3) := by decide +kernel
theorem dX6_demandIndex_7 : decode cX6_demandIndex 7 = .ok (.dup, 1) := by decide +kernel
theorem dX6_demandIndex_8 : decode cX6_demandIndex 8 = .ok (.ldc_w 302, 3) := by decide +kernel
theorem dX6_demandIndex_11 : decode cX6_demandIndex 11 = .ok (.invokespecial 299, 3) := by decide +kernel
theorem dX6_demandIndex_14 : decode cX6_demandIndex 14 = .ok (.athrow, 1) := by decide +kernel
theorem dX6_demandIndex_15 : decode cX6_demandIndex 15 = .ok (.return_, 1) := by decide +kernel
theorem dX6_demandArguments_0 : decode cX6_demandArguments 0 = .ok (.iload_n 0, 1) := by decide +kernel
theorem dX6_demandArguments_1 : decode cX6_demandArguments 1 = .ok (.ifCond .ne 14, 3) := by decide +kernel
theorem dX6_demandArguments_4 : decode cX6_demandArguments 4 = .ok (.new 304, 3) := by decide +kernel
theorem dX6_demandArguments_7 : decode cX6_demandArguments 7 = .ok (.dup, 1) := by decide +kernel
theorem dX6_demandArguments_8 : decode cX6_demandArguments 8 = .ok (.ldc_w 306, 3) := by decide +kernel
theorem dX6_demandArguments_11 : decode cX6_demandArguments 11 = .ok (.invokespecial 308, 3) := by decide +kernel
theorem dX6_demandArguments_14 : decode cX6_demandArguments 14 = .ok (.athrow, 1) := by decide +kernel
theorem dX6_demandArguments_15 : decode cX6_demandArguments 15 = .ok (.return_, 1) := by decide +kernel
theorem dX6_demandState_0 : decode cX6_demandState 0 = .ok (.iload_n 0, 1) := by decide +kernel
theorem dX6_demandState_1 : decode cX6_demandState 1 = .ok (.ifCond .ne 14, 3) := by decide +kernel
theorem dX6_demandState_4 : decode cX6_demandState 4 = .ok (.new 309, 3) := by decide +kernel
theorem dX6_demandState_7 : decode cX6_demandState 7 = .ok (.dup, 1) := by decide +kernel
theorem dX6_demandState_8 : decode cX6_demandState 8 = .ok (.ldc_w 311, 3) := by decide +kernel
theorem dX6_demandState_11 : decode cX6_demandState 11 = .ok (.invokespecial 313, 3) := by decide +kernel
theorem dX6_demandState_14 : decode cX6_demandState 14 = .ok (.athrow, 1) := by decide +kernel
theorem dX6_demandState_15 : decode cX6_demandState 15 = .ok (.return_, 1) := by decide +kernel
theorem dX6_isWithin_0 : decode cX6_isWithin 0 = .ok (.iload_n 0, 1) := by decide +kernel
theorem dX6_isWithin_1 : decode cX6_isWithin 1 = .ok (.iload_n 1, 1) := by decide +kernel
theorem dX6_isWithin_2 : decode cX6_isWithin 2 = .ok (.if_icmp .lt 12, 3) := by decide +kernel
theorem dX6_isWithin_5 : decode cX6_isWithin 5 = .ok (.iload_n 0, 1) := by decide +kernel
theorem dX6_isWithin_6 : decode cX6_isWithin 6 = .ok (.iload_n 2, 1) := by decide +kernel
theorem dX6_isWithin_7 : decode cX6_isWithin 7 = .ok (.if_icmp .gt 7, 3) := by decide +kernel
theorem dX6_isWithin_10 : decode cX6_isWithin 10 = .ok (.iconst 1, 1) := by decide +kernel
theorem dX6_isWithin_11 : decode cX6_isWithin 11 = .ok (.goto 4, 3) := by decide +kernel
theorem dX6_isWithin_14 : decode cX6_isWithin 14 = .ok (.iconst 0, 1) := by decide +kernel
theorem dX6_isWithin_15 : decode cX6_isWithin 15 = .ok (.ireturn, 1) := by decide +kernel
theorem dX6_isMoney_0 : decode cX6_isMoney 0 = .ok (.iload_n 0, 1) := by decide +kernel
theorem dX6_isMoney_1 : decode cX6_isMoney 1 = .ok (.iconst 0, 1) := by decide +kernel
theorem dX6_isMoney_2 : decode cX6_isMoney 2 = .ok (.ldc_w 314, 3) := by decide +kernel
theorem dX6_isMoney_5 : decode cX6_isMoney 5 = .ok (.invokestatic 108, 3) := by decide +kernel
theorem dX6_isMoney_8 : decode cX6_isMoney 8 = .ok (.ireturn, 1) := by decide +kernel
theorem dX6_isPeriods_0 : decode cX6_isPeriods 0 = .ok (.iload_n 0, 1) := by decide +kernel
theorem dX6_isPeriods_1 : decode cX6_isPeriods 1 = .ok (.iconst 1, 1) := by decide +kernel
theorem dX6_isPeriods_2 : decode cX6_isPeriods 2 = .ok (.bipush 60, 2) := by decide +kernel
theorem dX6_isPeriods_4 : decode cX6_isPeriods 4 = .ok (.invokestatic 108, 3) := by decide +kernel
theorem dX6_isPeriods_7 : decode cX6_isPeriods 7 = .ok (.ireturn, 1) := by decide +kernel
theorem dX6_isRate_0 : decode cX6_isRate 0 = .ok (.iload_n 0, 1) := by decide +kernel
theorem dX6_isRate_1 : decode cX6_isRate 1 = .ok (.iconst 0, 1) := by decide +kernel
theorem dX6_isRate_2 : decode cX6_isRate 2 = .ok (.sipush 2000, 3) := by decide +kernel
theorem dX6_isRate_5 : decode cX6_isRate 5 = .ok (.invokestatic 108, 3) := by decide +kernel
theorem dX6_isRate_8 : decode cX6_isRate 8 = .ok (.ireturn, 1) := by decide +kernel
theorem dX6_isThousandths_0 : decode cX6_isThousandths 0 = .ok (.iload_n 0, 1) := by decide +kernel
theorem dX6_isThousandths_1 : decode cX6_isThousandths 1 = .ok (.iconst 1, 1) := by decide +kernel
theorem dX6_isThousandths_2 : decode cX6_isThousandths 2 = .ok (.sipush 1000, 3) := by decide +kernel
theorem dX6_isThousandths_5 : decode cX6_isThousandths 5 = .ok (.invokestatic 108, 3) := by decide +kernel
theorem dX6_isThousandths_8 : decode cX6_isThousandths 8 = .ok (.ireturn, 1) := by decide +kernel
theorem dX6_presentWorth_0 : decode cX6_presentWorth 0 = .ok (.sipush 10000, 3) := by decide +kernel
theorem dX6_presentWorth_3 : decode cX6_presentWorth 3 = .ok (.iload_n 2, 1) := by decide +kernel
theorem dX6_presentWorth_4 : decode cX6_presentWorth 4 = .ok (.iadd, 1) := by decide +kernel
theorem dX6_presentWorth_5 : decode cX6_presentWorth 5 = .ok (.i2l, 1) := by decide +kernel
theorem dX6_presentWorth_6 : decode cX6_presentWorth 6 = .ok (.lstore_n 3, 1) := by decide +kernel
theorem dX6_presentWorth_7 : decode cX6_presentWorth 7 = .ok (.lload_n 3, 1) := by decide +kernel
theorem dX6_presentWorth_8 : decode cX6_presentWorth 8 = .ok (.lconst 0, 1) := by decide +kernel
theorem dX6_presentWorth_9 : decode cX6_presentWorth 9 = .ok (.lcmp, 1) := by decide +kernel
theorem dX6_presentWorth_10 : decode cX6_presentWorth 10 = .ok (.ifCond .gt 5, 3) := by decide +kernel
theorem dX6_presentWorth_13 : decode cX6_presentWorth 13 = .ok (.iconst 0, 1) := by decide +kernel
theorem dX6_presentWorth_14 : decode cX6_presentWorth 14 = .ok (.ireturn, 1) := by decide +kernel
theorem dX6_presentWorth_15 : decode cX6_presentWorth 15 = .ok (.lconst 0, 1) := by decide +kernel
theorem dX6_presentWorth_16 : decode cX6_presentWorth 16 = .ok (.lstore 5, 2) := by decide +kernel
theorem dX6_presentWorth_18 : decode cX6_presentWorth 18 = .ok (.iconst 0, 1) := by decide +kernel
theorem dX6_presentWorth_19 : decode cX6_presentWorth 19 = .ok (.istore 7, 2) := by decide +kernel
theorem dX6_presentWorth_21 : decode cX6_presentWorth 21 = .ok (.iload 7, 2) := by decide +kernel
theorem dX6_presentWorth_23 : decode cX6_presentWorth 23 = .ok (.iload_n 1, 1) := by decide +kernel
theorem dX6_presentWorth_24 : decode cX6_presentWorth 24 = .ok (.if_icmp .ge 28, 3) := by decide +kernel
theorem dX6_presentWorth_27 : decode cX6_presentWorth 27 = .ok (.ldc2_w 315, 3) := by decide +kernel
theorem dX6_presentWorth_30 : decode cX6_presentWorth 30 = .ok (.lload 5, 2) := by decide +kernel
theorem dX6_presentWorth_32 : decode cX6_presentWorth 32 = .ok (.iload_n 0, 1) := by decide +kernel
theorem dX6_presentWorth_33 : decode cX6_presentWorth 33 = .ok (.i2l, 1) := by decide +kernel
theorem dX6_presentWorth_34 : decode cX6_presentWorth 34 = .ok (.ladd, 1) := by decide +kernel
theorem dX6_presentWorth_35 : decode cX6_presentWorth 35 = .ok (.lmul, 1) := by decide +kernel
theorem dX6_presentWorth_36 : decode cX6_presentWorth 36 = .ok (.lload_n 3, 1) := by decide +kernel
theorem dX6_presentWorth_37 : decode cX6_presentWorth 37 = .ok (.ladd, 1) := by decide +kernel
theorem dX6_presentWorth_38 : decode cX6_presentWorth 38 = .ok (.ldc2_w 317, 3) := by decide +kernel
theorem dX6_presentWorth_41 : decode cX6_presentWorth 41 = .ok (.lload_n 3, 1) := by decide +kernel
theorem dX6_presentWorth_42 : decode cX6_presentWorth 42 = .ok (.lmul, 1) := by decide +kernel
theorem dX6_presentWorth_43 : decode cX6_presentWorth 43 = .ok (.ldiv, 1) := by decide +kernel
theorem dX6_presentWorth_44 : decode cX6_presentWorth 44 = .ok (.lstore 5, 2) := by decide +kernel
theorem dX6_presentWorth_46 : decode cX6_presentWorth 46 = .ok (.iinc 7 1, 3) := by decide +kernel
theorem dX6_presentWorth_49 : decode cX6_presentWorth 49 = .ok (.goto (-28), 3) := by decide +kernel
theorem dX6_presentWorth_52 : decode cX6_presentWorth 52 = .ok (.lload 5, 2) := by decide +kernel
theorem dX6_presentWorth_54 : decode cX6_presentWorth 54 = .ok (.l2i, 1) := by decide +kernel
theorem dX6_presentWorth_55 : decode cX6_presentWorth 55 = .ok (.ireturn, 1) := by decide +kernel
theorem dX6_thousandthsOf_0 : decode cX6_thousandthsOf 0 = .ok (.iload_n 0, 1) := by decide +kernel
theorem dX6_thousandthsOf_1 : decode cX6_thousandthsOf 1 = .ok (.i2l, 1) := by decide +kernel
theorem dX6_thousandthsOf_2 : decode cX6_thousandthsOf 2 = .ok (.iload_n 1, 1) := by decide +kernel
theorem dX6_thousandthsOf_3 : decode cX6_thousandthsOf 3 = .ok (.i2l, 1) := by decide +kernel
theorem dX6_thousandthsOf_4 : decode cX6_thousandthsOf 4 = .ok (.lmul, 1) := by decide +kernel
theorem dX6_thousandthsOf_5 : decode cX6_thousandthsOf 5 = .ok (.ldc2_w 319, 3) := by decide +kernel
theorem dX6_thousandthsOf_8 : decode cX6_thousandthsOf 8 = .ok (.ldiv, 1) := by decide +kernel
theorem dX6_thousandthsOf_9 : decode cX6_thousandthsOf 9 = .ok (.l2i, 1) := by decide +kernel
theorem dX6_thousandthsOf_10 : decode cX6_thousandthsOf 10 = .ok (.ireturn, 1) := by decide +kernel
theorem dJ9_max_7cf53_0 : decode cJ9_max_7cf53 0 = .ok (.iload_n 0, 1) := by decide +kernel
theorem dJ9_max_7cf53_1 : decode cJ9_max_7cf53 1 = .ok (.iload_n 1, 1) := by decide +kernel
theorem dJ9_max_7cf53_2 : decode cJ9_max_7cf53 2 = .ok (.if_icmp .lt 7, 3) := by decide +kernel
theorem dJ9_max_7cf53_5 : decode cJ9_max_7cf53 5 = .ok (.iload_n 0, 1) := by decide +kernel
theorem dJ9_max_7cf53_6 : decode cJ9_max_7cf53 6 = .ok (.goto 4, 3) := by decide +kernel
theorem dJ9_max_7cf53_9 : decode cJ9_max_7cf53 9 = .ok (.iload_n 1, 1) := by decide +kernel
theorem dJ9_max_7cf53_10 : decode cJ9_max_7cf53 10 = .ok (.ireturn, 1) := by decide +kernel
theorem dJ9_min_7cf53_0 : decode cJ9_min_7cf53 0 = .ok (.iload_n 0, 1) := by decide +kernel
theorem dJ9_min_7cf53_1 : decode cJ9_min_7cf53 1 = .ok (.iload_n 1, 1) := by decide +kernel
theorem dJ9_min_7cf53_2 : decode cJ9_min_7cf53 2 = .ok (.if_icmp .gt 7, 3) := by decide +kernel
theorem dJ9_min_7cf53_5 : decode cJ9_min_7cf53 5 = .ok (.iload_n 0, 1) := by decide +kernel
theorem dJ9_min_7cf53_6 : decode cJ9_min_7cf53 6 = .ok (.goto 4, 3) := by decide +kernel
theorem dJ9_min_7cf53_9 : decode cJ9_min_7cf53 9 = .ok (.iload_n 1, 1) := by decide +kernel
theorem dJ9_min_7cf53_10 : decode cJ9_min_7cf53 10 = .ok (.ireturn, 1) := by decide +kernel
theorem dL_cell_0 : decode cL_cell 0 = .ok (.iload_n 1, 1) := by decide +kernel
theorem dL_cell_1 : decode cL_cell 1 = .ok (.aload_n 0, 1) := by decide +kernel
theorem dL_cell_2 : decode cL_cell 2 = .ok (.arraylength, 1) := by decide +kernel
theorem dL_cell_3 : decode cL_cell 3 = .ok (.if_icmp .ge 9, 3) := by decide +kernel
theorem dL_cell_6 : decode cL_cell 6 = .ok (.aload_n 0, 1) := by decide +kernel
theorem dL_cell_7 : decode cL_cell 7 = .ok (.iload_n 1, 1) := by decide +kernel
theorem dL_cell_8 : decode cL_cell 8 = .ok (.iaload, 1) := by decide +kernel
theorem dL_cell_9 : decode cL_cell 9 = .ok (.goto 9, 3) := by decide +kernel
theorem dL_cell_12 : decode cL_cell 12 = .ok (.ldc 7, 2) := by decide +kernel
theorem dL_cell_14 : decode cL_cell 14 = .ok (.iload_n 1, 1) := by decide +kernel
theorem dL_cell_15 : decode cL_cell 15 = .ok (.iconst 1, 1) := by decide +kernel
theorem dL_cell_16 : decode cL_cell 16 = .ok (.iadd, 1) := by decide +kernel
theorem dL_cell_17 : decode cL_cell 17 = .ok (.imul, 1) := by decide +kernel
theorem dL_cell_18 : decode cL_cell 18 = .ok (.ireturn, 1) := by decide +kernel
theorem dL_at_0 : decode cL_at 0 = .ok (.iload_n 0, 1) := by decide +kernel
theorem dL_at_1 : decode cL_at 1 = .ok (.iconst 1, 1) := by decide +kernel
theorem dL_at_2 : decode cL_at 2 = .ok (.iushr, 1) := by decide +kernel
theorem dL_at_3 : decode cL_at 3 = .ok (.iload_n 1, 1) := by decide +kernel
theorem dL_at_4 : decode cL_at 4 = .ok (.irem, 1) := by decide +kernel
theorem dL_at_5 : decode cL_at 5 = .ok (.ireturn, 1) := by decide +kernel
theorem dL_worth_0 : decode cL_worth 0 = .ok (.lconst 0, 1) := by decide +kernel
theorem dL_worth_1 : decode cL_worth 1 = .ok (.lstore_n 3, 1) := by decide +kernel
theorem dL_worth_2 : decode cL_worth 2 = .ok (.iconst 0, 1) := by decide +kernel
theorem dL_worth_3 : decode cL_worth 3 = .ok (.istore 5, 2) := by decide +kernel
theorem dL_worth_5 : decode cL_worth 5 = .ok (.iload 5, 2) := by decide +kernel
theorem dL_worth_7 : decode cL_worth 7 = .ok (.iload_n 1, 1) := by decide +kernel
theorem dL_worth_8 : decode cL_worth 8 = .ok (.if_icmp .ge 62, 3) := by decide +kernel
theorem dL_worth_11 : decode cL_worth 11 = .ok (.lload_n 3, 1) := by decide +kernel
theorem dL_worth_12 : decode cL_worth 12 = .ok (.iload_n 0, 1) := by decide +kernel
theorem dL_worth_13 : decode cL_worth 13 = .ok (.i2l, 1) := by decide +kernel
theorem dL_worth_14 : decode cL_worth 14 = .ok (.ladd, 1) := by decide +kernel
theorem dL_worth_15 : decode cL_worth 15 = .ok (.ldc2_w 8, 3) := by decide +kernel
theorem dL_worth_18 : decode cL_worth 18 = .ok (.lmul, 1) := by decide +kernel
theorem dL_worth_19 : decode cL_worth 19 = .ok (.lstore 6, 2) := by decide +kernel
theorem dL_worth_21 : decode cL_worth 21 = .ok (.lload 6, 2) := by decide +kernel
theorem dL_worth_23 : decode cL_worth 23 = .ok (.ldc2_w 8, 3) := by decide +kernel
theorem dL_worth_26 : decode cL_worth 26 = .ok (.iload_n 2, 1) := by decide +kernel
theorem dL_worth_27 : decode cL_worth 27 = .ok (.i2l, 1) := by decide +kernel
theorem dL_worth_28 : decode cL_worth 28 = .ok (.ladd, 1) := by decide +kernel
theorem dL_worth_29 : decode cL_worth 29 = .ok (.lrem, 1) := by decide +kernel
theorem dL_worth_30 : decode cL_worth 30 = .ok (.lstore 8, 2) := by decide +kernel
theorem dL_worth_32 : decode cL_worth 32 = .ok (.lload 6, 2) := by decide +kernel
theorem dL_worth_34 : decode cL_worth 34 = .ok (.ldc2_w 8, 3) := by decide +kernel
theorem dL_worth_37 : decode cL_worth 37 = .ok (.iload_n 2, 1) := by decide +kernel
theorem dL_worth_38 : decode cL_worth 38 = .ok (.i2l, 1) := by decide +kernel
theorem dL_worth_39 : decode cL_worth 39 = .ok (.ladd, 1) := by decide +kernel
theorem dL_worth_40 : decode cL_worth 40 = .ok (.ldiv, 1) := by decide +kernel
theorem dL_worth_41 : decode cL_worth 41 = .ok (.ldc2_w 10, 3) := by decide +kernel
theorem dL_worth_44 : decode cL_worth 44 = .ok (.lload 8, 2) := by decide +kernel
theorem dL_worth_46 : decode cL_worth 46 = .ok (.lmul, 1) := by decide +kernel
theorem dL_worth_47 : decode cL_worth 47 = .ok (.ldc2_w 8, 3) := by decide +kernel
theorem dL_worth_50 : decode cL_worth 50 = .ok (.iload_n 2, 1) := by decide +kernel
theorem dL_worth_51 : decode cL_worth 51 = .ok (.i2l, 1) := by decide +kernel
theorem dL_worth_52 : decode cL_worth 52 = .ok (.ladd, 1) := by decide +kernel
theorem dL_worth_53 : decode cL_worth 53 = .ok (.lcmp, 1) := by decide +kernel
theorem dL_worth_54 : decode cL_worth 54 = .ok (.ifCond .lt 7, 3) := by decide +kernel
theorem dL_worth_57 : decode cL_worth 57 = .ok (.lconst 1, 1) := by decide +kernel
theorem dL_worth_58 : decode cL_worth 58 = .ok (.goto 4, 3) := by decide +kernel
theorem dL_worth_61 : decode cL_worth 61 = .ok (.lconst 0, 1) := by decide +kernel
theorem dL_worth_62 : decode cL_worth 62 = .ok (.ladd, 1) := by decide +kernel
theorem dL_worth_63 : decode cL_worth 63 = .ok (.lstore_n 3, 1) := by decide +kernel
theorem dL_worth_64 : decode cL_worth 64 = .ok (.iinc 5 1, 3) := by decide +kernel
theorem dL_worth_67 : decode cL_worth 67 = .ok (.goto (-62), 3) := by decide +kernel
theorem dL_worth_70 : decode cL_worth 70 = .ok (.lload_n 3, 1) := by decide +kernel
theorem dL_worth_71 : decode cL_worth 71 = .ok (.l2i, 1) := by decide +kernel
theorem dL_worth_72 : decode cL_worth 72 = .ok (.ireturn, 1) := by decide +kernel
theorem dL_part_0 : decode cL_part 0 = .ok (.lconst 1, 1) := by decide +kernel
theorem dL_part_1 : decode cL_part 1 = .ok (.iload_n 0, 1) := by decide +kernel
theorem dL_part_2 : decode cL_part 2 = .ok (.i2l, 1) := by decide +kernel
theorem dL_part_3 : decode cL_part 3 = .ok (.lmul, 1) := by decide +kernel
theorem dL_part_4 : decode cL_part 4 = .ok (.iload_n 1, 1) := by decide +kernel
theorem dL_part_5 : decode cL_part 5 = .ok (.i2l, 1) := by decide +kernel
theorem dL_part_6 : decode cL_part 6 = .ok (.lmul, 1) := by decide +kernel
theorem dL_part_7 : decode cL_part 7 = .ok (.ldc2_w 12, 3) := by decide +kernel
theorem dL_part_10 : decode cL_part 10 = .ok (.ldiv, 1) := by decide +kernel
theorem dL_part_11 : decode cL_part 11 = .ok (.l2i, 1) := by decide +kernel
theorem dL_part_12 : decode cL_part 12 = .ok (.ireturn, 1) := by decide +kernel
theorem dL_off_0 : decode cL_off 0 = .ok (.iconst 0, 1) := by decide +kernel
theorem dL_off_1 : decode cL_off 1 = .ok (.istore 5, 2) := by decide +kernel
theorem dL_off_3 : decode cL_off 3 = .ok (.iconst 0, 1) := by decide +kernel
theorem dL_off_4 : decode cL_off 4 = .ok (.istore 6, 2) := by decide +kernel
theorem dL_off_6 : decode cL_off 6 = .ok (.iload 6, 2) := by decide +kernel
theorem dL_off_8 : decode cL_off 8 = .ok (.aload_n 2, 1) := by decide +kernel
theorem dL_off_9 : decode cL_off 9 = .ok (.iconst 1, 1) := by decide +kernel
theorem dL_off_10 : decode cL_off 10 = .ok (.iaload, 1) := by decide +kernel
theorem dL_off_11 : decode cL_off 11 = .ok (.if_icmp .ge 76, 3) := by decide +kernel
theorem dL_off_14 : decode cL_off 14 = .ok (.aload_n 3, 1) := by decide +kernel
theorem dL_off_15 : decode cL_off 15 = .ok (.iconst 4, 1) := by decide +kernel
theorem dL_off_16 : decode cL_off 16 = .ok (.iload 6, 2) := by decide +kernel
theorem dL_off_18 : decode cL_off 18 = .ok (.imul, 1) := by decide +kernel
theorem dL_off_19 : decode cL_off 19 = .ok (.iaload, 1) := by decide +kernel
theorem dL_off_20 : decode cL_off 20 = .ok (.iload_n 0, 1) := by decide +kernel
theorem dL_off_21 : decode cL_off 21 = .ok (.if_icmp .eq 6, 3) := by decide +kernel
theorem dL_off_24 : decode cL_off 24 = .ok (.goto 57, 3) := by decide +kernel
theorem dL_off_27 : decode cL_off 27 = .ok (.iload 5, 2) := by decide +kernel
theorem dL_off_29 : decode cL_off 29 = .ok (.iload_n 1, 1) := by decide +kernel
theorem dL_off_30 : decode cL_off 30 = .ok (.iconst 5, 1) := by decide +kernel
theorem dL_off_31 : decode cL_off 31 = .ok (.if_icmp .ne 14, 3) := by decide +kernel
theorem dL_off_34 : decode cL_off 34 = .ok (.aload 4, 2) := by decide +kernel
theorem dL_off_36 : decode cL_off 36 = .ok (.bipush 12, 2) := by decide +kernel
theorem dL_off_38 : decode cL_off 38 = .ok (.iload 6, 2) := by decide +kernel
theorem dL_off_40 : decode cL_off 40 = .ok (.iadd, 1) := by decide +kernel
theorem dL_off_41 : decode cL_off 41 = .ok (.iaload, 1) := by decide +kernel
theorem dL_off_42 : decode cL_off 42 = .ok (.goto 36, 3) := by decide +kernel
theorem dL_off_45 : decode cL_off 45 = .ok (.aload_n 3, 1) := by decide +kernel
theorem dL_off_46 : decode cL_off 46 = .ok (.iconst 4, 1) := by decide +kernel
theorem dL_off_47 : decode cL_off 47 = .ok (.iload 6, 2) := by decide +kernel
theorem dL_off_49 : decode cL_off 49 = .ok (.imul, 1) := by decide +kernel
theorem dL_off_50 : decode cL_off 50 = .ok (.iconst 3, 1) := by decide +kernel
theorem dL_off_51 : decode cL_off 51 = .ok (.iadd, 1) := by decide +kernel
theorem dL_off_52 : decode cL_off 52 = .ok (.iaload, 1) := by decide +kernel
theorem dL_off_53 : decode cL_off 53 = .ok (.ifCond .ne 7, 3) := by decide +kernel
theorem dL_off_56 : decode cL_off 56 = .ok (.iconst 0, 1) := by decide +kernel
theorem dL_off_57 : decode cL_off 57 = .ok (.goto 21, 3) := by decide +kernel
theorem dL_off_60 : decode cL_off 60 = .ok (.iload_n 1, 1) := by decide +kernel
theorem dL_off_61 : decode cL_off 61 = .ok (.bipush 7, 2) := by decide +kernel
theorem dL_off_63 : decode cL_off 63 = .ok (.if_icmp .ne 14, 3) := by decide +kernel
theorem dL_off_66 : decode cL_off 66 = .ok (.aload_n 3, 1) := by decide +kernel
theorem dL_off_67 : decode cL_off 67 = .ok (.iconst 4, 1) := by decide +kernel
theorem dL_off_68 : decode cL_off 68 = .ok (.iload 6, 2) := by decide +kernel
theorem dL_off_70 : decode cL_off 70 = .ok (.imul, 1) := by decide +kernel
theorem dL_off_71 : decode cL_off 71 = .ok (.iconst 1, 1) := by decide +kernel
theorem dL_off_72 : decode cL_off 72 = .ok (.iadd, 1) := by decide +kernel
theorem dL_off_73 : decode cL_off 73 = .ok (.iaload, 1) := by decide +kernel
theorem dL_off_74 : decode cL_off 74 = .ok (.goto 4, 3) := by decide +kernel
theorem dL_off_77 : decode cL_off 77 = .ok (.iconst 1, 1) := by decide +kernel
theorem dL_off_78 : decode cL_off 78 = .ok (.iadd, 1) := by decide +kernel
theorem dL_off_79 : decode cL_off 79 = .ok (.istore 5, 2) := by decide +kernel
theorem dL_off_81 : decode cL_off 81 = .ok (.iinc 6 1, 3) := by decide +kernel
theorem dL_off_84 : decode cL_off 84 = .ok (.goto (-78), 3) := by decide +kernel
theorem dL_off_87 : decode cL_off 87 = .ok (.iload 5, 2) := by decide +kernel
theorem dL_off_89 : decode cL_off 89 = .ok (.ireturn, 1) := by decide +kernel
theorem dL_told_0 : decode cL_told 0 = .ok (.aload_n 0, 1) := by decide +kernel
theorem dL_told_1 : decode cL_told 1 = .ok (.iconst 0, 1) := by decide +kernel
theorem dL_told_2 : decode cL_told 2 = .ok (.invokevirtual 14, 3) := by decide +kernel
theorem dL_told_5 : decode cL_told 5 = .ok (.aload_n 1, 1) := by decide +kernel
theorem dL_told_6 : decode cL_told 6 = .ok (.iconst 0, 1) := by decide +kernel
theorem dL_told_7 : decode cL_told 7 = .ok (.iaload, 1) := by decide +kernel
theorem dL_told_8 : decode cL_told 8 = .ok (.if_icmp .ne 25, 3) := by decide +kernel
theorem dL_told_11 : decode cL_told 11 = .ok (.aload_n 0, 1) := by decide +kernel
theorem dL_told_12 : decode cL_told 12 = .ok (.iconst 1, 1) := by decide +kernel
theorem dL_told_13 : decode cL_told 13 = .ok (.invokevirtual 14, 3) := by decide +kernel
theorem dL_told_16 : decode cL_told 16 = .ok (.aload_n 1, 1) := by decide +kernel
theorem dL_told_17 : decode cL_told 17 = .ok (.iconst 1, 1) := by decide +kernel
theorem dL_told_18 : decode cL_told 18 = .ok (.iaload, 1) := by decide +kernel
theorem dL_told_19 : decode cL_told 19 = .ok (.if_icmp .ne 14, 3) := by decide +kernel
theorem dL_told_22 : decode cL_told 22 = .ok (.aload_n 0, 1) := by decide +kernel
theorem dL_told_23 : decode cL_told 23 = .ok (.iconst 2, 1) := by decide +kernel
theorem dL_told_24 : decode cL_told 24 = .ok (.invokevirtual 14, 3) := by decide +kernel
theorem dL_told_27 : decode cL_told 27 = .ok (.aload_n 1, 1) := by decide +kernel
theorem dL_told_28 : decode cL_told 28 = .ok (.iconst 2, 1) := by decide +kernel
theorem dL_told_29 : decode cL_told 29 = .ok (.iaload, 1) := by decide +kernel
theorem dL_told_30 : decode cL_told 30 = .ok (.if_icmp .eq 5, 3) := by decide +kernel
theorem dL_told_33 : decode cL_told 33 = .ok (.iconst 0, 1) := by decide +kernel
theorem dL_told_34 : decode cL_told 34 = .ok (.ireturn, 1) := by decide +kernel
theorem dL_told_35 : decode cL_told 35 = .ok (.iconst 0, 1) := by decide +kernel
theorem dL_told_36 : decode cL_told 36 = .ok (.istore 5, 2) := by decide +kernel
theorem dL_told_38 : decode cL_told 38 = .ok (.iconst 0, 1) := by decide +kernel
theorem dL_told_39 : decode cL_told 39 = .ok (.istore 6, 2) := by decide +kernel
theorem dL_told_41 : decode cL_told 41 = .ok (.iconst 0, 1) := by decide +kernel
theorem dL_told_42 : decode cL_told 42 = .ok (.istore 7, 2) := by decide +kernel
theorem dL_told_44 : decode cL_told 44 = .ok (.iconst 0, 1) := by decide +kernel
theorem dL_told_45 : decode cL_told 45 = .ok (.istore 8, 2) := by decide +kernel
theorem dL_told_47 : decode cL_told 47 = .ok (.iconst 0, 1) := by decide +kernel
theorem dL_told_48 : decode cL_told 48 = .ok (.istore 9, 2) := by decide +kernel
theorem dL_told_50 : decode cL_told 50 = .ok (.iconst (-1), 1) := by decide +kernel
theorem dL_told_51 : decode cL_told 51 = .ok (.istore 10, 2) := by decide +kernel
theorem dL_told_53 : decode cL_told 53 = .ok (.iconst 0, 1) := by decide +kernel
theorem dL_told_54 : decode cL_told 54 = .ok (.istore 11, 2) := by decide +kernel
theorem dL_told_56 : decode cL_told 56 = .ok (.iload 11, 2) := by decide +kernel
theorem dL_told_58 : decode cL_told 58 = .ok (.aload_n 1, 1) := by decide +kernel
theorem dL_told_59 : decode cL_told 59 = .ok (.iconst 0, 1) := by decide +kernel
theorem dL_told_60 : decode cL_told 60 = .ok (.iaload, 1) := by decide +kernel
theorem dL_told_61 : decode cL_told 61 = .ok (.if_icmp .ge 342, 3) := by decide +kernel
theorem dL_told_64 : decode cL_told 64 = .ok (.iload 11, 2) := by decide +kernel
theorem dL_told_66 : decode cL_told 66 = .ok (.iconst 5, 1) := by decide +kernel
theorem dL_told_67 : decode cL_told 67 = .ok (.aload_n 1, 1) := by decide +kernel
theorem dL_told_68 : decode cL_told 68 = .ok (.aload_n 3, 1) := by decide +kernel
theorem dL_told_69 : decode cL_told 69 = .ok (.aload 4, 2) := by decide +kernel
theorem dL_told_71 : decode cL_told 71 = .ok (.invokestatic 20, 3) := by decide +kernel
theorem dL_told_74 : decode cL_told 74 = .ok (.istore 12, 2) := by decide +kernel
theorem dL_told_76 : decode cL_told 76 = .ok (.iconst 0, 1) := by decide +kernel
theorem dL_told_77 : decode cL_told 77 = .ok (.istore 13, 2) := by decide +kernel
theorem dL_told_79 : decode cL_told 79 = .ok (.iload 13, 2) := by decide +kernel
theorem dL_told_81 : decode cL_told 81 = .ok (.iconst 3, 1) := by decide +kernel
theorem dL_told_82 : decode cL_told 82 = .ok (.if_icmp .ge 31, 3) := by decide +kernel
theorem dL_told_85 : decode cL_told 85 = .ok (.aload_n 0, 1) := by decide +kernel
theorem dL_told_86 : decode cL_told 86 = .ok (.iload 11, 2) := by decide +kernel
theorem dL_told_88 : decode cL_told 88 = .ok (.iload 13, 2) := by decide +kernel
theorem dL_told_90 : decode cL_told 90 = .ok (.invokevirtual 26, 3) := by decide +kernel
theorem dL_told_93 : decode cL_told 93 = .ok (.aload_n 2, 1) := by decide +kernel
theorem dL_told_94 : decode cL_told 94 = .ok (.iconst 3, 1) := by decide +kernel
theorem dL_told_95 : decode cL_told 95 = .ok (.iload 11, 2) := by decide +kernel
theorem dL_told_97 : decode cL_told 97 = .ok (.imul, 1) := by decide +kernel
theorem dL_told_98 : decode cL_told 98 = .ok (.iload 13, 2) := by decide +kernel
theorem dL_told_100 : decode cL_told 100 = .ok (.iadd, 1) := by decide +kernel
theorem dL_told_101 : decode cL_told 101 = .ok (.iaload, 1) := by decide +kernel
theorem dL_told_102 : decode cL_told 102 = .ok (.if_icmp .eq 5, 3) := by decide +kernel
theorem dL_told_105 : decode cL_told 105 = .ok (.iconst 0, 1) := by decide +kernel
theorem dL_told_106 : decode cL_told 106 = .ok (.ireturn, 1) := by decide +kernel
theorem dL_told_107 : decode cL_told 107 = .ok (.iinc 13 1, 3) := by decide +kernel
theorem dL_told_110 : decode cL_told 110 = .ok (.goto (-31), 3) := by decide +kernel
theorem dL_told_113 : decode cL_told 113 = .ok (.aload_n 0, 1) := by decide +kernel
theorem dL_told_114 : decode cL_told 114 = .ok (.iload 11, 2) := by decide +kernel
theorem dL_told_116 : decode cL_told 116 = .ok (.iconst 3, 1) := by decide +kernel
theorem dL_told_117 : decode cL_told 117 = .ok (.invokevirtual 26, 3) := by decide +kernel
theorem dL_told_120 : decode cL_told 120 = .ok (.aload_n 1, 1) := by decide +kernel
theorem dL_told_121 : decode cL_told 121 = .ok (.iconst 3, 1) := by decide +kernel
theorem dL_told_122 : decode cL_told 122 = .ok (.iload 11, 2) := by decide +kernel
theorem dL_told_124 : decode cL_told 124 = .ok (.iadd, 1) := by decide +kernel
theorem dL_told_125 : decode cL_told 125 = .ok (.iaload, 1) := by decide +kernel
theorem dL_told_126 : decode cL_told 126 = .ok (.if_icmp .ne 96, 3) := by decide +kernel
theorem dL_told_129 : decode cL_told 129 = .ok (.aload_n 0, 1) := by decide +kernel
theorem dL_told_130 : decode cL_told 130 = .ok (.iload 11, 2) := by decide +kernel
theorem dL_told_132 : decode cL_told 132 = .ok (.iconst 4, 1) := by decide +kernel
theorem dL_told_133 : decode cL_told 133 = .ok (.invokevirtual 26, 3) := by decide +kernel
theorem dL_told_136 : decode cL_told 136 = .ok (.aload_n 1, 1) := by decide +kernel
theorem dL_told_137 : decode cL_told 137 = .ok (.bipush 11, 2) := by decide +kernel
theorem dL_told_139 : decode cL_told 139 = .ok (.iload 11, 2) := by decide +kernel
theorem dL_told_141 : decode cL_told 141 = .ok (.iadd, 1) := by decide +kernel
theorem dL_told_142 : decode cL_told 142 = .ok (.iaload, 1) := by decide +kernel
theorem dL_told_143 : decode cL_told 143 = .ok (.if_icmp .ne 79, 3) := by decide +kernel
theorem dL_told_146 : decode cL_told 146 = .ok (.aload_n 0, 1) := by decide +kernel
theorem dL_told_147 : decode cL_told 147 = .ok (.iload 11, 2) := by decide +kernel
theorem dL_told_149 : decode cL_told 149 = .ok (.iconst 5, 1) := by decide +kernel
theorem dL_told_150 : decode cL_told 150 = .ok (.invokevirtual 26, 3) := by decide +kernel
theorem dL_told_153 : decode cL_told 153 = .ok (.iload 12, 2) := by decide +kernel
theorem dL_told_155 : decode cL_told 155 = .ok (.if_icmp .ne 67, 3) := by decide +kernel
theorem dL_told_158 : decode cL_told 158 = .ok (.aload_n 0, 1) := by decide +kernel
theorem dL_told_159 : decode cL_told 159 = .ok (.iload 11, 2) := by decide +kernel
theorem dL_told_161 : decode cL_told 161 = .ok (.bipush 6, 2) := by decide +kernel
theorem dL_told_163 : decode cL_told 163 = .ok (.invokevirtual 26, 3) := by decide +kernel
theorem dL_told_166 : decode cL_told 166 = .ok (.aload_n 1, 1) := by decide +kernel
theorem dL_told_167 : decode cL_told 167 = .ok (.iconst 3, 1) := by decide +kernel
theorem dL_told_168 : decode cL_told 168 = .ok (.iload 11, 2) := by decide +kernel
theorem dL_told_170 : decode cL_told 170 = .ok (.iadd, 1) := by decide +kernel
theorem dL_told_171 : decode cL_told 171 = .ok (.iaload, 1) := by decide +kernel
theorem dL_told_172 : decode cL_told 172 = .ok (.iload 12, 2) := by decide +kernel
theorem dL_told_174 : decode cL_told 174 = .ok (.isub, 1) := by decide +kernel
theorem dL_told_175 : decode cL_told 175 = .ok (.if_icmp .ne 47, 3) := by decide +kernel
theorem dL_told_178 : decode cL_told 178 = .ok (.aload_n 0, 1) := by decide +kernel
theorem dL_told_179 : decode cL_told 179 = .ok (.iload 11, 2) := by decide +kernel
theorem dL_told_181 : decode cL_told 181 = .ok (.bipush 7, 2) := by decide +kernel
theorem dL_told_183 : decode cL_told 183 = .ok (.invokevirtual 26, 3) := by decide +kernel
theorem dL_told_186 : decode cL_told 186 = .ok (.iload 11, 2) := by decide +kernel
theorem dL_told_188 : decode cL_told 188 = .ok (.bipush 7, 2) := by decide +kernel
theorem dL_told_190 : decode cL_told 190 = .ok (.aload_n 1, 1) := by decide +kernel
theorem dL_told_191 : decode cL_told 191 = .ok (.aload_n 3, 1) := by decide +kernel
theorem dL_told_192 : decode cL_told 192 = .ok (.aload 4, 2) := by decide +kernel
theorem dL_told_194 : decode cL_told 194 = .ok (.invokestatic 20, 3) := by decide +kernel
theorem dL_told_197 : decode cL_told 197 = .ok (.if_icmp .ne 25, 3) := by decide +kernel
theorem dL_told_200 : decode cL_told 200 = .ok (.aload_n 0, 1) := by decide +kernel
theorem dL_told_201 : decode cL_told 201 = .ok (.iload 11, 2) := by decide +kernel
theorem dL_told_203 : decode cL_told 203 = .ok (.bipush 8, 2) := by decide +kernel
theorem dL_told_205 : decode cL_told 205 = .ok (.invokevirtual 26, 3) := by decide +kernel
theorem dL_told_208 : decode cL_told 208 = .ok (.iload 11, 2) := by decide +kernel
theorem dL_told_210 : decode cL_told 210 = .ok (.bipush 8, 2) := by decide +kernel
theorem dL_told_212 : decode cL_told 212 = .ok (.aload_n 1, 1) := by decide +kernel
theorem dL_told_213 : decode cL_told 213 = .ok (.aload_n 3, 1) := by decide +kernel
theorem dL_told_214 : decode cL_told 214 = .ok (.aload 4, 2) := by decide +kernel
theorem dL_told_216 : decode cL_told 216 = .ok (.invokestatic 20, 3) := by decide +kernel
theorem dL_told_219 : decode cL_told 219 = .ok (.if_icmp .eq 5, 3) := by decide +kernel
theorem dL_told_222 : decode cL_told 222 = .ok (.iconst 0, 1) := by decide +kernel
theorem dL_told_223 : decode cL_told 223 = .ok (.ireturn, 1) := by decide +kernel
theorem dL_told_224 : decode cL_told 224 = .ok (.aload_n 0, 1) := by decide +kernel
theorem dL_told_225 : decode cL_told 225 = .ok (.iload 11, 2) := by decide +kernel
theorem dL_told_227 : decode cL_told 227 = .ok (.iconst 0, 1) := by decide +kernel
theorem dL_told_228 : decode cL_told 228 = .ok (.invokevirtual 30, 3) := by decide +kernel
theorem dL_told_231 : decode cL_told 231 = .ok (.aload_n 1, 1) := by decide +kernel
theorem dL_told_232 : decode cL_told 232 = .ok (.bipush 27, 2) := by decide +kernel
theorem dL_told_234 : decode cL_told 234 = .ok (.iload 11, 2) := by decide +kernel
theorem dL_told_236 : decode cL_told 236 = .ok (.iadd, 1) := by decide +kernel
theorem dL_told_237 : decode cL_told 237 = .ok (.iaload, 1) := by decide +kernel
theorem dL_told_238 : decode cL_told 238 = .ok (.if_icmp .ne 55, 3) := by decide +kernel
theorem dL_told_241 : decode cL_told 241 = .ok (.aload_n 0, 1) := by decide +kernel
theorem dL_told_242 : decode cL_told 242 = .ok (.iload 11, 2) := by decide +kernel
theorem dL_told_244 : decode cL_told 244 = .ok (.iconst 1, 1) := by decide +kernel
theorem dL_told_245 : decode cL_told 245 = .ok (.invokevirtual 30, 3) := by decide +kernel
theorem dL_told_248 : decode cL_told 248 = .ok (.aload_n 1, 1) := by decide +kernel
theorem dL_told_249 : decode cL_told 249 = .ok (.bipush 11, 2) := by decide +kernel
theorem dL_told_251 : decode cL_told 251 = .ok (.iload 11, 2) := by decide +kernel
theorem dL_told_253 : decode cL_told 253 = .ok (.iadd, 1) := by decide +kernel
theorem dL_told_254 : decode cL_told 254 = .ok (.iaload, 1) := by decide +kernel
theorem dL_told_255 : decode cL_told 255 = .ok (.iload 12, 2) := by decide +kernel
theorem dL_told_257 : decode cL_told 257 = .ok (.iadd, 1) := by decide +kernel
theorem dL_told_258 : decode cL_told 258 = .ok (.aload_n 1, 1) := by decide +kernel
theorem dL_told_259 : decode cL_told 259 = .ok (.iconst 3, 1) := by decide +kernel
theorem dL_told_260 : decode cL_told 260 = .ok (.iload 11, 2) := by decide +kernel
theorem dL_told_262 : decode cL_told 262 = .ok (.iadd, 1) := by decide +kernel
theorem dL_told_263 : decode cL_told 263 = .ok (.iaload, 1) := by decide +kernel
theorem dL_told_264 : decode cL_told 264 = .ok (.isub, 1) := by decide +kernel
theorem dL_told_265 : decode cL_told 265 = .ok (.aload_n 1, 1) := by decide +kernel
theorem dL_told_266 : decode cL_told 266 = .ok (.bipush 19, 2) := by decide +kernel
theorem dL_told_268 : decode cL_told 268 = .ok (.iload 11, 2) := by decide +kernel
theorem dL_told_270 : decode cL_told 270 = .ok (.iadd, 1) := by decide +kernel
theorem dL_told_271 : decode cL_told 271 = .ok (.iaload, 1) := by decide +kernel
theorem dL_told_272 : decode cL_told 272 = .ok (.iadd, 1) := by decide +kernel
theorem dL_told_273 : decode cL_told 273 = .ok (.if_icmp .ne 20, 3) := by decide +kernel
theorem dL_told_276 : decode cL_told 276 = .ok (.aload_n 0, 1) := by decide +kernel
theorem dL_told_277 : decode cL_told 277 = .ok (.iload 11, 2) := by decide +kernel
theorem dL_told_279 : decode cL_told 279 = .ok (.iconst 0, 1) := by decide +kernel
theorem dL_told_280 : decode cL_told 280 = .ok (.invokevirtual 30, 3) := by decide +kernel
theorem dL_told_283 : decode cL_told 283 = .ok (.aload_n 0, 1) := by decide +kernel
theorem dL_told_284 : decode cL_told 284 = .ok (.iload 11, 2) := by decide +kernel
theorem dL_told_286 : decode cL_told 286 = .ok (.iconst 1, 1) := by decide +kernel
theorem dL_told_287 : decode cL_told 287 = .ok (.invokevirtual 30, 3) := by decide +kernel
theorem dL_told_290 : decode cL_told 290 = .ok (.if_icmp .eq 5, 3) := by decide +kernel
theorem dL_told_293 : decode cL_told 293 = .ok (.iconst 0, 1) := by decide +kernel
theorem dL_told_294 : decode cL_told 294 = .ok (.ireturn, 1) := by decide +kernel
theorem dL_told_295 : decode cL_told 295 = .ok (.iload 5, 2) := by decide +kernel
theorem dL_told_297 : decode cL_told 297 = .ok (.aload_n 2, 1) := by decide +kernel
theorem dL_told_298 : decode cL_told 298 = .ok (.iconst 3, 1) := by decide +kernel
theorem dL_told_299 : decode cL_told 299 = .ok (.iload 11, 2) := by decide +kernel
theorem dL_told_301 : decode cL_told 301 = .ok (.imul, 1) := by decide +kernel
theorem dL_told_302 : decode cL_told 302 = .ok (.iconst 1, 1) := by decide +kernel
theorem dL_told_303 : decode cL_told 303 = .ok (.iadd, 1) := by decide +kernel
theorem dL_told_304 : decode cL_told 304 = .ok (.iaload, 1) := by decide +kernel
theorem dL_told_305 : decode cL_told 305 = .ok (.ifCond .le 7, 3) := by decide +kernel
theorem dL_told_308 : decode cL_told 308 = .ok (.iconst 1, 1) := by decide +kernel
theorem dL_told_309 : decode cL_told 309 = .ok (.goto 4, 3) := by decide +kernel
theorem dL_told_312 : decode cL_told 312 = .ok (.iconst 0, 1) := by decide +kernel
theorem dL_told_313 : decode cL_told 313 = .ok (.iadd, 1) := by decide +kernel
theorem dL_told_314 : decode cL_told 314 = .ok (.istore 5, 2) := by decide +kernel
theorem dL_told_316 : decode cL_told 316 = .ok (.iload 6, 2) := by decide +kernel
theorem dL_told_318 : decode cL_told 318 = .ok (.aload_n 1, 1) := by decide +kernel
theorem dL_told_319 : decode cL_told 319 = .ok (.iconst 3, 1) := by decide +kernel
theorem dL_told_320 : decode cL_told 320 = .ok (.iload 11, 2) := by decide +kernel
theorem dL_told_322 : decode cL_told 322 = .ok (.iadd, 1) := by decide +kernel
theorem dL_told_323 : decode cL_told 323 = .ok (.iaload, 1) := by decide +kernel
theorem dL_told_324 : decode cL_told 324 = .ok (.iadd, 1) := by decide +kernel
theorem dL_told_325 : decode cL_told 325 = .ok (.istore 6, 2) := by decide +kernel
theorem dL_told_327 : decode cL_told 327 = .ok (.iload 7, 2) := by decide +kernel
theorem dL_told_329 : decode cL_told 329 = .ok (.aload_n 1, 1) := by decide +kernel
theorem dL_told_330 : decode cL_told 330 = .ok (.bipush 11, 2) := by decide +kernel
theorem dL_told_332 : decode cL_told 332 = .ok (.iload 11, 2) := by decide +kernel
theorem dL_told_334 : decode cL_told 334 = .ok (.iadd, 1) := by decide +kernel
theorem dL_told_335 : decode cL_told 335 = .ok (.iaload, 1) := by decide +kernel
theorem dL_told_336 : decode cL_told 336 = .ok (.iadd, 1) := by decide +kernel
theorem dL_told_337 : decode cL_told 337 = .ok (.istore 7, 2) := by decide +kernel
theorem dL_told_339 : decode cL_told 339 = .ok (.iload 8, 2) := by decide +kernel
theorem dL_told_341 : decode cL_told 341 = .ok (.iload 12, 2) := by decide +kernel
theorem dL_told_343 : decode cL_told 343 = .ok (.iadd, 1) := by decide +kernel
theorem dL_told_344 : decode cL_told 344 = .ok (.istore 8, 2) := by decide +kernel
theorem dL_told_346 : decode cL_told 346 = .ok (.iload 9, 2) := by decide +kernel
theorem dL_told_348 : decode cL_told 348 = .ok (.aload_n 1, 1) := by decide +kernel
theorem dL_told_349 : decode cL_told 349 = .ok (.bipush 27, 2) := by decide +kernel
theorem dL_told_351 : decode cL_told 351 = .ok (.iload 11, 2) := by decide +kernel
theorem dL_told_353 : decode cL_told 353 = .ok (.iadd, 1) := by decide +kernel
theorem dL_told_354 : decode cL_told 354 = .ok (.iaload, 1) := by decide +kernel
theorem dL_told_355 : decode cL_told 355 = .ok (.iadd, 1) := by decide +kernel
theorem dL_told_356 : decode cL_told 356 = .ok (.istore 9, 2) := by decide +kernel
theorem dL_told_358 : decode cL_told 358 = .ok (.aload_n 2, 1) := by decide +kernel
theorem dL_told_359 : decode cL_told 359 = .ok (.iconst 3, 1) := by decide +kernel
theorem dL_told_360 : decode cL_told 360 = .ok (.iload 11, 2) := by decide +kernel
theorem dL_told_362 : decode cL_told 362 = .ok (.imul, 1) := by decide +kernel
theorem dL_told_363 : decode cL_told 363 = .ok (.iconst 1, 1) := by decide +kernel
theorem dL_told_364 : decode cL_told 364 = .ok (.iadd, 1) := by decide +kernel
theorem dL_told_365 : decode cL_told 365 = .ok (.iaload, 1) := by decide +kernel
theorem dL_told_366 : decode cL_told 366 = .ok (.ifCond .le 31, 3) := by decide +kernel
theorem dL_told_369 : decode cL_told 369 = .ok (.iload 10, 2) := by decide +kernel
theorem dL_told_371 : decode cL_told 371 = .ok (.ifCond .lt 22, 3) := by decide +kernel
theorem dL_told_374 : decode cL_told 374 = .ok (.aload_n 2, 1) := by decide +kernel
theorem dL_told_375 : decode cL_told 375 = .ok (.iconst 3, 1) := by decide +kernel
theorem dL_told_376 : decode cL_told 376 = .ok (.iload 11, 2) := by decide +kernel
theorem dL_told_378 : decode cL_told 378 = .ok (.imul, 1) := by decide +kernel
theorem dL_told_379 : decode cL_told 379 = .ok (.iconst 1, 1) := by decide +kernel
theorem dL_told_380 : decode cL_told 380 = .ok (.iadd, 1) := by decide +kernel
theorem dL_told_381 : decode cL_told 381 = .ok (.iaload, 1) := by decide +kernel
theorem dL_told_382 : decode cL_told 382 = .ok (.aload_n 2, 1) := by decide +kernel
theorem dL_told_383 : decode cL_told 383 = .ok (.iconst 3, 1) := by decide +kernel
theorem dL_told_384 : decode cL_told 384 = .ok (.iload 10, 2) := by decide +kernel
theorem dL_told_386 : decode cL_told 386 = .ok (.imul, 1) := by decide +kernel
theorem dL_told_387 : decode cL_told 387 = .ok (.iconst 1, 1) := by decide +kernel
theorem dL_told_388 : decode cL_told 388 = .ok (.iadd, 1) := by decide +kernel
theorem dL_told_389 : decode cL_told 389 = .ok (.iaload, 1) := by decide +kernel
theorem dL_told_390 : decode cL_told 390 = .ok (.if_icmp .ge 7, 3) := by decide +kernel
theorem dL_told_393 : decode cL_told 393 = .ok (.iload 11, 2) := by decide +kernel
theorem dL_told_395 : decode cL_told 395 = .ok (.istore 10, 2) := by decide +kernel
theorem dL_told_397 : decode cL_told 397 = .ok (.iinc 11 1, 3) := by decide +kernel
theorem dL_told_400 : decode cL_told 400 = .ok (.goto (-344), 3) := by decide +kernel
theorem dL_told_403 : decode cL_told 403 = .ok (.iconst 0, 1) := by decide +kernel
theorem dL_told_404 : decode cL_told 404 = .ok (.istore 11, 2) := by decide +kernel
theorem dL_told_406 : decode cL_told 406 = .ok (.iconst 0, 1) := by decide +kernel
theorem dL_told_407 : decode cL_told 407 = .ok (.istore 12, 2) := by decide +kernel
theorem dL_told_409 : decode cL_told 409 = .ok (.iload 12, 2) := by decide +kernel
theorem dL_told_411 : decode cL_told 411 = .ok (.aload_n 1, 1) := by decide +kernel
theorem dL_told_412 : decode cL_told 412 = .ok (.iconst 1, 1) := by decide +kernel
theorem dL_told_413 : decode cL_told 413 = .ok (.iaload, 1) := by decide +kernel
theorem dL_told_414 : decode cL_told 414 = .ok (.if_icmp .ge 102, 3) := by decide +kernel
theorem dL_told_417 : decode cL_told 417 = .ok (.iconst 0, 1) := by decide +kernel
theorem dL_told_418 : decode cL_told 418 = .ok (.istore 13, 2) := by decide +kernel
theorem dL_told_420 : decode cL_told 420 = .ok (.iload 13, 2) := by decide +kernel
theorem dL_told_422 : decode cL_told 422 = .ok (.iconst 4, 1) := by decide +kernel
theorem dL_told_423 : decode cL_told 423 = .ok (.if_icmp .ge 31, 3) := by decide +kernel
theorem dL_told_426 : decode cL_told 426 = .ok (.aload_n 0, 1) := by decide +kernel
theorem dL_told_427 : decode cL_told 427 = .ok (.iload 12, 2) := by decide +kernel
theorem dL_told_429 : decode cL_told 429 = .ok (.iload 13, 2) := by decide +kernel
theorem dL_told_431 : decode cL_told 431 = .ok (.invokevirtual 33, 3) := by decide +kernel
theorem dL_told_434 : decode cL_told 434 = .ok (.aload_n 3, 1) := by decide +kernel
theorem dL_told_435 : decode cL_told 435 = .ok (.iconst 4, 1) := by decide +kernel
theorem dL_told_436 : decode cL_told 436 = .ok (.iload 12, 2) := by decide +kernel
theorem dL_told_438 : decode cL_told 438 = .ok (.imul, 1) := by decide +kernel
theorem dL_told_439 : decode cL_told 439 = .ok (.iload 13, 2) := by decide +kernel
theorem dL_told_441 : decode cL_told 441 = .ok (.iadd, 1) := by decide +kernel
theorem dL_told_442 : decode cL_told 442 = .ok (.iaload, 1) := by decide +kernel
theorem dL_told_443 : decode cL_told 443 = .ok (.if_icmp .eq 5, 3) := by decide +kernel
theorem dL_told_446 : decode cL_told 446 = .ok (.iconst 0, 1) := by decide +kernel
theorem dL_told_447 : decode cL_told 447 = .ok (.ireturn, 1) := by decide +kernel
theorem dL_told_448 : decode cL_told 448 = .ok (.iinc 13 1, 3) := by decide +kernel
theorem dL_told_451 : decode cL_told 451 = .ok (.goto (-31), 3) := by decide +kernel
theorem dL_told_454 : decode cL_told 454 = .ok (.aload_n 0, 1) := by decide +kernel
theorem dL_told_455 : decode cL_told 455 = .ok (.iload 12, 2) := by decide +kernel
theorem dL_told_457 : decode cL_told 457 = .ok (.iconst 4, 1) := by decide +kernel
theorem dL_told_458 : decode cL_told 458 = .ok (.invokevirtual 33, 3) := by decide +kernel
theorem dL_told_461 : decode cL_told 461 = .ok (.aload 4, 2) := by decide +kernel
theorem dL_told_463 : decode cL_told 463 = .ok (.iload 12, 2) := by decide +kernel
theorem dL_told_465 : decode cL_told 465 = .ok (.iaload, 1) := by decide +kernel
theorem dL_told_466 : decode cL_told 466 = .ok (.if_icmp .ne 21, 3) := by decide +kernel
theorem dL_told_469 : decode cL_told 469 = .ok (.aload_n 0, 1) := by decide +kernel
theorem dL_told_470 : decode cL_told 470 = .ok (.iload 12, 2) := by decide +kernel
theorem dL_told_472 : decode cL_told 472 = .ok (.iconst 5, 1) := by decide +kernel
theorem dL_told_473 : decode cL_told 473 = .ok (.invokevirtual 33, 3) := by decide +kernel
theorem dL_told_476 : decode cL_told 476 = .ok (.aload 4, 2) := by decide +kernel
theorem dL_told_478 : decode cL_told 478 = .ok (.bipush 12, 2) := by decide +kernel
theorem dL_told_480 : decode cL_told 480 = .ok (.iload 12, 2) := by decide +kernel
theorem dL_told_482 : decode cL_told 482 = .ok (.iadd, 1) := by decide +kernel
theorem dL_told_483 : decode cL_told 483 = .ok (.iaload, 1) := by decide +kernel
theorem dL_told_484 : decode cL_told 484 = .ok (.if_icmp .eq 5, 3) := by decide +kernel
theorem dL_told_487 : decode cL_told 487 = .ok (.iconst 0, 1) := by decide +kernel
theorem dL_told_488 : decode cL_told 488 = .ok (.ireturn, 1) := by decide +kernel
theorem dL_told_489 : decode cL_told 489 = .ok (.iload 11, 2) := by decide +kernel
theorem dL_told_491 : decode cL_told 491 = .ok (.aload_n 3, 1) := by decide +kernel
theorem dL_told_492 : decode cL_told 492 = .ok (.iconst 4, 1) := by decide +kernel
theorem dL_told_493 : decode cL_told 493 = .ok (.iload 12, 2) := by decide +kernel
theorem dL_told_495 : decode cL_told 495 = .ok (.imul, 1) := by decide +kernel
theorem dL_told_496 : decode cL_told 496 = .ok (.iconst 3, 1) := by decide +kernel
theorem dL_told_497 : decode cL_told 497 = .ok (.iadd, 1) := by decide +kernel
theorem dL_told_498 : decode cL_told 498 = .ok (.iaload, 1) := by decide +kernel
theorem dL_told_499 : decode cL_told 499 = .ok (.ifCond .le 7, 3) := by decide +kernel
theorem dL_told_502 : decode cL_told 502 = .ok (.iconst 1, 1) := by decide +kernel
theorem dL_told_503 : decode cL_told 503 = .ok (.goto 4, 3) := by decide +kernel
theorem dL_told_506 : decode cL_told 506 = .ok (.iconst 0, 1) := by decide +kernel
theorem dL_told_507 : decode cL_told 507 = .ok (.iadd, 1) := by decide +kernel
theorem dL_told_508 : decode cL_told 508 = .ok (.istore 11, 2) := by decide +kernel
theorem dL_told_510 : decode cL_told 510 = .ok (.iinc 12 1, 3) := by decide +kernel
theorem dL_told_513 : decode cL_told 513 = .ok (.goto (-104), 3) := by decide +kernel
theorem dL_told_516 : decode cL_told 516 = .ok (.aload_n 0, 1) := by decide +kernel
theorem dL_told_517 : decode cL_told 517 = .ok (.iconst 3, 1) := by decide +kernel
theorem dL_told_518 : decode cL_told 518 = .ok (.invokevirtual 14, 3) := by decide +kernel
theorem dL_told_521 : decode cL_told 521 = .ok (.iload 5, 2) := by decide +kernel
theorem dL_told_523 : decode cL_told 523 = .ok (.if_icmp .ne 67, 3) := by decide +kernel
theorem dL_told_526 : decode cL_told 526 = .ok (.aload_n 0, 1) := by decide +kernel
theorem dL_told_527 : decode cL_told 527 = .ok (.iconst 4, 1) := by decide +kernel
theorem dL_told_528 : decode cL_told 528 = .ok (.invokevirtual 14, 3) := by decide +kernel
theorem dL_told_531 : decode cL_told 531 = .ok (.iload 11, 2) := by decide +kernel
theorem dL_told_533 : decode cL_told 533 = .ok (.if_icmp .ne 57, 3) := by decide +kernel
theorem dL_told_536 : decode cL_told 536 = .ok (.aload_n 0, 1) := by decide +kernel
theorem dL_told_537 : decode cL_told 537 = .ok (.iconst 5, 1) := by decide +kernel
theorem dL_told_538 : decode cL_told 538 = .ok (.invokevirtual 14, 3) := by decide +kernel
theorem dL_told_541 : decode cL_told 541 = .ok (.iload 6, 2) := by decide +kernel
theorem dL_told_543 : decode cL_told 543 = .ok (.if_icmp .ne 47, 3) := by decide +kernel
theorem dL_told_546 : decode cL_told 546 = .ok (.aload_n 0, 1) := by decide +kernel
theorem dL_told_547 : decode cL_told 547 = .ok (.bipush 6, 2) := by decide +kernel
theorem dL_told_549 : decode cL_told 549 = .ok (.invokevirtual 14, 3) := by decide +kernel
theorem dL_told_552 : decode cL_told 552 = .ok (.iload 7, 2) := by decide +kernel
theorem dL_told_554 : decode cL_told 554 = .ok (.if_icmp .ne 36, 3) := by decide +kernel
theorem dL_told_557 : decode cL_told 557 = .ok (.aload_n 0, 1) := by decide +kernel
theorem dL_told_558 : decode cL_told 558 = .ok (.bipush 7, 2) := by decide +kernel
theorem dL_told_560 : decode cL_told 560 = .ok (.invokevirtual 14, 3) := by decide +kernel
theorem dL_told_563 : decode cL_told 563 = .ok (.iload 8, 2) := by decide +kernel
theorem dL_told_565 : decode cL_told 565 = .ok (.if_icmp .ne 25, 3) := by decide +kernel
theorem dL_told_568 : decode cL_told 568 = .ok (.aload_n 0, 1) := by decide +kernel
theorem dL_told_569 : decode cL_told 569 = .ok (.bipush 8, 2) := by decide +kernel
theorem dL_told_571 : decode cL_told 571 = .ok (.invokevirtual 14, 3) := by decide +kernel
theorem dL_told_574 : decode cL_told 574 = .ok (.iload 9, 2) := by decide +kernel
theorem dL_told_576 : decode cL_told 576 = .ok (.if_icmp .ne 14, 3) := by decide +kernel
theorem dL_told_579 : decode cL_told 579 = .ok (.aload_n 0, 1) := by decide +kernel
theorem dL_told_580 : decode cL_told 580 = .ok (.bipush 9, 2) := by decide +kernel
theorem dL_told_582 : decode cL_told 582 = .ok (.invokevirtual 14, 3) := by decide +kernel
theorem dL_told_585 : decode cL_told 585 = .ok (.iload 10, 2) := by decide +kernel
theorem dL_told_587 : decode cL_told 587 = .ok (.if_icmp .eq 5, 3) := by decide +kernel
theorem dL_told_590 : decode cL_told 590 = .ok (.iconst 0, 1) := by decide +kernel
theorem dL_told_591 : decode cL_told 591 = .ok (.ireturn, 1) := by decide +kernel
theorem dL_told_592 : decode cL_told 592 = .ok (.aload_n 0, 1) := by decide +kernel
theorem dL_told_593 : decode cL_told 593 = .ok (.invokevirtual 36, 3) := by decide +kernel
theorem dL_told_596 : decode cL_told 596 = .ok (.iload 6, 2) := by decide +kernel
theorem dL_told_598 : decode cL_told 598 = .ok (.ifCond .ne 7, 3) := by decide +kernel
theorem dL_told_601 : decode cL_told 601 = .ok (.dconst 0, 1) := by decide +kernel
theorem dL_told_602 : decode cL_told 602 = .ok (.goto 12, 3) := by decide +kernel
theorem dL_told_605 : decode cL_told 605 = .ok (.iload 8, 2) := by decide +kernel
theorem dL_told_607 : decode cL_told 607 = .ok (.i2d, 1) := by decide +kernel
theorem dL_told_608 : decode cL_told 608 = .ok (.dconst 1, 1) := by decide +kernel
theorem dL_told_609 : decode cL_told 609 = .ok (.dmul, 1) := by decide +kernel
theorem dL_told_610 : decode cL_told 610 = .ok (.iload 6, 2) := by decide +kernel
theorem dL_told_612 : decode cL_told 612 = .ok (.i2d, 1) := by decide +kernel
theorem dL_told_613 : decode cL_told 613 = .ok (.ddiv, 1) := by decide +kernel
theorem dL_told_614 : decode cL_told 614 = .ok (.dcmp .l, 1) := by decide +kernel
theorem dL_told_615 : decode cL_told 615 = .ok (.ifCond .ne 7, 3) := by decide +kernel
theorem dL_told_618 : decode cL_told 618 = .ok (.iconst 1, 1) := by decide +kernel
theorem dL_told_619 : decode cL_told 619 = .ok (.goto 4, 3) := by decide +kernel
theorem dL_told_622 : decode cL_told 622 = .ok (.iconst 0, 1) := by decide +kernel
theorem dL_told_623 : decode cL_told 623 = .ok (.ireturn, 1) := by decide +kernel
theorem dL_add_0 : decode cL_add 0 = .ok (.aload 4, 2) := by decide +kernel
theorem dL_add_2 : decode cL_add 2 = .ok (.iconst 0, 1) := by decide +kernel
theorem dL_add_3 : decode cL_add 3 = .ok (.iaload, 1) := by decide +kernel
theorem dL_add_4 : decode cL_add 4 = .ok (.istore 6, 2) := by decide +kernel
theorem dL_add_6 : decode cL_add 6 = .ok (.aload 5, 2) := by decide +kernel
theorem dL_add_8 : decode cL_add 8 = .ok (.iconst 3, 1) := by decide +kernel
theorem dL_add_9 : decode cL_add 9 = .ok (.iload 6, 2) := by decide +kernel
theorem dL_add_11 : decode cL_add 11 = .ok (.imul, 1) := by decide +kernel
theorem dL_add_12 : decode cL_add 12 = .ok (.iload_n 0, 1) := by decide +kernel
theorem dL_add_13 : decode cL_add 13 = .ok (.iastore, 1) := by decide +kernel
theorem dL_add_14 : decode cL_add 14 = .ok (.aload 5, 2) := by decide +kernel
theorem dL_add_16 : decode cL_add 16 = .ok (.iconst 3, 1) := by decide +kernel
theorem dL_add_17 : decode cL_add 17 = .ok (.iload 6, 2) := by decide +kernel
theorem dL_add_19 : decode cL_add 19 = .ok (.imul, 1) := by decide +kernel
theorem dL_add_20 : decode cL_add 20 = .ok (.iconst 1, 1) := by decide +kernel
theorem dL_add_21 : decode cL_add 21 = .ok (.iadd, 1) := by decide +kernel
theorem dL_add_22 : decode cL_add 22 = .ok (.iload_n 1, 1) := by decide +kernel
theorem dL_add_23 : decode cL_add 23 = .ok (.iastore, 1) := by decide +kernel
theorem dL_add_24 : decode cL_add 24 = .ok (.aload 5, 2) := by decide +kernel
theorem dL_add_26 : decode cL_add 26 = .ok (.iconst 3, 1) := by decide +kernel
theorem dL_add_27 : decode cL_add 27 = .ok (.iload 6, 2) := by decide +kernel
theorem dL_add_29 : decode cL_add 29 = .ok (.imul, 1) := by decide +kernel
theorem dL_add_30 : decode cL_add 30 = .ok (.iconst 2, 1) := by decide +kernel
theorem dL_add_31 : decode cL_add 31 = .ok (.iadd, 1) := by decide +kernel
theorem dL_add_32 : decode cL_add 32 = .ok (.iload_n 2, 1) := by decide +kernel
theorem dL_add_33 : decode cL_add 33 = .ok (.iastore, 1) := by decide +kernel
theorem dL_add_34 : decode cL_add 34 = .ok (.aload 4, 2) := by decide +kernel
theorem dL_add_36 : decode cL_add 36 = .ok (.iconst 3, 1) := by decide +kernel
theorem dL_add_37 : decode cL_add 37 = .ok (.iload 6, 2) := by decide +kernel
theorem dL_add_39 : decode cL_add 39 = .ok (.iadd, 1) := by decide +kernel
theorem dL_add_40 : decode cL_add 40 = .ok (.iload_n 0, 1) := by decide +kernel
theorem dL_add_41 : decode cL_add 41 = .ok (.iload_n 1, 1) := by decide +kernel
theorem dL_add_42 : decode cL_add 42 = .ok (.iload_n 2, 1) := by decide +kernel
theorem dL_add_43 : decode cL_add 43 = .ok (.invokestatic 40, 3) := by decide +kernel
theorem dL_add_46 : decode cL_add 46 = .ok (.iastore, 1) := by decide +kernel
theorem dL_add_47 : decode cL_add 47 = .ok (.aload 4, 2) := by decide +kernel
theorem dL_add_49 : decode cL_add 49 = .ok (.bipush 11, 2) := by decide +kernel
theorem dL_add_51 : decode cL_add 51 = .ok (.iload 6, 2) := by decide +kernel
theorem dL_add_53 : decode cL_add 53 = .ok (.iadd, 1) := by decide +kernel
theorem dL_add_54 : decode cL_add 54 = .ok (.aload 4, 2) := by decide +kernel
theorem dL_add_56 : decode cL_add 56 = .ok (.iconst 3, 1) := by decide +kernel
theorem dL_add_57 : decode cL_add 57 = .ok (.iload 6, 2) := by decide +kernel
theorem dL_add_59 : decode cL_add 59 = .ok (.iadd, 1) := by decide +kernel
theorem dL_add_60 : decode cL_add 60 = .ok (.iaload, 1) := by decide +kernel
theorem dL_add_61 : decode cL_add 61 = .ok (.iload_n 3, 1) := by decide +kernel
theorem dL_add_62 : decode cL_add 62 = .ok (.iadd, 1) := by decide +kernel
theorem dL_add_63 : decode cL_add 63 = .ok (.iastore, 1) := by decide +kernel
theorem dL_add_64 : decode cL_add 64 = .ok (.aload 4, 2) := by decide +kernel
theorem dL_add_66 : decode cL_add 66 = .ok (.bipush 19, 2) := by decide +kernel
theorem dL_add_68 : decode cL_add 68 = .ok (.iload 6, 2) := by decide +kernel
theorem dL_add_70 : decode cL_add 70 = .ok (.iadd, 1) := by decide +kernel
theorem dL_add_71 : decode cL_add 71 = .ok (.iload_n 3, 1) := by decide +kernel
theorem dL_add_72 : decode cL_add 72 = .ok (.ineg, 1) := by decide +kernel
theorem dL_add_73 : decode cL_add 73 = .ok (.iastore, 1) := by decide +kernel
theorem dL_add_74 : decode cL_add 74 = .ok (.aload 4, 2) := by decide +kernel
theorem dL_add_76 : decode cL_add 76 = .ok (.bipush 27, 2) := by decide +kernel
theorem dL_add_78 : decode cL_add 78 = .ok (.iload 6, 2) := by decide +kernel
theorem dL_add_80 : decode cL_add 80 = .ok (.iadd, 1) := by decide +kernel
theorem dL_add_81 : decode cL_add 81 = .ok (.iconst 0, 1) := by decide +kernel
theorem dL_add_82 : decode cL_add 82 = .ok (.iastore, 1) := by decide +kernel
theorem dL_add_83 : decode cL_add 83 = .ok (.aload 4, 2) := by decide +kernel
theorem dL_add_85 : decode cL_add 85 = .ok (.iconst 0, 1) := by decide +kernel
theorem dL_add_86 : decode cL_add 86 = .ok (.dup2, 1) := by decide +kernel
theorem dL_add_87 : decode cL_add 87 = .ok (.iaload, 1) := by decide +kernel
theorem dL_add_88 : decode cL_add 88 = .ok (.iconst 1, 1) := by decide +kernel
theorem dL_add_89 : decode cL_add 89 = .ok (.iadd, 1) := by decide +kernel
theorem dL_add_90 : decode cL_add 90 = .ok (.iastore, 1) := by decide +kernel
theorem dL_add_91 : decode cL_add 91 = .ok (.return_, 1) := by decide +kernel
theorem dL_pass_0 : decode cL_pass 0 = .ok (.aload_n 2, 1) := by decide +kernel
theorem dL_pass_1 : decode cL_pass 1 = .ok (.iconst 3, 1) := by decide +kernel
theorem dL_pass_2 : decode cL_pass 2 = .ok (.iload_n 0, 1) := by decide +kernel
theorem dL_pass_3 : decode cL_pass 3 = .ok (.imul, 1) := by decide +kernel
theorem dL_pass_4 : decode cL_pass 4 = .ok (.iconst 1, 1) := by decide +kernel
theorem dL_pass_5 : decode cL_pass 5 = .ok (.iadd, 1) := by decide +kernel
theorem dL_pass_6 : decode cL_pass 6 = .ok (.iaload, 1) := by decide +kernel
theorem dL_pass_7 : decode cL_pass 7 = .ok (.ifCond .ne 4, 3) := by decide +kernel
theorem dL_pass_10 : decode cL_pass 10 = .ok (.return_, 1) := by decide +kernel
theorem dL_pass_11 : decode cL_pass 11 = .ok (.aload_n 1, 1) := by decide +kernel
theorem dL_pass_12 : decode cL_pass 12 = .ok (.bipush 11, 2) := by decide +kernel
theorem dL_pass_14 : decode cL_pass 14 = .ok (.iload_n 0, 1) := by decide +kernel
theorem dL_pass_15 : decode cL_pass 15 = .ok (.iadd, 1) := by decide +kernel
theorem dL_pass_16 : decode cL_pass 16 = .ok (.iaload, 1) := by decide +kernel
theorem dL_pass_17 : decode cL_pass 17 = .ok (.aload_n 2, 1) := by decide +kernel
theorem dL_pass_18 : decode cL_pass 18 = .ok (.iconst 3, 1) := by decide +kernel
theorem dL_pass_19 : decode cL_pass 19 = .ok (.iload_n 0, 1) := by decide +kernel
theorem dL_pass_20 : decode cL_pass 20 = .ok (.imul, 1) := by decide +kernel
theorem dL_pass_21 : decode cL_pass 21 = .ok (.iconst 1, 1) := by decide +kernel
theorem dL_pass_22 : decode cL_pass 22 = .ok (.iadd, 1) := by decide +kernel
theorem dL_pass_23 : decode cL_pass 23 = .ok (.iaload, 1) := by decide +kernel
theorem dL_pass_24 : decode cL_pass 24 = .ok (.idiv, 1) := by decide +kernel
theorem dL_pass_25 : decode cL_pass 25 = .ok (.istore 5, 2) := by decide +kernel
theorem dL_pass_27 : decode cL_pass 27 = .ok (.aload_n 2, 1) := by decide +kernel
theorem dL_pass_28 : decode cL_pass 28 = .ok (.iconst 3, 1) := by decide +kernel
theorem dL_pass_29 : decode cL_pass 29 = .ok (.iload_n 0, 1) := by decide +kernel
theorem dL_pass_30 : decode cL_pass 30 = .ok (.imul, 1) := by decide +kernel
theorem dL_pass_31 : decode cL_pass 31 = .ok (.iconst 1, 1) := by decide +kernel
theorem dL_pass_32 : decode cL_pass 32 = .ok (.iadd, 1) := by decide +kernel
theorem dL_pass_33 : decode cL_pass 33 = .ok (.dup2, 1) := by decide +kernel
theorem dL_pass_34 : decode cL_pass 34 = .ok (.iaload, 1) := by decide +kernel
theorem dL_pass_35 : decode cL_pass 35 = .ok (.iconst 1, 1) := by decide +kernel
theorem dL_pass_36 : decode cL_pass 36 = .ok (.isub, 1) := by decide +kernel
theorem dL_pass_37 : decode cL_pass 37 = .ok (.iastore, 1) := by decide +kernel
theorem dL_pass_38 : decode cL_pass 38 = .ok (.aload_n 2, 1) := by decide +kernel
theorem dL_pass_39 : decode cL_pass 39 = .ok (.iconst 3, 1) := by decide +kernel
theorem dL_pass_40 : decode cL_pass 40 = .ok (.iload_n 0, 1) := by decide +kernel
theorem dL_pass_41 : decode cL_pass 41 = .ok (.imul, 1) := by decide +kernel
theorem dL_pass_42 : decode cL_pass 42 = .ok (.iaload, 1) := by decide +kernel
theorem dL_pass_43 : decode cL_pass 43 = .ok (.aload_n 2, 1) := by decide +kernel
theorem dL_pass_44 : decode cL_pass 44 = .ok (.iconst 3, 1) := by decide +kernel
theorem dL_pass_45 : decode cL_pass 45 = .ok (.iload_n 0, 1) := by decide +kernel
theorem dL_pass_46 : decode cL_pass 46 = .ok (.imul, 1) := by decide +kernel
theorem dL_pass_47 : decode cL_pass 47 = .ok (.iconst 1, 1) := by decide +kernel
theorem dL_pass_48 : decode cL_pass 48 = .ok (.iadd, 1) := by decide +kernel
theorem dL_pass_49 : decode cL_pass 49 = .ok (.iaload, 1) := by decide +kernel
theorem dL_pass_50 : decode cL_pass 50 = .ok (.aload_n 2, 1) := by decide +kernel
theorem dL_pass_51 : decode cL_pass 51 = .ok (.iconst 3, 1) := by decide +kernel
theorem dL_pass_52 : decode cL_pass 52 = .ok (.iload_n 0, 1) := by decide +kernel
theorem dL_pass_53 : decode cL_pass 53 = .ok (.imul, 1) := by decide +kernel
theorem dL_pass_54 : decode cL_pass 54 = .ok (.iconst 2, 1) := by decide +kernel
theorem dL_pass_55 : decode cL_pass 55 = .ok (.iadd, 1) := by decide +kernel
theorem dL_pass_56 : decode cL_pass 56 = .ok (.iaload, 1) := by decide +kernel
theorem dL_pass_57 : decode cL_pass 57 = .ok (.invokestatic 40, 3) := by decide +kernel
theorem dL_pass_60 : decode cL_pass 60 = .ok (.istore 6, 2) := by decide +kernel
theorem dL_pass_62 : decode cL_pass 62 = .ok (.aload_n 1, 1) := by decide +kernel
theorem dL_pass_63 : decode cL_pass 63 = .ok (.bipush 27, 2) := by decide +kernel
theorem dL_pass_65 : decode cL_pass 65 = .ok (.iload_n 0, 1) := by decide +kernel
theorem dL_pass_66 : decode cL_pass 66 = .ok (.iadd, 1) := by decide +kernel
theorem dL_pass_67 : decode cL_pass 67 = .ok (.dup2, 1) := by decide +kernel
theorem dL_pass_68 : decode cL_pass 68 = .ok (.iaload, 1) := by decide +kernel
theorem dL_pass_69 : decode cL_pass 69 = .ok (.iload 6, 2) := by decide +kernel
theorem dL_pass_71 : decode cL_pass 71 = .ok (.aload_n 1, 1) := by decide +kernel
theorem dL_pass_72 : decode cL_pass 72 = .ok (.iconst 3, 1) := by decide +kernel
theorem dL_pass_73 : decode cL_pass 73 = .ok (.iload_n 0, 1) := by decide +kernel
theorem dL_pass_74 : decode cL_pass 74 = .ok (.iadd, 1) := by decide +kernel
theorem dL_pass_75 : decode cL_pass 75 = .ok (.iaload, 1) := by decide +kernel
theorem dL_pass_76 : decode cL_pass 76 = .ok (.isub, 1) := by decide +kernel
theorem dL_pass_77 : decode cL_pass 77 = .ok (.aload_n 2, 1) := by decide +kernel
theorem dL_pass_78 : decode cL_pass 78 = .ok (.iconst 3, 1) := by decide +kernel
theorem dL_pass_79 : decode cL_pass 79 = .ok (.iload_n 0, 1) := by decide +kernel
theorem dL_pass_80 : decode cL_pass 80 = .ok (.imul, 1) := by decide +kernel
theorem dL_pass_81 : decode cL_pass 81 = .ok (.iaload, 1) := by decide +kernel
theorem dL_pass_82 : decode cL_pass 82 = .ok (.iadd, 1) := by decide +kernel
theorem dL_pass_83 : decode cL_pass 83 = .ok (.iload 5, 2) := by decide +kernel
theorem dL_pass_85 : decode cL_pass 85 = .ok (.iadd, 1) := by decide +kernel
theorem dL_pass_86 : decode cL_pass 86 = .ok (.isub, 1) := by decide +kernel
theorem dL_pass_87 : decode cL_pass 87 = .ok (.iastore, 1) := by decide +kernel
theorem dL_pass_88 : decode cL_pass 88 = .ok (.aload_n 1, 1) := by decide +kernel
theorem dL_pass_89 : decode cL_pass 89 = .ok (.bipush 19, 2) := by decide +kernel
theorem dL_pass_91 : decode cL_pass 91 = .ok (.iload_n 0, 1) := by decide +kernel
theorem dL_pass_92 : decode cL_pass 92 = .ok (.iadd, 1) := by decide +kernel
theorem dL_pass_93 : decode cL_pass 93 = .ok (.dup2, 1) := by decide +kernel
theorem dL_pass_94 : decode cL_pass 94 = .ok (.iaload, 1) := by decide +kernel
theorem dL_pass_95 : decode cL_pass 95 = .ok (.aload_n 2, 1) := by decide +kernel
theorem dL_pass_96 : decode cL_pass 96 = .ok (.iconst 3, 1) := by decide +kernel
theorem dL_pass_97 : decode cL_pass 97 = .ok (.iload_n 0, 1) := by decide +kernel
theorem dL_pass_98 : decode cL_pass 98 = .ok (.imul, 1) := by decide +kernel
theorem dL_pass_99 : decode cL_pass 99 = .ok (.iaload, 1) := by decide +kernel
theorem dL_pass_100 : decode cL_pass 100 = .ok (.isub, 1) := by decide +kernel
theorem dL_pass_101 : decode cL_pass 101 = .ok (.iastore, 1) := by decide +kernel
theorem dL_pass_102 : decode cL_pass 102 = .ok (.aload_n 1, 1) := by decide +kernel
theorem dL_pass_103 : decode cL_pass 103 = .ok (.iconst 3, 1) := by decide +kernel
theorem dL_pass_104 : decode cL_pass 104 = .ok (.iload_n 0, 1) := by decide +kernel
theorem dL_pass_105 : decode cL_pass 105 = .ok (.iadd, 1) := by decide +kernel
theorem dL_pass_106 : decode cL_pass 106 = .ok (.iload 6, 2) := by decide +kernel
theorem dL_pass_108 : decode cL_pass 108 = .ok (.iastore, 1) := by decide +kernel
theorem dL_pass_109 : decode cL_pass 109 = .ok (.aload_n 1, 1) := by decide +kernel
theorem dL_pass_110 : decode cL_pass 110 = .ok (.bipush 11, 2) := by decide +kernel
theorem dL_pass_112 : decode cL_pass 112 = .ok (.iload_n 0, 1) := by decide +kernel
theorem dL_pass_113 : decode cL_pass 113 = .ok (.iadd, 1) := by decide +kernel
theorem dL_pass_114 : decode cL_pass 114 = .ok (.dup2, 1) := by decide +kernel
theorem dL_pass_115 : decode cL_pass 115 = .ok (.iaload, 1) := by decide +kernel
theorem dL_pass_116 : decode cL_pass 116 = .ok (.iload 5, 2) := by decide +kernel
theorem dL_pass_118 : decode cL_pass 118 = .ok (.isub, 1) := by decide +kernel
theorem dL_pass_119 : decode cL_pass 119 = .ok (.iastore, 1) := by decide +kernel
theorem dL_pass_120 : decode cL_pass 120 = .ok (.iconst 0, 1) := by decide +kernel
theorem dL_pass_121 : decode cL_pass 121 = .ok (.istore 7, 2) := by decide +kernel
theorem dL_pass_123 : decode cL_pass 123 = .ok (.iload 7, 2) := by decide +kernel
theorem dL_pass_125 : decode cL_pass 125 = .ok (.aload_n 1, 1) := by decide +kernel
theorem dL_pass_126 : decode cL_pass 126 = .ok (.iconst 1, 1) := by decide +kernel
theorem dL_pass_127 : decode cL_pass 127 = .ok (.iaload, 1) := by decide +kernel
theorem dL_pass_128 : decode cL_pass 128 = .ok (.if_icmp .ge 127, 3) := by decide +kernel
theorem dL_pass_131 : decode cL_pass 131 = .ok (.aload_n 3, 1) := by decide +kernel
theorem dL_pass_132 : decode cL_pass 132 = .ok (.iconst 4, 1) := by decide +kernel
theorem dL_pass_133 : decode cL_pass 133 = .ok (.iload 7, 2) := by decide +kernel
theorem dL_pass_135 : decode cL_pass 135 = .ok (.imul, 1) := by decide +kernel
theorem dL_pass_136 : decode cL_pass 136 = .ok (.iaload, 1) := by decide +kernel
theorem dL_pass_137 : decode cL_pass 137 = .ok (.iload_n 0, 1) := by decide +kernel
theorem dL_pass_138 : decode cL_pass 138 = .ok (.if_icmp .ne 111, 3) := by decide +kernel
theorem dL_pass_141 : decode cL_pass 141 = .ok (.aload_n 3, 1) := by decide +kernel
theorem dL_pass_142 : decode cL_pass 142 = .ok (.iconst 4, 1) := by decide +kernel
theorem dL_pass_143 : decode cL_pass 143 = .ok (.iload 7, 2) := by decide +kernel
theorem dL_pass_145 : decode cL_pass 145 = .ok (.imul, 1) := by decide +kernel
theorem dL_pass_146 : decode cL_pass 146 = .ok (.iconst 3, 1) := by decide +kernel
theorem dL_pass_147 : decode cL_pass 147 = .ok (.iadd, 1) := by decide +kernel
theorem dL_pass_148 : decode cL_pass 148 = .ok (.iaload, 1) := by decide +kernel
theorem dL_pass_149 : decode cL_pass 149 = .ok (.ifCond .ne 6, 3) := by decide +kernel
theorem dL_pass_152 : decode cL_pass 152 = .ok (.goto 97, 3) := by decide +kernel
theorem dL_pass_155 : decode cL_pass 155 = .ok (.aload_n 3, 1) := by decide +kernel
theorem dL_pass_156 : decode cL_pass 156 = .ok (.iconst 4, 1) := by decide +kernel
theorem dL_pass_157 : decode cL_pass 157 = .ok (.iload 7, 2) := by decide +kernel
theorem dL_pass_159 : decode cL_pass 159 = .ok (.imul, 1) := by decide +kernel
theorem dL_pass_160 : decode cL_pass 160 = .ok (.iconst 3, 1) := by decide +kernel
theorem dL_pass_161 : decode cL_pass 161 = .ok (.iadd, 1) := by decide +kernel
theorem dL_pass_162 : decode cL_pass 162 = .ok (.dup2, 1) := by decide +kernel
theorem dL_pass_163 : decode cL_pass 163 = .ok (.iaload, 1) := by decide +kernel
theorem dL_pass_164 : decode cL_pass 164 = .ok (.iconst 1, 1) := by decide +kernel
theorem dL_pass_165 : decode cL_pass 165 = .ok (.isub, 1) := by decide +kernel
theorem dL_pass_166 : decode cL_pass 166 = .ok (.iastore, 1) := by decide +kernel
theorem dL_pass_167 : decode cL_pass 167 = .ok (.aload_n 3, 1) := by decide +kernel
theorem dL_pass_168 : decode cL_pass 168 = .ok (.iconst 4, 1) := by decide +kernel
theorem dL_pass_169 : decode cL_pass 169 = .ok (.iload 7, 2) := by decide +kernel
theorem dL_pass_171 : decode cL_pass 171 = .ok (.imul, 1) := by decide +kernel
theorem dL_pass_172 : decode cL_pass 172 = .ok (.iconst 2, 1) := by decide +kernel
theorem dL_pass_173 : decode cL_pass 173 = .ok (.iadd, 1) := by decide +kernel
theorem dL_pass_174 : decode cL_pass 174 = .ok (.iaload, 1) := by decide +kernel
theorem dL_pass_175 : decode cL_pass 175 = .ok (.aload_n 3, 1) := by decide +kernel
theorem dL_pass_176 : decode cL_pass 176 = .ok (.iconst 4, 1) := by decide +kernel
theorem dL_pass_177 : decode cL_pass 177 = .ok (.iload 7, 2) := by decide +kernel
theorem dL_pass_179 : decode cL_pass 179 = .ok (.imul, 1) := by decide +kernel
theorem dL_pass_180 : decode cL_pass 180 = .ok (.iconst 3, 1) := by decide +kernel
theorem dL_pass_181 : decode cL_pass 181 = .ok (.iadd, 1) := by decide +kernel
theorem dL_pass_182 : decode cL_pass 182 = .ok (.iaload, 1) := by decide +kernel
theorem dL_pass_183 : decode cL_pass 183 = .ok (.aload 4, 2) := by decide +kernel
theorem dL_pass_185 : decode cL_pass 185 = .ok (.iload 7, 2) := by decide +kernel
theorem dL_pass_187 : decode cL_pass 187 = .ok (.iaload, 1) := by decide +kernel
theorem dL_pass_188 : decode cL_pass 188 = .ok (.invokestatic 40, 3) := by decide +kernel
theorem dL_pass_191 : decode cL_pass 191 = .ok (.istore 8, 2) := by decide +kernel
theorem dL_pass_193 : decode cL_pass 193 = .ok (.aload_n 1, 1) := by decide +kernel
theorem dL_pass_194 : decode cL_pass 194 = .ok (.bipush 27, 2) := by decide +kernel
theorem dL_pass_196 : decode cL_pass 196 = .ok (.iload_n 0, 1) := by decide +kernel
theorem dL_pass_197 : decode cL_pass 197 = .ok (.iadd, 1) := by decide +kernel
theorem dL_pass_198 : decode cL_pass 198 = .ok (.dup2, 1) := by decide +kernel
theorem dL_pass_199 : decode cL_pass 199 = .ok (.iaload, 1) := by decide +kernel
theorem dL_pass_200 : decode cL_pass 200 = .ok (.iload 8, 2) := by decide +kernel
theorem dL_pass_202 : decode cL_pass 202 = .ok (.aload 4, 2) := by decide +kernel
theorem dL_pass_204 : decode cL_pass 204 = .ok (.bipush 12, 2) := by decide +kernel
theorem dL_pass_206 : decode cL_pass 206 = .ok (.iload 7, 2) := by decide +kernel
theorem dL_pass_208 : decode cL_pass 208 = .ok (.iadd, 1) := by decide +kernel
theorem dL_pass_209 : decode cL_pass 209 = .ok (.iaload, 1) := by decide +kernel
theorem dL_pass_210 : decode cL_pass 210 = .ok (.isub, 1) := by decide +kernel
theorem dL_pass_211 : decode cL_pass 211 = .ok (.aload_n 3, 1) := by decide +kernel
theorem dL_pass_212 : decode cL_pass 212 = .ok (.iconst 4, 1) := by decide +kernel
theorem dL_pass_213 : decode cL_pass 213 = .ok (.iload 7, 2) := by decide +kernel
theorem dL_pass_215 : decode cL_pass 215 = .ok (.imul, 1) := by decide +kernel
theorem dL_pass_216 : decode cL_pass 216 = .ok (.iconst 2, 1) := by decide +kernel
theorem dL_pass_217 : decode cL_pass 217 = .ok (.iadd, 1) := by decide +kernel
theorem dL_pass_218 : decode cL_pass 218 = .ok (.iaload, 1) := by decide +kernel
theorem dL_pass_219 : decode cL_pass 219 = .ok (.iadd, 1) := by decide +kernel
theorem dL_pass_220 : decode cL_pass 220 = .ok (.iadd, 1) := by decide +kernel
theorem dL_pass_221 : decode cL_pass 221 = .ok (.iastore, 1) := by decide +kernel
theorem dL_pass_222 : decode cL_pass 222 = .ok (.aload_n 1, 1) := by decide +kernel
theorem dL_pass_223 : decode cL_pass 223 = .ok (.bipush 19, 2) := by decide +kernel
theorem dL_pass_225 : decode cL_pass 225 = .ok (.iload_n 0, 1) := by decide +kernel
theorem dL_pass_226 : decode cL_pass 226 = .ok (.iadd, 1) := by decide +kernel
theorem dL_pass_227 : decode cL_pass 227 = .ok (.dup2, 1) := by decide +kernel
theorem dL_pass_228 : decode cL_pass 228 = .ok (.iaload, 1) := by decide +kernel
theorem dL_pass_229 : decode cL_pass 229 = .ok (.aload_n 3, 1) := by decide +kernel
theorem dL_pass_230 : decode cL_pass 230 = .ok (.iconst 4, 1) := by decide +kernel
theorem dL_pass_231 : decode cL_pass 231 = .ok (.iload 7, 2) := by decide +kernel
theorem dL_pass_233 : decode cL_pass 233 = .ok (.imul, 1) := by decide +kernel
theorem dL_pass_234 : decode cL_pass 234 = .ok (.iconst 2, 1) := by decide +kernel
theorem dL_pass_235 : decode cL_pass 235 = .ok (.iadd, 1) := by decide +kernel
theorem dL_pass_236 : decode cL_pass 236 = .ok (.iaload, 1) := by decide +kernel
theorem dL_pass_237 : decode cL_pass 237 = .ok (.iadd, 1) := by decide +kernel
theorem dL_pass_238 : decode cL_pass 238 = .ok (.iastore, 1) := by decide +kernel
theorem dL_pass_239 : decode cL_pass 239 = .ok (.aload 4, 2) := by decide +kernel
theorem dL_pass_241 : decode cL_pass 241 = .ok (.bipush 12, 2) := by decide +kernel
theorem dL_pass_243 : decode cL_pass 243 = .ok (.iload 7, 2) := by decide +kernel
theorem dL_pass_245 : decode cL_pass 245 = .ok (.iadd, 1) := by decide +kernel
theorem dL_pass_246 : decode cL_pass 246 = .ok (.iload 8, 2) := by decide +kernel
theorem dL_pass_248 : decode cL_pass 248 = .ok (.iastore, 1) := by decide +kernel
theorem dL_pass_249 : decode cL_pass 249 = .ok (.iinc 7 1, 3) := by decide +kernel
theorem dL_pass_252 : decode cL_pass 252 = .ok (.goto (-129), 3) := by decide +kernel
theorem dL_pass_255 : decode cL_pass 255 = .ok (.return_, 1) := by decide +kernel
theorem dL_measure_0 : decode cL_measure 0 = .ok (.iload_n 1, 1) := by decide +kernel
theorem dL_measure_1 : decode cL_measure 1 = .ok (.iload_n 2, 1) := by decide +kernel
theorem dL_measure_2 : decode cL_measure 2 = .ok (.iload_n 3, 1) := by decide +kernel
theorem dL_measure_3 : decode cL_measure 3 = .ok (.invokestatic 40, 3) := by decide +kernel
theorem dL_measure_6 : decode cL_measure 6 = .ok (.istore 8, 2) := by decide +kernel
theorem dL_measure_8 : decode cL_measure 8 = .ok (.aload 4, 2) := by decide +kernel
theorem dL_measure_10 : decode cL_measure 10 = .ok (.bipush 11, 2) := by decide +kernel
theorem dL_measure_12 : decode cL_measure 12 = .ok (.iload_n 0, 1) := by decide +kernel
theorem dL_measure_13 : decode cL_measure 13 = .ok (.iadd, 1) := by decide +kernel
theorem dL_measure_14 : decode cL_measure 14 = .ok (.iaload, 1) := by decide +kernel
theorem dL_measure_15 : decode cL_measure 15 = .ok (.iload 8, 2) := by decide +kernel
theorem dL_measure_17 : decode cL_measure 17 = .ok (.iadd, 1) := by decide +kernel
theorem dL_measure_18 : decode cL_measure 18 = .ok (.aload 4, 2) := by decide +kernel
theorem dL_measure_20 : decode cL_measure 20 = .ok (.iconst 3, 1) := by decide +kernel
theorem dL_measure_21 : decode cL_measure 21 = .ok (.iload_n 0, 1) := by decide +kernel
theorem dL_measure_22 : decode cL_measure 22 = .ok (.iadd, 1) := by decide +kernel
theorem dL_measure_23 : decode cL_measure 23 = .ok (.iaload, 1) := by decide +kernel
theorem dL_measure_24 : decode cL_measure 24 = .ok (.isub, 1) := by decide +kernel
theorem dL_measure_25 : decode cL_measure 25 = .ok (.istore 9, 2) := by decide +kernel
theorem dL_measure_27 : decode cL_measure 27 = .ok (.iload 9, 2) := by decide +kernel
theorem dL_measure_29 : decode cL_measure 29 = .ok (.ifCond .ge 7, 3) := by decide +kernel
theorem dL_measure_32 : decode cL_measure 32 = .ok (.iconst 0, 1) := by decide +kernel
theorem dL_measure_33 : decode cL_measure 33 = .ok (.goto 5, 3) := by decide +kernel
theorem dL_measure_36 : decode cL_measure 36 = .ok (.iload 9, 2) := by decide +kernel
theorem dL_measure_38 : decode cL_measure 38 = .ok (.istore 9, 2) := by decide +kernel
theorem dL_measure_40 : decode cL_measure 40 = .ok (.aload 4, 2) := by decide +kernel
theorem dL_measure_42 : decode cL_measure 42 = .ok (.bipush 27, 2) := by decide +kernel
theorem dL_measure_44 : decode cL_measure 44 = .ok (.iload_n 0, 1) := by decide +kernel
theorem dL_measure_45 : decode cL_measure 45 = .ok (.iadd, 1) := by decide +kernel
theorem dL_measure_46 : decode cL_measure 46 = .ok (.dup2, 1) := by decide +kernel
theorem dL_measure_47 : decode cL_measure 47 = .ok (.iaload, 1) := by decide +kernel
theorem dL_measure_48 : decode cL_measure 48 = .ok (.iload 9, 2) := by decide +kernel
theorem dL_measure_50 : decode cL_measure 50 = .ok (.aload 4, 2) := by decide +kernel
theorem dL_measure_52 : decode cL_measure 52 = .ok (.bipush 11, 2) := by decide +kernel
theorem dL_measure_54 : decode cL_measure 54 = .ok (.iload_n 0, 1) := by decide +kernel
theorem dL_measure_55 : decode cL_measure 55 = .ok (.iadd, 1) := by decide +kernel
theorem dL_measure_56 : decode cL_measure 56 = .ok (.iaload, 1) := by decide +kernel
theorem dL_measure_57 : decode cL_measure 57 = .ok (.isub, 1) := by decide +kernel
theorem dL_measure_58 : decode cL_measure 58 = .ok (.iload 8, 2) := by decide +kernel
theorem dL_measure_60 : decode cL_measure 60 = .ok (.isub, 1) := by decide +kernel
theorem dL_measure_61 : decode cL_measure 61 = .ok (.aload 4, 2) := by decide +kernel
theorem dL_measure_63 : decode cL_measure 63 = .ok (.iconst 3, 1) := by decide +kernel
theorem dL_measure_64 : decode cL_measure 64 = .ok (.iload_n 0, 1) := by decide +kernel
theorem dL_measure_65 : decode cL_measure 65 = .ok (.iadd, 1) := by decide +kernel
theorem dL_measure_66 : decode cL_measure 66 = .ok (.iaload, 1) := by decide +kernel
theorem dL_measure_67 : decode cL_measure 67 = .ok (.iadd, 1) := by decide +kernel
theorem dL_measure_68 : decode cL_measure 68 = .ok (.iadd, 1) := by decide +kernel
theorem dL_measure_69 : decode cL_measure 69 = .ok (.iastore, 1) := by decide +kernel
theorem dL_measure_70 : decode cL_measure 70 = .ok (.aload 4, 2) := by decide +kernel
theorem dL_measure_72 : decode cL_measure 72 = .ok (.iconst 3, 1) := by decide +kernel
theorem dL_measure_73 : decode cL_measure 73 = .ok (.iload_n 0, 1) := by decide +kernel
theorem dL_measure_74 : decode cL_measure 74 = .ok (.iadd, 1) := by decide +kernel
theorem dL_measure_75 : decode cL_measure 75 = .ok (.iload 8, 2) := by decide +kernel
theorem dL_measure_77 : decode cL_measure 77 = .ok (.iastore, 1) := by decide +kernel
theorem dL_measure_78 : decode cL_measure 78 = .ok (.aload 4, 2) := by decide +kernel
theorem dL_measure_80 : decode cL_measure 80 = .ok (.bipush 11, 2) := by decide +kernel
theorem dL_measure_82 : decode cL_measure 82 = .ok (.iload_n 0, 1) := by decide +kernel
theorem dL_measure_83 : decode cL_measure 83 = .ok (.iadd, 1) := by decide +kernel
theorem dL_measure_84 : decode cL_measure 84 = .ok (.iload 9, 2) := by decide +kernel
theorem dL_measure_86 : decode cL_measure 86 = .ok (.iastore, 1) := by decide +kernel
theorem dL_measure_87 : decode cL_measure 87 = .ok (.aload 5, 2) := by decide +kernel
theorem dL_measure_89 : decode cL_measure 89 = .ok (.iconst 3, 1) := by decide +kernel
theorem dL_measure_90 : decode cL_measure 90 = .ok (.iload_n 0, 1) := by decide +kernel
theorem dL_measure_91 : decode cL_measure 91 = .ok (.imul, 1) := by decide +kernel
theorem dL_measure_92 : decode cL_measure 92 = .ok (.iload_n 1, 1) := by decide +kernel
theorem dL_measure_93 : decode cL_measure 93 = .ok (.iastore, 1) := by decide +kernel
theorem dL_measure_94 : decode cL_measure 94 = .ok (.aload 5, 2) := by decide +kernel
theorem dL_measure_96 : decode cL_measure 96 = .ok (.iconst 3, 1) := by decide +kernel
theorem dL_measure_97 : decode cL_measure 97 = .ok (.iload_n 0, 1) := by decide +kernel
theorem dL_measure_98 : decode cL_measure 98 = .ok (.imul, 1) := by decide +kernel
theorem dL_measure_99 : decode cL_measure 99 = .ok (.iconst 1, 1) := by decide +kernel
theorem dL_measure_100 : decode cL_measure 100 = .ok (.iadd, 1) := by decide +kernel
theorem dL_measure_101 : decode cL_measure 101 = .ok (.iload_n 2, 1) := by decide +kernel
theorem dL_measure_102 : decode cL_measure 102 = .ok (.iastore, 1) := by decide +kernel
theorem dL_measure_103 : decode cL_measure 103 = .ok (.aload 5, 2) := by decide +kernel
theorem dL_measure_105 : decode cL_measure 105 = .ok (.iconst 3, 1) := by decide +kernel
theorem dL_measure_106 : decode cL_measure 106 = .ok (.iload_n 0, 1) := by decide +kernel
theorem dL_measure_107 : decode cL_measure 107 = .ok (.imul, 1) := by decide +kernel
theorem dL_measure_108 : decode cL_measure 108 = .ok (.iconst 2, 1) := by decide +kernel
theorem dL_measure_109 : decode cL_measure 109 = .ok (.iadd, 1) := by decide +kernel
theorem dL_measure_110 : decode cL_measure 110 = .ok (.iload_n 3, 1) := by decide +kernel
theorem dL_measure_111 : decode cL_measure 111 = .ok (.iastore, 1) := by decide +kernel
theorem dL_measure_112 : decode cL_measure 112 = .ok (.iconst 0, 1) := by decide +kernel
theorem dL_measure_113 : decode cL_measure 113 = .ok (.istore 10, 2) := by decide +kernel
theorem dL_measure_115 : decode cL_measure 115 = .ok (.iload 10, 2) := by decide +kernel
theorem dL_measure_117 : decode cL_measure 117 = .ok (.aload 4, 2) := by decide +kernel
theorem dL_measure_119 : decode cL_measure 119 = .ok (.iconst 1, 1) := by decide +kernel
theorem dL_measure_120 : decode cL_measure 120 = .ok (.iaload, 1) := by decide +kernel
theorem dL_measure_121 : decode cL_measure 121 = .ok (.if_icmp .ge 97, 3) := by decide +kernel
theorem dL_measure_124 : decode cL_measure 124 = .ok (.aload 6, 2) := by decide +kernel
theorem dL_measure_126 : decode cL_measure 126 = .ok (.iconst 4, 1) := by decide +kernel
theorem dL_measure_127 : decode cL_measure 127 = .ok (.iload 10, 2) := by decide +kernel
theorem dL_measure_129 : decode cL_measure 129 = .ok (.imul, 1) := by decide +kernel
theorem dL_measure_130 : decode cL_measure 130 = .ok (.iaload, 1) := by decide +kernel
theorem dL_measure_131 : decode cL_measure 131 = .ok (.iload_n 0, 1) := by decide +kernel
theorem dL_measure_132 : decode cL_measure 132 = .ok (.if_icmp .ne 80, 3) := by decide +kernel
theorem dL_measure_135 : decode cL_measure 135 = .ok (.aload 6, 2) := by decide +kernel
theorem dL_measure_137 : decode cL_measure 137 = .ok (.iconst 4, 1) := by decide +kernel
theorem dL_measure_138 : decode cL_measure 138 = .ok (.iload 10, 2) := by decide +kernel
theorem dL_measure_140 : decode cL_measure 140 = .ok (.imul, 1) := by decide +kernel
theorem dL_measure_141 : decode cL_measure 141 = .ok (.iconst 3, 1) := by decide +kernel
theorem dL_measure_142 : decode cL_measure 142 = .ok (.iadd, 1) := by decide +kernel
theorem dL_measure_143 : decode cL_measure 143 = .ok (.iaload, 1) := by decide +kernel
theorem dL_measure_144 : decode cL_measure 144 = .ok (.iload_n 2, 1) := by decide +kernel
theorem dL_measure_145 : decode cL_measure 145 = .ok (.if_icmp .gt 6, 3) := by decide +kernel
theorem dL_measure_148 : decode cL_measure 148 = .ok (.goto 64, 3) := by decide +kernel
theorem dL_measure_151 : decode cL_measure 151 = .ok (.aload 6, 2) := by decide +kernel
theorem dL_measure_153 : decode cL_measure 153 = .ok (.iconst 4, 1) := by decide +kernel
theorem dL_measure_154 : decode cL_measure 154 = .ok (.iload 10, 2) := by decide +kernel
theorem dL_measure_156 : decode cL_measure 156 = .ok (.imul, 1) := by decide +kernel
theorem dL_measure_157 : decode cL_measure 157 = .ok (.iconst 2, 1) := by decide +kernel
theorem dL_measure_158 : decode cL_measure 158 = .ok (.iadd, 1) := by decide +kernel
theorem dL_measure_159 : decode cL_measure 159 = .ok (.iaload, 1) := by decide +kernel
theorem dL_measure_160 : decode cL_measure 160 = .ok (.iload_n 2, 1) := by decide +kernel
theorem dL_measure_161 : decode cL_measure 161 = .ok (.aload 7, 2) := by decide +kernel
theorem dL_measure_163 : decode cL_measure 163 = .ok (.iload 10, 2) := by decide +kernel
theorem dL_measure_165 : decode cL_measure 165 = .ok (.iaload, 1) := by decide +kernel
theorem dL_measure_166 : decode cL_measure 166 = .ok (.invokestatic 40, 3) := by decide +kernel
theorem dL_measure_169 : decode cL_measure 169 = .ok (.istore 11, 2) := by decide +kernel
theorem dL_measure_171 : decode cL_measure 171 = .ok (.aload 4, 2) := by decide +kernel
theorem dL_measure_173 : decode cL_measure 173 = .ok (.bipush 27, 2) := by decide +kernel
theorem dL_measure_175 : decode cL_measure 175 = .ok (.iload_n 0, 1) := by decide +kernel
theorem dL_measure_176 : decode cL_measure 176 = .ok (.iadd, 1) := by decide +kernel
theorem dL_measure_177 : decode cL_measure 177 = .ok (.dup2, 1) := by decide +kernel
theorem dL_measure_178 : decode cL_measure 178 = .ok (.iaload, 1) := by decide +kernel
theorem dL_measure_179 : decode cL_measure 179 = .ok (.aload 7, 2) := by decide +kernel
theorem dL_measure_181 : decode cL_measure 181 = .ok (.bipush 12, 2) := by decide +kernel
theorem dL_measure_183 : decode cL_measure 183 = .ok (.iload 10, 2) := by decide +kernel
theorem dL_measure_185 : decode cL_measure 185 = .ok (.iadd, 1) := by decide +kernel
theorem dL_measure_186 : decode cL_measure 186 = .ok (.iaload, 1) := by decide +kernel
theorem dL_measure_187 : decode cL_measure 187 = .ok (.iload 11, 2) := by decide +kernel
theorem dL_measure_189 : decode cL_measure 189 = .ok (.isub, 1) := by decide +kernel
theorem dL_measure_190 : decode cL_measure 190 = .ok (.isub, 1) := by decide +kernel
theorem dL_measure_191 : decode cL_measure 191 = .ok (.iastore, 1) := by decide +kernel
theorem dL_measure_192 : decode cL_measure 192 = .ok (.aload 6, 2) := by decide +kernel
theorem dL_measure_194 : decode cL_measure 194 = .ok (.iconst 4, 1) := by decide +kernel
theorem dL_measure_195 : decode cL_measure 195 = .ok (.iload 10, 2) := by decide +kernel
theorem dL_measure_197 : decode cL_measure 197 = .ok (.imul, 1) := by decide +kernel
theorem dL_measure_198 : decode cL_measure 198 = .ok (.iconst 3, 1) := by decide +kernel
theorem dL_measure_199 : decode cL_measure 199 = .ok (.iadd, 1) := by decide +kernel
theorem dL_measure_200 : decode cL_measure 200 = .ok (.iload_n 2, 1) := by decide +kernel
theorem dL_measure_201 : decode cL_measure 201 = .ok (.iastore, 1) := by decide +kernel
theorem dL_measure_202 : decode cL_measure 202 = .ok (.aload 7, 2) := by decide +kernel
theorem dL_measure_204 : decode cL_measure 204 = .ok (.bipush 12, 2) := by decide +kernel
theorem dL_measure_206 : decode cL_measure 206 = .ok (.iload 10, 2) := by decide +kernel
theorem dL_measure_208 : decode cL_measure 208 = .ok (.iadd, 1) := by decide +kernel
theorem dL_measure_209 : decode cL_measure 209 = .ok (.iload 11, 2) := by decide +kernel
theorem dL_measure_211 : decode cL_measure 211 = .ok (.iastore, 1) := by decide +kernel
theorem dL_measure_212 : decode cL_measure 212 = .ok (.iinc 10 1, 3) := by decide +kernel
theorem dL_measure_215 : decode cL_measure 215 = .ok (.goto (-100), 3) := by decide +kernel
theorem dL_measure_218 : decode cL_measure 218 = .ok (.iload 8, 2) := by decide +kernel
theorem dL_measure_220 : decode cL_measure 220 = .ok (.ireturn, 1) := by decide +kernel
theorem dL_changes_0 : decode cL_changes 0 = .ok (.aload 4, 2) := by decide +kernel
theorem dL_changes_2 : decode cL_changes 2 = .ok (.iconst 0, 1) := by decide +kernel
theorem dL_changes_3 : decode cL_changes 3 = .ok (.iaload, 1) := by decide +kernel
theorem dL_changes_4 : decode cL_changes 4 = .ok (.ifCond .ne 5, 3) := by decide +kernel
theorem dL_changes_7 : decode cL_changes 7 = .ok (.iconst 1, 1) := by decide +kernel
theorem dL_changes_8 : decode cL_changes 8 = .ok (.ireturn, 1) := by decide +kernel
theorem dL_changes_9 : decode cL_changes 9 = .ok (.iload_n 2, 1) := by decide +kernel
theorem dL_changes_10 : decode cL_changes 10 = .ok (.iconst 2, 1) := by decide +kernel
theorem dL_changes_11 : decode cL_changes 11 = .ok (.ishr, 1) := by decide +kernel
theorem dL_changes_12 : decode cL_changes 12 = .ok (.aload 4, 2) := by decide +kernel
theorem dL_changes_14 : decode cL_changes 14 = .ok (.iconst 0, 1) := by decide +kernel
theorem dL_changes_15 : decode cL_changes 15 = .ok (.iaload, 1) := by decide +kernel
theorem dL_changes_16 : decode cL_changes 16 = .ok (.invokestatic 44, 3) := by decide +kernel
theorem dL_changes_19 : decode cL_changes 19 = .ok (.istore 8, 2) := by decide +kernel
theorem dL_changes_21 : decode cL_changes 21 = .ok (.aload 5, 2) := by decide +kernel
theorem dL_changes_23 : decode cL_changes 23 = .ok (.iconst 3, 1) := by decide +kernel
theorem dL_changes_24 : decode cL_changes 24 = .ok (.iload 8, 2) := by decide +kernel
theorem dL_changes_26 : decode cL_changes 26 = .ok (.imul, 1) := by decide +kernel
theorem dL_changes_27 : decode cL_changes 27 = .ok (.iconst 1, 1) := by decide +kernel
theorem dL_changes_28 : decode cL_changes 28 = .ok (.iadd, 1) := by decide +kernel
theorem dL_changes_29 : decode cL_changes 29 = .ok (.iaload, 1) := by decide +kernel
theorem dL_changes_30 : decode cL_changes 30 = .ok (.ifCond .le 7, 3) := by decide +kernel
theorem dL_changes_33 : decode cL_changes 33 = .ok (.iconst 1, 1) := by decide +kernel
theorem dL_changes_34 : decode cL_changes 34 = .ok (.goto 4, 3) := by decide +kernel
theorem dL_changes_37 : decode cL_changes 37 = .ok (.iconst 0, 1) := by decide +kernel
theorem dL_changes_38 : decode cL_changes 38 = .ok (.istore 9, 2) := by decide +kernel
theorem dL_changes_40 : decode cL_changes 40 = .ok (.iload_n 1, 1) := by decide +kernel
theorem dL_changes_41 : decode cL_changes 41 = .ok (.ifCond .ne 85, 3) := by decide +kernel
theorem dL_changes_44 : decode cL_changes 44 = .ok (.iconst 1, 1) := by decide +kernel
theorem dL_changes_45 : decode cL_changes 45 = .ok (.iload_n 3, 1) := by decide +kernel
theorem dL_changes_46 : decode cL_changes 46 = .ok (.iload_n 2, 1) := by decide +kernel
theorem dL_changes_47 : decode cL_changes 47 = .ok (.iconst 2, 1) := by decide +kernel
theorem dL_changes_48 : decode cL_changes 48 = .ok (.invokestatic 44, 3) := by decide +kernel
theorem dL_changes_51 : decode cL_changes 51 = .ok (.ifCond .ne 8, 3) := by decide +kernel
theorem dL_changes_54 : decode cL_changes 54 = .ok (.bipush 60, 2) := by decide +kernel
theorem dL_changes_56 : decode cL_changes 56 = .ok (.goto 5, 3) := by decide +kernel
theorem dL_changes_59 : decode cL_changes 59 = .ok (.bipush 8, 2) := by decide +kernel
theorem dL_changes_61 : decode cL_changes 61 = .ok (.invokestatic 44, 3) := by decide +kernel
theorem dL_changes_64 : decode cL_changes 64 = .ok (.iadd, 1) := by decide +kernel
theorem dL_changes_65 : decode cL_changes 65 = .ok (.istore 10, 2) := by decide +kernel
theorem dL_changes_67 : decode cL_changes 67 = .ok (.iload_n 3, 1) := by decide +kernel
theorem dL_changes_68 : decode cL_changes 68 = .ok (.iconst 5, 1) := by decide +kernel
theorem dL_changes_69 : decode cL_changes 69 = .ok (.ishr, 1) := by decide +kernel
theorem dL_changes_70 : decode cL_changes 70 = .ok (.sipush 2001, 3) := by decide +kernel
theorem dL_changes_73 : decode cL_changes 73 = .ok (.invokestatic 44, 3) := by decide +kernel
theorem dL_changes_76 : decode cL_changes 76 = .ok (.istore 11, 2) := by decide +kernel
theorem dL_changes_78 : decode cL_changes 78 = .ok (.iload 9, 2) := by decide +kernel
theorem dL_changes_80 : decode cL_changes 80 = .ok (.ifCond .eq 40, 3) := by decide +kernel
theorem dL_changes_83 : decode cL_changes 83 = .ok (.aload_n 0, 1) := by decide +kernel
theorem dL_changes_84 : decode cL_changes 84 = .ok (.iload 8, 2) := by decide +kernel
theorem dL_changes_86 : decode cL_changes 86 = .ok (.iload 10, 2) := by decide +kernel
theorem dL_changes_88 : decode cL_changes 88 = .ok (.iload 11, 2) := by decide +kernel
theorem dL_changes_90 : decode cL_changes 90 = .ok (.invokevirtual 47, 3) := by decide +kernel
theorem dL_changes_93 : decode cL_changes 93 = .ok (.iload 8, 2) := by decide +kernel
theorem dL_changes_95 : decode cL_changes 95 = .ok (.aload 5, 2) := by decide +kernel
theorem dL_changes_97 : decode cL_changes 97 = .ok (.iconst 3, 1) := by decide +kernel
theorem dL_changes_98 : decode cL_changes 98 = .ok (.iload 8, 2) := by decide +kernel
theorem dL_changes_100 : decode cL_changes 100 = .ok (.imul, 1) := by decide +kernel
theorem dL_changes_101 : decode cL_changes 101 = .ok (.iaload, 1) := by decide +kernel
theorem dL_changes_102 : decode cL_changes 102 = .ok (.iload 10, 2) := by decide +kernel
theorem dL_changes_104 : decode cL_changes 104 = .ok (.iload 11, 2) := by decide +kernel
theorem dL_changes_106 : decode cL_changes 106 = .ok (.aload 4, 2) := by decide +kernel
theorem dL_changes_108 : decode cL_changes 108 = .ok (.aload 5, 2) := by decide +kernel
theorem dL_changes_110 : decode cL_changes 110 = .ok (.aload 6, 2) := by decide +kernel
theorem dL_changes_112 : decode cL_changes 112 = .ok (.aload 7, 2) := by decide +kernel
theorem dL_changes_114 : decode cL_changes 114 = .ok (.invokestatic 50, 3) := by decide +kernel
theorem dL_changes_117 : decode cL_changes 117 = .ok (.if_icmp .ne 7, 3) := by decide +kernel
theorem dL_changes_120 : decode cL_changes 120 = .ok (.iconst 1, 1) := by decide +kernel
theorem dL_changes_121 : decode cL_changes 121 = .ok (.goto 4, 3) := by decide +kernel
theorem dL_changes_124 : decode cL_changes 124 = .ok (.iconst 0, 1) := by decide +kernel
theorem dL_changes_125 : decode cL_changes 125 = .ok (.ireturn, 1) := by decide +kernel
theorem dL_changes_126 : decode cL_changes 126 = .ok (.iload_n 1, 1) := by decide +kernel
theorem dL_changes_127 : decode cL_changes 127 = .ok (.iconst 1, 1) := by decide +kernel
theorem dL_changes_128 : decode cL_changes 128 = .ok (.if_icmp .ne 80, 3) := by decide +kernel
theorem dL_changes_131 : decode cL_changes 131 = .ok (.iload_n 3, 1) := by decide +kernel
theorem dL_changes_132 : decode cL_changes 132 = .ok (.iload_n 2, 1) := by decide +kernel
theorem dL_changes_133 : decode cL_changes 133 = .ok (.iconst 3, 1) := by decide +kernel
theorem dL_changes_134 : decode cL_changes 134 = .ok (.invokestatic 44, 3) := by decide +kernel
theorem dL_changes_137 : decode cL_changes 137 = .ok (.ifCond .ne 8, 3) := by decide +kernel
theorem dL_changes_140 : decode cL_changes 140 = .ok (.ldc 54, 2) := by decide +kernel
theorem dL_changes_142 : decode cL_changes 142 = .ok (.goto 6, 3) := by decide +kernel
theorem dL_changes_145 : decode cL_changes 145 = .ok (.sipush 3000, 3) := by decide +kernel
theorem dL_changes_148 : decode cL_changes 148 = .ok (.invokestatic 44, 3) := by decide +kernel
theorem dL_changes_151 : decode cL_changes 151 = .ok (.istore 10, 2) := by decide +kernel
theorem dL_changes_153 : decode cL_changes 153 = .ok (.iload 9, 2) := by decide +kernel
theorem dL_changes_155 : decode cL_changes 155 = .ok (.ifCond .eq 47, 3) := by decide +kernel
theorem dL_changes_158 : decode cL_changes 158 = .ok (.aload_n 0, 1) := by decide +kernel
theorem dL_changes_159 : decode cL_changes 159 = .ok (.iload 8, 2) := by decide +kernel
theorem dL_changes_161 : decode cL_changes 161 = .ok (.iload 10, 2) := by decide +kernel
theorem dL_changes_163 : decode cL_changes 163 = .ok (.invokevirtual 55, 3) := by decide +kernel
theorem dL_changes_166 : decode cL_changes 166 = .ok (.iload 8, 2) := by decide +kernel
theorem dL_changes_168 : decode cL_changes 168 = .ok (.iload 10, 2) := by decide +kernel
theorem dL_changes_170 : decode cL_changes 170 = .ok (.aload 5, 2) := by decide +kernel
theorem dL_changes_172 : decode cL_changes 172 = .ok (.iconst 3, 1) := by decide +kernel
theorem dL_changes_173 : decode cL_changes 173 = .ok (.iload 8, 2) := by decide +kernel
theorem dL_changes_175 : decode cL_changes 175 = .ok (.imul, 1) := by decide +kernel
theorem dL_changes_176 : decode cL_changes 176 = .ok (.iconst 1, 1) := by decide +kernel
theorem dL_changes_177 : decode cL_changes 177 = .ok (.iadd, 1) := by decide +kernel
theorem dL_changes_178 : decode cL_changes 178 = .ok (.iaload, 1) := by decide +kernel
theorem dL_changes_179 : decode cL_changes 179 = .ok (.aload 5, 2) := by decide +kernel
theorem dL_changes_181 : decode cL_changes 181 = .ok (.iconst 3, 1) := by decide +kernel
theorem dL_changes_182 : decode cL_changes 182 = .ok (.iload 8, 2) := by decide +kernel
theorem dL_changes_184 : decode cL_changes 184 = .ok (.imul, 1) := by decide +kernel
theorem dL_changes_185 : decode cL_changes 185 = .ok (.iconst 2, 1) := by decide +kernel
theorem dL_changes_186 : decode cL_changes 186 = .ok (.iadd, 1) := by decide +kernel
theorem dL_changes_187 : decode cL_changes 187 = .ok (.iaload, 1) := by decide +kernel
theorem dL_changes_188 : decode cL_changes 188 = .ok (.aload 4, 2) := by decide +kernel
theorem dL_changes_190 : decode cL_changes 190 = .ok (.aload 5, 2) := by decide +kernel
theorem dL_changes_192 : decode cL_changes 192 = .ok (.aload 6, 2) := by decide +kernel
theorem dL_changes_194 : decode cL_changes 194 = .ok (.aload 7, 2) := by decide +kernel
theorem dL_changes_196 : decode cL_changes 196 = .ok (.invokestatic 50, 3) := by decide +kernel
theorem dL_changes_199 : decode cL_changes 199 = .ok (.if_icmp .ne 7, 3) := by decide +kernel
theorem dL_changes_202 : decode cL_changes 202 = .ok (.iconst 1, 1) := by decide +kernel
theorem dL_changes_203 : decode cL_changes 203 = .ok (.goto 4, 3) := by decide +kernel
theorem dL_changes_206 : decode cL_changes 206 = .ok (.iconst 0, 1) := by decide +kernel
theorem dL_changes_207 : decode cL_changes 207 = .ok (.ireturn, 1) := by decide +kernel
theorem dL_changes_208 : decode cL_changes 208 = .ok (.iload_n 1, 1) := by decide +kernel
theorem dL_changes_209 : decode cL_changes 209 = .ok (.iconst 2, 1) := by decide +kernel
theorem dL_changes_210 : decode cL_changes 210 = .ok (.if_icmp .ne 203, 3) := by decide +kernel
theorem dL_changes_213 : decode cL_changes 213 = .ok (.iload 9, 2) := by decide +kernel
theorem dL_changes_215 : decode cL_changes 215 = .ok (.ifCond .eq 19, 3) := by decide +kernel
theorem dL_changes_218 : decode cL_changes 218 = .ok (.iload 8, 2) := by decide +kernel
theorem dL_changes_220 : decode cL_changes 220 = .ok (.bipush 8, 2) := by decide +kernel
theorem dL_changes_222 : decode cL_changes 222 = .ok (.aload 4, 2) := by decide +kernel
theorem dL_changes_224 : decode cL_changes 224 = .ok (.aload 6, 2) := by decide +kernel
theorem dL_changes_226 : decode cL_changes 226 = .ok (.aload 7, 2) := by decide +kernel
theorem dL_changes_228 : decode cL_changes 228 = .ok (.invokestatic 20, 3) := by decide +kernel
theorem dL_changes_231 : decode cL_changes 231 = .ok (.ifCond .le 5, 3) := by decide +kernel
theorem dL_changes_234 : decode cL_changes 234 = .ok (.iconst 1, 1) := by decide +kernel
theorem dL_changes_235 : decode cL_changes 235 = .ok (.ireturn, 1) := by decide +kernel
theorem dL_changes_236 : decode cL_changes 236 = .ok (.iconst 1, 1) := by decide +kernel
theorem dL_changes_237 : decode cL_changes 237 = .ok (.iload_n 3, 1) := by decide +kernel
theorem dL_changes_238 : decode cL_changes 238 = .ok (.sipush 1000, 3) := by decide +kernel
theorem dL_changes_241 : decode cL_changes 241 = .ok (.invokestatic 44, 3) := by decide +kernel
theorem dL_changes_244 : decode cL_changes 244 = .ok (.iadd, 1) := by decide +kernel
theorem dL_changes_245 : decode cL_changes 245 = .ok (.istore 10, 2) := by decide +kernel
theorem dL_changes_247 : decode cL_changes 247 = .ok (.iload_n 3, 1) := by decide +kernel
theorem dL_changes_248 : decode cL_changes 248 = .ok (.bipush 6, 2) := by decide +kernel
theorem dL_changes_250 : decode cL_changes 250 = .ok (.ishr, 1) := by decide +kernel
theorem dL_changes_251 : decode cL_changes 251 = .ok (.sipush 500, 3) := by decide +kernel
theorem dL_changes_254 : decode cL_changes 254 = .ok (.invokestatic 44, 3) := by decide +kernel
theorem dL_changes_257 : decode cL_changes 257 = .ok (.istore 11, 2) := by decide +kernel
theorem dL_changes_259 : decode cL_changes 259 = .ok (.aload 4, 2) := by decide +kernel
theorem dL_changes_261 : decode cL_changes 261 = .ok (.bipush 11, 2) := by decide +kernel
theorem dL_changes_263 : decode cL_changes 263 = .ok (.iload 8, 2) := by decide +kernel
theorem dL_changes_265 : decode cL_changes 265 = .ok (.iadd, 1) := by decide +kernel
theorem dL_changes_266 : decode cL_changes 266 = .ok (.iaload, 1) := by decide +kernel
theorem dL_changes_267 : decode cL_changes 267 = .ok (.iload 10, 2) := by decide +kernel
theorem dL_changes_269 : decode cL_changes 269 = .ok (.invokestatic 58, 3) := by decide +kernel
theorem dL_changes_272 : decode cL_changes 272 = .ok (.istore 12, 2) := by decide +kernel
theorem dL_changes_274 : decode cL_changes 274 = .ok (.aload 5, 2) := by decide +kernel
theorem dL_changes_276 : decode cL_changes 276 = .ok (.iconst 3, 1) := by decide +kernel
theorem dL_changes_277 : decode cL_changes 277 = .ok (.iload 8, 2) := by decide +kernel
theorem dL_changes_279 : decode cL_changes 279 = .ok (.imul, 1) := by decide +kernel
theorem dL_changes_280 : decode cL_changes 280 = .ok (.dup2, 1) := by decide +kernel
theorem dL_changes_281 : decode cL_changes 281 = .ok (.iaload, 1) := by decide +kernel
theorem dL_changes_282 : decode cL_changes 282 = .ok (.aload 5, 2) := by decide +kernel
theorem dL_changes_284 : decode cL_changes 284 = .ok (.iconst 3, 1) := by decide +kernel
theorem dL_changes_285 : decode cL_changes 285 = .ok (.iload 8, 2) := by decide +kernel
theorem dL_changes_287 : decode cL_changes 287 = .ok (.imul, 1) := by decide +kernel
theorem dL_changes_288 : decode cL_changes 288 = .ok (.iaload, 1) := by decide +kernel
theorem dL_changes_289 : decode cL_changes 289 = .ok (.iload 10, 2) := by decide +kernel
theorem dL_changes_291 : decode cL_changes 291 = .ok (.invokestatic 58, 3) := by decide +kernel
theorem dL_changes_294 : decode cL_changes 294 = .ok (.isub, 1) := by decide +kernel
theorem dL_changes_295 : decode cL_changes 295 = .ok (.iastore, 1) := by decide +kernel
theorem dL_changes_296 : decode cL_changes 296 = .ok (.aload 5, 2) := by decide +kernel
theorem dL_changes_298 : decode cL_changes 298 = .ok (.iconst 3, 1) := by decide +kernel
theorem dL_changes_299 : decode cL_changes 299 = .ok (.iload 8, 2) := by decide +kernel
theorem dL_changes_301 : decode cL_changes 301 = .ok (.imul, 1) := by decide +kernel
theorem dL_changes_302 : decode cL_changes 302 = .ok (.iaload, 1) := by decide +kernel
theorem dL_changes_303 : decode cL_changes 303 = .ok (.aload 5, 2) := by decide +kernel
theorem dL_changes_305 : decode cL_changes 305 = .ok (.iconst 3, 1) := by decide +kernel
theorem dL_changes_306 : decode cL_changes 306 = .ok (.iload 8, 2) := by decide +kernel
theorem dL_changes_308 : decode cL_changes 308 = .ok (.imul, 1) := by decide +kernel
theorem dL_changes_309 : decode cL_changes 309 = .ok (.iconst 1, 1) := by decide +kernel
theorem dL_changes_310 : decode cL_changes 310 = .ok (.iadd, 1) := by decide +kernel
theorem dL_changes_311 : decode cL_changes 311 = .ok (.iaload, 1) := by decide +kernel
theorem dL_changes_312 : decode cL_changes 312 = .ok (.aload 5, 2) := by decide +kernel
theorem dL_changes_314 : decode cL_changes 314 = .ok (.iconst 3, 1) := by decide +kernel
theorem dL_changes_315 : decode cL_changes 315 = .ok (.iload 8, 2) := by decide +kernel
theorem dL_changes_317 : decode cL_changes 317 = .ok (.imul, 1) := by decide +kernel
theorem dL_changes_318 : decode cL_changes 318 = .ok (.iconst 2, 1) := by decide +kernel
theorem dL_changes_319 : decode cL_changes 319 = .ok (.iadd, 1) := by decide +kernel
theorem dL_changes_320 : decode cL_changes 320 = .ok (.iaload, 1) := by decide +kernel
theorem dL_changes_321 : decode cL_changes 321 = .ok (.invokestatic 40, 3) := by decide +kernel
theorem dL_changes_324 : decode cL_changes 324 = .ok (.istore 13, 2) := by decide +kernel
theorem dL_changes_326 : decode cL_changes 326 = .ok (.aload 4, 2) := by decide +kernel
theorem dL_changes_328 : decode cL_changes 328 = .ok (.iconst 3, 1) := by decide +kernel
theorem dL_changes_329 : decode cL_changes 329 = .ok (.iload 8, 2) := by decide +kernel
theorem dL_changes_331 : decode cL_changes 331 = .ok (.iadd, 1) := by decide +kernel
theorem dL_changes_332 : decode cL_changes 332 = .ok (.iaload, 1) := by decide +kernel
theorem dL_changes_333 : decode cL_changes 333 = .ok (.iload 13, 2) := by decide +kernel
theorem dL_changes_335 : decode cL_changes 335 = .ok (.isub, 1) := by decide +kernel
theorem dL_changes_336 : decode cL_changes 336 = .ok (.iload 12, 2) := by decide +kernel
theorem dL_changes_338 : decode cL_changes 338 = .ok (.isub, 1) := by decide +kernel
theorem dL_changes_339 : decode cL_changes 339 = .ok (.iload 11, 2) := by decide +kernel
theorem dL_changes_341 : decode cL_changes 341 = .ok (.isub, 1) := by decide +kernel
theorem dL_changes_342 : decode cL_changes 342 = .ok (.istore 14, 2) := by decide +kernel
theorem dL_changes_344 : decode cL_changes 344 = .ok (.aload 4, 2) := by decide +kernel
theorem dL_changes_346 : decode cL_changes 346 = .ok (.iconst 3, 1) := by decide +kernel
theorem dL_changes_347 : decode cL_changes 347 = .ok (.iload 8, 2) := by decide +kernel
theorem dL_changes_349 : decode cL_changes 349 = .ok (.iadd, 1) := by decide +kernel
theorem dL_changes_350 : decode cL_changes 350 = .ok (.iload 13, 2) := by decide +kernel
theorem dL_changes_352 : decode cL_changes 352 = .ok (.iastore, 1) := by decide +kernel
theorem dL_changes_353 : decode cL_changes 353 = .ok (.aload 4, 2) := by decide +kernel
theorem dL_changes_355 : decode cL_changes 355 = .ok (.bipush 11, 2) := by decide +kernel
theorem dL_changes_357 : decode cL_changes 357 = .ok (.iload 8, 2) := by decide +kernel
theorem dL_changes_359 : decode cL_changes 359 = .ok (.iadd, 1) := by decide +kernel
theorem dL_changes_360 : decode cL_changes 360 = .ok (.dup2, 1) := by decide +kernel
theorem dL_changes_361 : decode cL_changes 361 = .ok (.iaload, 1) := by decide +kernel
theorem dL_changes_362 : decode cL_changes 362 = .ok (.iload 12, 2) := by decide +kernel
theorem dL_changes_364 : decode cL_changes 364 = .ok (.isub, 1) := by decide +kernel
theorem dL_changes_365 : decode cL_changes 365 = .ok (.iastore, 1) := by decide +kernel
theorem dL_changes_366 : decode cL_changes 366 = .ok (.aload 4, 2) := by decide +kernel
theorem dL_changes_368 : decode cL_changes 368 = .ok (.bipush 19, 2) := by decide +kernel
theorem dL_changes_370 : decode cL_changes 370 = .ok (.iload 8, 2) := by decide +kernel
theorem dL_changes_372 : decode cL_changes 372 = .ok (.iadd, 1) := by decide +kernel
theorem dL_changes_373 : decode cL_changes 373 = .ok (.dup2, 1) := by decide +kernel
theorem dL_changes_374 : decode cL_changes 374 = .ok (.iaload, 1) := by decide +kernel
theorem dL_changes_375 : decode cL_changes 375 = .ok (.iload 11, 2) := by decide +kernel
theorem dL_changes_377 : decode cL_changes 377 = .ok (.isub, 1) := by decide +kernel
theorem dL_changes_378 : decode cL_changes 378 = .ok (.iastore, 1) := by decide +kernel
theorem dL_changes_379 : decode cL_changes 379 = .ok (.aload 4, 2) := by decide +kernel
theorem dL_changes_381 : decode cL_changes 381 = .ok (.bipush 27, 2) := by decide +kernel
theorem dL_changes_383 : decode cL_changes 383 = .ok (.iload 8, 2) := by decide +kernel
theorem dL_changes_385 : decode cL_changes 385 = .ok (.iadd, 1) := by decide +kernel
theorem dL_changes_386 : decode cL_changes 386 = .ok (.dup2, 1) := by decide +kernel
theorem dL_changes_387 : decode cL_changes 387 = .ok (.iaload, 1) := by decide +kernel
theorem dL_changes_388 : decode cL_changes 388 = .ok (.iload 14, 2) := by decide +kernel
theorem dL_changes_390 : decode cL_changes 390 = .ok (.iadd, 1) := by decide +kernel
theorem dL_changes_391 : decode cL_changes 391 = .ok (.iastore, 1) := by decide +kernel
theorem dL_changes_392 : decode cL_changes 392 = .ok (.aload_n 0, 1) := by decide +kernel
theorem dL_changes_393 : decode cL_changes 393 = .ok (.iload 8, 2) := by decide +kernel
theorem dL_changes_395 : decode cL_changes 395 = .ok (.iload 10, 2) := by decide +kernel
theorem dL_changes_397 : decode cL_changes 397 = .ok (.iload 11, 2) := by decide +kernel
theorem dL_changes_399 : decode cL_changes 399 = .ok (.invokevirtual 61, 3) := by decide +kernel
theorem dL_changes_402 : decode cL_changes 402 = .ok (.iload 14, 2) := by decide +kernel
theorem dL_changes_404 : decode cL_changes 404 = .ok (.if_icmp .ne 7, 3) := by decide +kernel
theorem dL_changes_407 : decode cL_changes 407 = .ok (.iconst 1, 1) := by decide +kernel
theorem dL_changes_408 : decode cL_changes 408 = .ok (.goto 4, 3) := by decide +kernel
theorem dL_changes_411 : decode cL_changes 411 = .ok (.iconst 0, 1) := by decide +kernel
theorem dL_changes_412 : decode cL_changes 412 = .ok (.ireturn, 1) := by decide +kernel
theorem dL_changes_413 : decode cL_changes 413 = .ok (.iload_n 1, 1) := by decide +kernel
theorem dL_changes_414 : decode cL_changes 414 = .ok (.iconst 3, 1) := by decide +kernel
theorem dL_changes_415 : decode cL_changes 415 = .ok (.if_icmp .ne 93, 3) := by decide +kernel
theorem dL_changes_418 : decode cL_changes 418 = .ok (.iconst 1, 1) := by decide +kernel
theorem dL_changes_419 : decode cL_changes 419 = .ok (.iload_n 3, 1) := by decide +kernel
theorem dL_changes_420 : decode cL_changes 420 = .ok (.iload_n 2, 1) := by decide +kernel
theorem dL_changes_421 : decode cL_changes 421 = .ok (.iconst 2, 1) := by decide +kernel
theorem dL_changes_422 : decode cL_changes 422 = .ok (.invokestatic 44, 3) := by decide +kernel
theorem dL_changes_425 : decode cL_changes 425 = .ok (.ifCond .ne 8, 3) := by decide +kernel
theorem dL_changes_428 : decode cL_changes 428 = .ok (.ldc 64, 2) := by decide +kernel
theorem dL_changes_430 : decode cL_changes 430 = .ok (.goto 6, 3) := by decide +kernel
theorem dL_changes_433 : decode cL_changes 433 = .ok (.sipush 500, 3) := by decide +kernel
theorem dL_changes_436 : decode cL_changes 436 = .ok (.invokestatic 44, 3) := by decide +kernel
theorem dL_changes_439 : decode cL_changes 439 = .ok (.iadd, 1) := by decide +kernel
theorem dL_changes_440 : decode cL_changes 440 = .ok (.istore 10, 2) := by decide +kernel
theorem dL_changes_442 : decode cL_changes 442 = .ok (.aload 4, 2) := by decide +kernel
theorem dL_changes_444 : decode cL_changes 444 = .ok (.bipush 11, 2) := by decide +kernel
theorem dL_changes_446 : decode cL_changes 446 = .ok (.iload 8, 2) := by decide +kernel
theorem dL_changes_448 : decode cL_changes 448 = .ok (.iadd, 1) := by decide +kernel
theorem dL_changes_449 : decode cL_changes 449 = .ok (.iaload, 1) := by decide +kernel
theorem dL_changes_450 : decode cL_changes 450 = .ok (.iload 10, 2) := by decide +kernel
theorem dL_changes_452 : decode cL_changes 452 = .ok (.if_icmp .ge 5, 3) := by decide +kernel
theorem dL_changes_455 : decode cL_changes 455 = .ok (.iconst 1, 1) := by decide +kernel
theorem dL_changes_456 : decode cL_changes 456 = .ok (.ireturn, 1) := by decide +kernel
theorem dL_changes_457 : decode cL_changes 457 = .ok (.aload 4, 2) := by decide +kernel
theorem dL_changes_459 : decode cL_changes 459 = .ok (.bipush 11, 2) := by decide +kernel
theorem dL_changes_461 : decode cL_changes 461 = .ok (.iload 8, 2) := by decide +kernel
theorem dL_changes_463 : decode cL_changes 463 = .ok (.iadd, 1) := by decide +kernel
theorem dL_changes_464 : decode cL_changes 464 = .ok (.dup2, 1) := by decide +kernel
theorem dL_changes_465 : decode cL_changes 465 = .ok (.iaload, 1) := by decide +kernel
theorem dL_changes_466 : decode cL_changes 466 = .ok (.iload 10, 2) := by decide +kernel
theorem dL_changes_468 : decode cL_changes 468 = .ok (.isub, 1) := by decide +kernel
theorem dL_changes_469 : decode cL_changes 469 = .ok (.iastore, 1) := by decide +kernel
theorem dL_changes_470 : decode cL_changes 470 = .ok (.aload 4, 2) := by decide +kernel
theorem dL_changes_472 : decode cL_changes 472 = .ok (.bipush 27, 2) := by decide +kernel
theorem dL_changes_474 : decode cL_changes 474 = .ok (.iload 8, 2) := by decide +kernel
theorem dL_changes_476 : decode cL_changes 476 = .ok (.iadd, 1) := by decide +kernel
theorem dL_changes_477 : decode cL_changes 477 = .ok (.dup2, 1) := by decide +kernel
theorem dL_changes_478 : decode cL_changes 478 = .ok (.iaload, 1) := by decide +kernel
theorem dL_changes_479 : decode cL_changes 479 = .ok (.iload 10, 2) := by decide +kernel
theorem dL_changes_481 : decode cL_changes 481 = .ok (.isub, 1) := by decide +kernel
theorem dL_changes_482 : decode cL_changes 482 = .ok (.iastore, 1) := by decide +kernel
theorem dL_changes_483 : decode cL_changes 483 = .ok (.aload_n 0, 1) := by decide +kernel
theorem dL_changes_484 : decode cL_changes 484 = .ok (.iload 8, 2) := by decide +kernel
theorem dL_changes_486 : decode cL_changes 486 = .ok (.iload 10, 2) := by decide +kernel
theorem dL_changes_488 : decode cL_changes 488 = .ok (.invokevirtual 65, 3) := by decide +kernel
theorem dL_changes_491 : decode cL_changes 491 = .ok (.aload 4, 2) := by decide +kernel
theorem dL_changes_493 : decode cL_changes 493 = .ok (.bipush 11, 2) := by decide +kernel
theorem dL_changes_495 : decode cL_changes 495 = .ok (.iload 8, 2) := by decide +kernel
theorem dL_changes_497 : decode cL_changes 497 = .ok (.iadd, 1) := by decide +kernel
theorem dL_changes_498 : decode cL_changes 498 = .ok (.iaload, 1) := by decide +kernel
theorem dL_changes_499 : decode cL_changes 499 = .ok (.if_icmp .ne 7, 3) := by decide +kernel
theorem dL_changes_502 : decode cL_changes 502 = .ok (.iconst 1, 1) := by decide +kernel
theorem dL_changes_503 : decode cL_changes 503 = .ok (.goto 4, 3) := by decide +kernel
theorem dL_changes_506 : decode cL_changes 506 = .ok (.iconst 0, 1) := by decide +kernel
theorem dL_changes_507 : decode cL_changes 507 = .ok (.ireturn, 1) := by decide +kernel
theorem dL_changes_508 : decode cL_changes 508 = .ok (.iconst 1, 1) := by decide +kernel
theorem dL_changes_509 : decode cL_changes 509 = .ok (.iload_n 3, 1) := by decide +kernel
theorem dL_changes_510 : decode cL_changes 510 = .ok (.iload_n 2, 1) := by decide +kernel
theorem dL_changes_511 : decode cL_changes 511 = .ok (.iconst 2, 1) := by decide +kernel
theorem dL_changes_512 : decode cL_changes 512 = .ok (.invokestatic 44, 3) := by decide +kernel
theorem dL_changes_515 : decode cL_changes 515 = .ok (.ifCond .ne 9, 3) := by decide +kernel
theorem dL_changes_518 : decode cL_changes 518 = .ok (.sipush 1000, 3) := by decide +kernel
theorem dL_changes_521 : decode cL_changes 521 = .ok (.goto 6, 3) := by decide +kernel
theorem dL_changes_524 : decode cL_changes 524 = .ok (.sipush 300, 3) := by decide +kernel
theorem dL_changes_527 : decode cL_changes 527 = .ok (.invokestatic 44, 3) := by decide +kernel
theorem dL_changes_530 : decode cL_changes 530 = .ok (.iadd, 1) := by decide +kernel
theorem dL_changes_531 : decode cL_changes 531 = .ok (.istore 10, 2) := by decide +kernel
theorem dL_changes_533 : decode cL_changes 533 = .ok (.iconst 1, 1) := by decide +kernel
theorem dL_changes_534 : decode cL_changes 534 = .ok (.iload_n 3, 1) := by decide +kernel
theorem dL_changes_535 : decode cL_changes 535 = .ok (.bipush 7, 2) := by decide +kernel
theorem dL_changes_537 : decode cL_changes 537 = .ok (.ishr, 1) := by decide +kernel
theorem dL_changes_538 : decode cL_changes 538 = .ok (.bipush 10, 2) := by decide +kernel
theorem dL_changes_540 : decode cL_changes 540 = .ok (.invokestatic 44, 3) := by decide +kernel
theorem dL_changes_543 : decode cL_changes 543 = .ok (.iadd, 1) := by decide +kernel
theorem dL_changes_544 : decode cL_changes 544 = .ok (.istore 11, 2) := by decide +kernel
theorem dL_changes_546 : decode cL_changes 546 = .ok (.iload_n 3, 1) := by decide +kernel
theorem dL_changes_547 : decode cL_changes 547 = .ok (.iconst 3, 1) := by decide +kernel
theorem dL_changes_548 : decode cL_changes 548 = .ok (.ishr, 1) := by decide +kernel
theorem dL_changes_549 : decode cL_changes 549 = .ok (.sipush 3000, 3) := by decide +kernel
theorem dL_changes_552 : decode cL_changes 552 = .ok (.invokestatic 44, 3) := by decide +kernel
theorem dL_changes_555 : decode cL_changes 555 = .ok (.istore 12, 2) := by decide +kernel
theorem dL_changes_557 : decode cL_changes 557 = .ok (.iload 9, 2) := by decide +kernel
theorem dL_changes_559 : decode cL_changes 559 = .ok (.ifCond .eq 48, 3) := by decide +kernel
theorem dL_changes_562 : decode cL_changes 562 = .ok (.aload 5, 2) := by decide +kernel
theorem dL_changes_564 : decode cL_changes 564 = .ok (.iconst 3, 1) := by decide +kernel
theorem dL_changes_565 : decode cL_changes 565 = .ok (.iload 8, 2) := by decide +kernel
theorem dL_changes_567 : decode cL_changes 567 = .ok (.imul, 1) := by decide +kernel
theorem dL_changes_568 : decode cL_changes 568 = .ok (.iconst 1, 1) := by decide +kernel
theorem dL_changes_569 : decode cL_changes 569 = .ok (.iadd, 1) := by decide +kernel
theorem dL_changes_570 : decode cL_changes 570 = .ok (.iaload, 1) := by decide +kernel
theorem dL_changes_571 : decode cL_changes 571 = .ok (.iload 11, 2) := by decide +kernel
theorem dL_changes_573 : decode cL_changes 573 = .ok (.if_icmp .lt 34, 3) := by decide +kernel
theorem dL_changes_576 : decode cL_changes 576 = .ok (.iload 8, 2) := by decide +kernel
theorem dL_changes_578 : decode cL_changes 578 = .ok (.bipush 7, 2) := by decide +kernel
theorem dL_changes_580 : decode cL_changes 580 = .ok (.aload 4, 2) := by decide +kernel
theorem dL_changes_582 : decode cL_changes 582 = .ok (.aload 6, 2) := by decide +kernel
theorem dL_changes_584 : decode cL_changes 584 = .ok (.aload 7, 2) := by decide +kernel
theorem dL_changes_586 : decode cL_changes 586 = .ok (.invokestatic 20, 3) := by decide +kernel
theorem dL_changes_589 : decode cL_changes 589 = .ok (.iload 10, 2) := by decide +kernel
theorem dL_changes_591 : decode cL_changes 591 = .ok (.iadd, 1) := by decide +kernel
theorem dL_changes_592 : decode cL_changes 592 = .ok (.sipush 1000, 3) := by decide +kernel
theorem dL_changes_595 : decode cL_changes 595 = .ok (.if_icmp .gt 12, 3) := by decide +kernel
theorem dL_changes_598 : decode cL_changes 598 = .ok (.aload 4, 2) := by decide +kernel
theorem dL_changes_600 : decode cL_changes 600 = .ok (.iconst 1, 1) := by decide +kernel
theorem dL_changes_601 : decode cL_changes 601 = .ok (.iaload, 1) := by decide +kernel
theorem dL_changes_602 : decode cL_changes 602 = .ok (.bipush 12, 2) := by decide +kernel
theorem dL_changes_604 : decode cL_changes 604 = .ok (.if_icmp .ne 5, 3) := by decide +kernel
theorem dL_changes_607 : decode cL_changes 607 = .ok (.iconst 1, 1) := by decide +kernel
theorem dL_changes_608 : decode cL_changes 608 = .ok (.ireturn, 1) := by decide +kernel
theorem dL_changes_609 : decode cL_changes 609 = .ok (.aload 4, 2) := by decide +kernel
theorem dL_changes_611 : decode cL_changes 611 = .ok (.iconst 1, 1) := by decide +kernel
theorem dL_changes_612 : decode cL_changes 612 = .ok (.iaload, 1) := by decide +kernel
theorem dL_changes_613 : decode cL_changes 613 = .ok (.istore 13, 2) := by decide +kernel
theorem dL_changes_615 : decode cL_changes 615 = .ok (.aload 4, 2) := by decide +kernel
theorem dL_changes_617 : decode cL_changes 617 = .ok (.bipush 11, 2) := by decide +kernel
theorem dL_changes_619 : decode cL_changes 619 = .ok (.iload 8, 2) := by decide +kernel
theorem dL_changes_621 : decode cL_changes 621 = .ok (.iadd, 1) := by decide +kernel
theorem dL_changes_622 : decode cL_changes 622 = .ok (.iaload, 1) := by decide +kernel
theorem dL_changes_623 : decode cL_changes 623 = .ok (.iload 10, 2) := by decide +kernel
theorem dL_changes_625 : decode cL_changes 625 = .ok (.invokestatic 58, 3) := by decide +kernel
theorem dL_changes_628 : decode cL_changes 628 = .ok (.istore 14, 2) := by decide +kernel
theorem dL_changes_630 : decode cL_changes 630 = .ok (.aload 6, 2) := by decide +kernel
theorem dL_changes_632 : decode cL_changes 632 = .ok (.iconst 4, 1) := by decide +kernel
theorem dL_changes_633 : decode cL_changes 633 = .ok (.iload 13, 2) := by decide +kernel
theorem dL_changes_635 : decode cL_changes 635 = .ok (.imul, 1) := by decide +kernel
theorem dL_changes_636 : decode cL_changes 636 = .ok (.iload 8, 2) := by decide +kernel
theorem dL_changes_638 : decode cL_changes 638 = .ok (.iastore, 1) := by decide +kernel
theorem dL_changes_639 : decode cL_changes 639 = .ok (.aload 6, 2) := by decide +kernel
theorem dL_changes_641 : decode cL_changes 641 = .ok (.iconst 4, 1) := by decide +kernel
theorem dL_changes_642 : decode cL_changes 642 = .ok (.iload 13, 2) := by decide +kernel
theorem dL_changes_644 : decode cL_changes 644 = .ok (.imul, 1) := by decide +kernel
theorem dL_changes_645 : decode cL_changes 645 = .ok (.iconst 1, 1) := by decide +kernel
theorem dL_changes_646 : decode cL_changes 646 = .ok (.iadd, 1) := by decide +kernel
theorem dL_changes_647 : decode cL_changes 647 = .ok (.iload 10, 2) := by decide +kernel
theorem dL_changes_649 : decode cL_changes 649 = .ok (.iastore, 1) := by decide +kernel
theorem dL_changes_650 : decode cL_changes 650 = .ok (.aload 6, 2) := by decide +kernel
theorem dL_changes_652 : decode cL_changes 652 = .ok (.iconst 4, 1) := by decide +kernel
theorem dL_changes_653 : decode cL_changes 653 = .ok (.iload 13, 2) := by decide +kernel
theorem dL_changes_655 : decode cL_changes 655 = .ok (.imul, 1) := by decide +kernel
theorem dL_changes_656 : decode cL_changes 656 = .ok (.iconst 2, 1) := by decide +kernel
theorem dL_changes_657 : decode cL_changes 657 = .ok (.iadd, 1) := by decide +kernel
theorem dL_changes_658 : decode cL_changes 658 = .ok (.iload 12, 2) := by decide +kernel
theorem dL_changes_660 : decode cL_changes 660 = .ok (.iastore, 1) := by decide +kernel
theorem dL_changes_661 : decode cL_changes 661 = .ok (.aload 6, 2) := by decide +kernel
theorem dL_changes_663 : decode cL_changes 663 = .ok (.iconst 4, 1) := by decide +kernel
theorem dL_changes_664 : decode cL_changes 664 = .ok (.iload 13, 2) := by decide +kernel
theorem dL_changes_666 : decode cL_changes 666 = .ok (.imul, 1) := by decide +kernel
theorem dL_changes_667 : decode cL_changes 667 = .ok (.iconst 3, 1) := by decide +kernel
theorem dL_changes_668 : decode cL_changes 668 = .ok (.iadd, 1) := by decide +kernel
theorem dL_changes_669 : decode cL_changes 669 = .ok (.iload 11, 2) := by decide +kernel
theorem dL_changes_671 : decode cL_changes 671 = .ok (.iastore, 1) := by decide +kernel
theorem dL_changes_672 : decode cL_changes 672 = .ok (.aload 7, 2) := by decide +kernel
theorem dL_changes_674 : decode cL_changes 674 = .ok (.iload 13, 2) := by decide +kernel
theorem dL_changes_676 : decode cL_changes 676 = .ok (.aload 5, 2) := by decide +kernel
theorem dL_changes_678 : decode cL_changes 678 = .ok (.iconst 3, 1) := by decide +kernel
theorem dL_changes_679 : decode cL_changes 679 = .ok (.iload 8, 2) := by decide +kernel
theorem dL_changes_681 : decode cL_changes 681 = .ok (.imul, 1) := by decide +kernel
theorem dL_changes_682 : decode cL_changes 682 = .ok (.iconst 2, 1) := by decide +kernel
theorem dL_changes_683 : decode cL_changes 683 = .ok (.iadd, 1) := by decide +kernel
theorem dL_changes_684 : decode cL_changes 684 = .ok (.iaload, 1) := by decide +kernel
theorem dL_changes_685 : decode cL_changes 685 = .ok (.iastore, 1) := by decide +kernel
theorem dL_changes_686 : decode cL_changes 686 = .ok (.aload 7, 2) := by decide +kernel
theorem dL_changes_688 : decode cL_changes 688 = .ok (.bipush 12, 2) := by decide +kernel
theorem dL_changes_690 : decode cL_changes 690 = .ok (.iload 13, 2) := by decide +kernel
theorem dL_changes_692 : decode cL_changes 692 = .ok (.iadd, 1) := by decide +kernel
theorem dL_changes_693 : decode cL_changes 693 = .ok (.iload 12, 2) := by decide +kernel
theorem dL_changes_695 : decode cL_changes 695 = .ok (.iload 11, 2) := by decide +kernel
theorem dL_changes_697 : decode cL_changes 697 = .ok (.aload 7, 2) := by decide +kernel
theorem dL_changes_699 : decode cL_changes 699 = .ok (.iload 13, 2) := by decide +kernel
theorem dL_changes_701 : decode cL_changes 701 = .ok (.iaload, 1) := by decide +kernel
theorem dL_changes_702 : decode cL_changes 702 = .ok (.invokestatic 40, 3) := by decide +kernel
theorem dL_changes_705 : decode cL_changes 705 = .ok (.iastore, 1) := by decide +kernel
theorem dL_changes_706 : decode cL_changes 706 = .ok (.aload 4, 2) := by decide +kernel
theorem dL_changes_708 : decode cL_changes 708 = .ok (.bipush 11, 2) := by decide +kernel
theorem dL_changes_710 : decode cL_changes 710 = .ok (.iload 8, 2) := by decide +kernel
theorem dL_changes_712 : decode cL_changes 712 = .ok (.iadd, 1) := by decide +kernel
theorem dL_changes_713 : decode cL_changes 713 = .ok (.dup2, 1) := by decide +kernel
theorem dL_changes_714 : decode cL_changes 714 = .ok (.iaload, 1) := by decide +kernel
theorem dL_changes_715 : decode cL_changes 715 = .ok (.iload 14, 2) := by decide +kernel
theorem dL_changes_717 : decode cL_changes 717 = .ok (.isub, 1) := by decide +kernel
theorem dL_changes_718 : decode cL_changes 718 = .ok (.iastore, 1) := by decide +kernel
theorem dL_changes_719 : decode cL_changes 719 = .ok (.aload 4, 2) := by decide +kernel
theorem dL_changes_721 : decode cL_changes 721 = .ok (.bipush 27, 2) := by decide +kernel
theorem dL_changes_723 : decode cL_changes 723 = .ok (.iload 8, 2) := by decide +kernel
theorem dL_changes_725 : decode cL_changes 725 = .ok (.iadd, 1) := by decide +kernel
theorem dL_changes_726 : decode cL_changes 726 = .ok (.dup2, 1) := by decide +kernel
theorem dL_changes_727 : decode cL_changes 727 = .ok (.iaload, 1) := by decide +kernel
theorem dL_changes_728 : decode cL_changes 728 = .ok (.aload 7, 2) := by decide +kernel
theorem dL_changes_730 : decode cL_changes 730 = .ok (.bipush 12, 2) := by decide +kernel
theorem dL_changes_732 : decode cL_changes 732 = .ok (.iload 13, 2) := by decide +kernel
theorem dL_changes_734 : decode cL_changes 734 = .ok (.iadd, 1) := by decide +kernel
theorem dL_changes_735 : decode cL_changes 735 = .ok (.iaload, 1) := by decide +kernel
theorem dL_changes_736 : decode cL_changes 736 = .ok (.iload 14, 2) := by decide +kernel
theorem dL_changes_738 : decode cL_changes 738 = .ok (.isub, 1) := by decide +kernel
theorem dL_changes_739 : decode cL_changes 739 = .ok (.iadd, 1) := by decide +kernel
theorem dL_changes_740 : decode cL_changes 740 = .ok (.iastore, 1) := by decide +kernel
theorem dL_changes_741 : decode cL_changes 741 = .ok (.aload 4, 2) := by decide +kernel
theorem dL_changes_743 : decode cL_changes 743 = .ok (.iconst 1, 1) := by decide +kernel
theorem dL_changes_744 : decode cL_changes 744 = .ok (.dup2, 1) := by decide +kernel
theorem dL_changes_745 : decode cL_changes 745 = .ok (.iaload, 1) := by decide +kernel
theorem dL_changes_746 : decode cL_changes 746 = .ok (.iconst 1, 1) := by decide +kernel
theorem dL_changes_747 : decode cL_changes 747 = .ok (.iadd, 1) := by decide +kernel
theorem dL_changes_748 : decode cL_changes 748 = .ok (.iastore, 1) := by decide +kernel
theorem dL_changes_749 : decode cL_changes 749 = .ok (.aload_n 0, 1) := by decide +kernel
theorem dL_changes_750 : decode cL_changes 750 = .ok (.iload 8, 2) := by decide +kernel
theorem dL_changes_752 : decode cL_changes 752 = .ok (.iload 10, 2) := by decide +kernel
theorem dL_changes_754 : decode cL_changes 754 = .ok (.iload 12, 2) := by decide +kernel
theorem dL_changes_756 : decode cL_changes 756 = .ok (.iload 11, 2) := by decide +kernel
theorem dL_changes_758 : decode cL_changes 758 = .ok (.invokevirtual 68, 3) := by decide +kernel
theorem dL_changes_761 : decode cL_changes 761 = .ok (.iload 13, 2) := by decide +kernel
theorem dL_changes_763 : decode cL_changes 763 = .ok (.if_icmp .ne 7, 3) := by decide +kernel
theorem dL_changes_766 : decode cL_changes 766 = .ok (.iconst 1, 1) := by decide +kernel
theorem dL_changes_767 : decode cL_changes 767 = .ok (.goto 4, 3) := by decide +kernel
theorem dL_changes_770 : decode cL_changes 770 = .ok (.iconst 0, 1) := by decide +kernel
theorem dL_changes_771 : decode cL_changes 771 = .ok (.ireturn, 1) := by decide +kernel
theorem dL_act_0 : decode cL_act 0 = .ok (.iload_n 1, 1) := by decide +kernel
theorem dL_act_1 : decode cL_act 1 = .ok (.iconst 3, 1) := by decide +kernel
theorem dL_act_2 : decode cL_act 2 = .ok (.if_icmp .ge 140, 3) := by decide +kernel
theorem dL_act_5 : decode cL_act 5 = .ok (.aload 4, 2) := by decide +kernel
theorem dL_act_7 : decode cL_act 7 = .ok (.iconst 0, 1) := by decide +kernel
theorem dL_act_8 : decode cL_act 8 = .ok (.iaload, 1) := by decide +kernel
theorem dL_act_9 : decode cL_act 9 = .ok (.bipush 8, 2) := by decide +kernel
theorem dL_act_11 : decode cL_act 11 = .ok (.if_icmp .ne 5, 3) := by decide +kernel
theorem dL_act_14 : decode cL_act 14 = .ok (.iconst 1, 1) := by decide +kernel
theorem dL_act_15 : decode cL_act 15 = .ok (.ireturn, 1) := by decide +kernel
theorem dL_act_16 : decode cL_act 16 = .ok (.iload_n 3, 1) := by decide +kernel
theorem dL_act_17 : decode cL_act 17 = .ok (.iload_n 2, 1) := by decide +kernel
theorem dL_act_18 : decode cL_act 18 = .ok (.iconst 4, 1) := by decide +kernel
theorem dL_act_19 : decode cL_act 19 = .ok (.invokestatic 44, 3) := by decide +kernel
theorem dL_act_22 : decode cL_act 22 = .ok (.ifCond .ne 8, 3) := by decide +kernel
theorem dL_act_25 : decode cL_act 25 = .ok (.ldc 54, 2) := by decide +kernel
theorem dL_act_27 : decode cL_act 27 = .ok (.goto 6, 3) := by decide +kernel
theorem dL_act_30 : decode cL_act 30 = .ok (.sipush 3000, 3) := by decide +kernel
theorem dL_act_33 : decode cL_act 33 = .ok (.invokestatic 44, 3) := by decide +kernel
theorem dL_act_36 : decode cL_act 36 = .ok (.istore 8, 2) := by decide +kernel
theorem dL_act_38 : decode cL_act 38 = .ok (.iconst 1, 1) := by decide +kernel
theorem dL_act_39 : decode cL_act 39 = .ok (.iload_n 2, 1) := by decide +kernel
theorem dL_act_40 : decode cL_act 40 = .ok (.iconst 3, 1) := by decide +kernel
theorem dL_act_41 : decode cL_act 41 = .ok (.ishr, 1) := by decide +kernel
theorem dL_act_42 : decode cL_act 42 = .ok (.iload_n 3, 1) := by decide +kernel
theorem dL_act_43 : decode cL_act 43 = .ok (.iconst 3, 1) := by decide +kernel
theorem dL_act_44 : decode cL_act 44 = .ok (.invokestatic 44, 3) := by decide +kernel
theorem dL_act_47 : decode cL_act 47 = .ok (.ifCond .ne 8, 3) := by decide +kernel
theorem dL_act_50 : decode cL_act 50 = .ok (.bipush 60, 2) := by decide +kernel
theorem dL_act_52 : decode cL_act 52 = .ok (.goto 5, 3) := by decide +kernel
theorem dL_act_55 : decode cL_act 55 = .ok (.bipush 12, 2) := by decide +kernel
theorem dL_act_57 : decode cL_act 57 = .ok (.invokestatic 44, 3) := by decide +kernel
theorem dL_act_60 : decode cL_act 60 = .ok (.iadd, 1) := by decide +kernel
theorem dL_act_61 : decode cL_act 61 = .ok (.istore 9, 2) := by decide +kernel
theorem dL_act_63 : decode cL_act 63 = .ok (.iload_n 3, 1) := by decide +kernel
theorem dL_act_64 : decode cL_act 64 = .ok (.iconst 4, 1) := by decide +kernel
theorem dL_act_65 : decode cL_act 65 = .ok (.ishr, 1) := by decide +kernel
theorem dL_act_66 : decode cL_act 66 = .ok (.iload_n 2, 1) := by decide +kernel
theorem dL_act_67 : decode cL_act 67 = .ok (.iconst 3, 1) := by decide +kernel
theorem dL_act_68 : decode cL_act 68 = .ok (.invokestatic 44, 3) := by decide +kernel
theorem dL_act_71 : decode cL_act 71 = .ok (.ifCond .ne 9, 3) := by decide +kernel
theorem dL_act_74 : decode cL_act 74 = .ok (.sipush 2001, 3) := by decide +kernel
theorem dL_act_77 : decode cL_act 77 = .ok (.goto 6, 3) := by decide +kernel
theorem dL_act_80 : decode cL_act 80 = .ok (.sipush 300, 3) := by decide +kernel
theorem dL_act_83 : decode cL_act 83 = .ok (.invokestatic 44, 3) := by decide +kernel
theorem dL_act_86 : decode cL_act 86 = .ok (.istore 10, 2) := by decide +kernel
theorem dL_act_88 : decode cL_act 88 = .ok (.iload_n 2, 1) := by decide +kernel
theorem dL_act_89 : decode cL_act 89 = .ok (.bipush 6, 2) := by decide +kernel
theorem dL_act_91 : decode cL_act 91 = .ok (.ishr, 1) := by decide +kernel
theorem dL_act_92 : decode cL_act 92 = .ok (.sipush 2000, 3) := by decide +kernel
theorem dL_act_95 : decode cL_act 95 = .ok (.invokestatic 44, 3) := by decide +kernel
theorem dL_act_98 : decode cL_act 98 = .ok (.istore 11, 2) := by decide +kernel
theorem dL_act_100 : decode cL_act 100 = .ok (.iload 8, 2) := by decide +kernel
theorem dL_act_102 : decode cL_act 102 = .ok (.iload 9, 2) := by decide +kernel
theorem dL_act_104 : decode cL_act 104 = .ok (.iload 10, 2) := by decide +kernel
theorem dL_act_106 : decode cL_act 106 = .ok (.iload 11, 2) := by decide +kernel
theorem dL_act_108 : decode cL_act 108 = .ok (.aload 4, 2) := by decide +kernel
theorem dL_act_110 : decode cL_act 110 = .ok (.aload 5, 2) := by decide +kernel
theorem dL_act_112 : decode cL_act 112 = .ok (.invokestatic 72, 3) := by decide +kernel
theorem dL_act_115 : decode cL_act 115 = .ok (.aload_n 0, 1) := by decide +kernel
theorem dL_act_116 : decode cL_act 116 = .ok (.iload 8, 2) := by decide +kernel
theorem dL_act_118 : decode cL_act 118 = .ok (.iload 9, 2) := by decide +kernel
theorem dL_act_120 : decode cL_act 120 = .ok (.iload 10, 2) := by decide +kernel
theorem dL_act_122 : decode cL_act 122 = .ok (.iload 11, 2) := by decide +kernel
theorem dL_act_124 : decode cL_act 124 = .ok (.invokevirtual 76, 3) := by decide +kernel
theorem dL_act_127 : decode cL_act 127 = .ok (.aload 4, 2) := by decide +kernel
theorem dL_act_129 : decode cL_act 129 = .ok (.iconst 0, 1) := by decide +kernel
theorem dL_act_130 : decode cL_act 130 = .ok (.iaload, 1) := by decide +kernel
theorem dL_act_131 : decode cL_act 131 = .ok (.iconst 1, 1) := by decide +kernel
theorem dL_act_132 : decode cL_act 132 = .ok (.isub, 1) := by decide +kernel
theorem dL_act_133 : decode cL_act 133 = .ok (.if_icmp .ne 7, 3) := by decide +kernel
theorem dL_act_136 : decode cL_act 136 = .ok (.iconst 1, 1) := by decide +kernel
theorem dL_act_137 : decode cL_act 137 = .ok (.goto 4, 3) := by decide +kernel
theorem dL_act_140 : decode cL_act 140 = .ok (.iconst 0, 1) := by decide +kernel
theorem dL_act_141 : decode cL_act 141 = .ok (.ireturn, 1) := by decide +kernel
theorem dL_act_142 : decode cL_act 142 = .ok (.iload_n 1, 1) := by decide +kernel
theorem dL_act_143 : decode cL_act 143 = .ok (.bipush 7, 2) := by decide +kernel
theorem dL_act_145 : decode cL_act 145 = .ok (.if_icmp .ge 100, 3) := by decide +kernel
theorem dL_act_148 : decode cL_act 148 = .ok (.iconst 1, 1) := by decide +kernel
theorem dL_act_149 : decode cL_act 149 = .ok (.iload_n 3, 1) := by decide +kernel
theorem dL_act_150 : decode cL_act 150 = .ok (.iload_n 2, 1) := by decide +kernel
theorem dL_act_151 : decode cL_act 151 = .ok (.iconst 4, 1) := by decide +kernel
theorem dL_act_152 : decode cL_act 152 = .ok (.invokestatic 44, 3) := by decide +kernel
theorem dL_act_155 : decode cL_act 155 = .ok (.ifCond .ne 8, 3) := by decide +kernel
theorem dL_act_158 : decode cL_act 158 = .ok (.bipush 20, 2) := by decide +kernel
theorem dL_act_160 : decode cL_act 160 = .ok (.goto 4, 3) := by decide +kernel
theorem dL_act_163 : decode cL_act 163 = .ok (.iconst 3, 1) := by decide +kernel
theorem dL_act_164 : decode cL_act 164 = .ok (.invokestatic 44, 3) := by decide +kernel
theorem dL_act_167 : decode cL_act 167 = .ok (.iadd, 1) := by decide +kernel
theorem dL_act_168 : decode cL_act 168 = .ok (.istore 8, 2) := by decide +kernel
theorem dL_act_170 : decode cL_act 170 = .ok (.iconst 0, 1) := by decide +kernel
theorem dL_act_171 : decode cL_act 171 = .ok (.istore 9, 2) := by decide +kernel
theorem dL_act_173 : decode cL_act 173 = .ok (.iload 9, 2) := by decide +kernel
theorem dL_act_175 : decode cL_act 175 = .ok (.iload 8, 2) := by decide +kernel
theorem dL_act_177 : decode cL_act 177 = .ok (.if_icmp .ge 40, 3) := by decide +kernel
theorem dL_act_180 : decode cL_act 180 = .ok (.iconst 0, 1) := by decide +kernel
theorem dL_act_181 : decode cL_act 181 = .ok (.istore 10, 2) := by decide +kernel
theorem dL_act_183 : decode cL_act 183 = .ok (.iload 10, 2) := by decide +kernel
theorem dL_act_185 : decode cL_act 185 = .ok (.aload 4, 2) := by decide +kernel
theorem dL_act_187 : decode cL_act 187 = .ok (.iconst 0, 1) := by decide +kernel
theorem dL_act_188 : decode cL_act 188 = .ok (.iaload, 1) := by decide +kernel
theorem dL_act_189 : decode cL_act 189 = .ok (.if_icmp .ge 22, 3) := by decide +kernel
theorem dL_act_192 : decode cL_act 192 = .ok (.iload 10, 2) := by decide +kernel
theorem dL_act_194 : decode cL_act 194 = .ok (.aload 4, 2) := by decide +kernel
theorem dL_act_196 : decode cL_act 196 = .ok (.aload 5, 2) := by decide +kernel
theorem dL_act_198 : decode cL_act 198 = .ok (.aload 6, 2) := by decide +kernel
theorem dL_act_200 : decode cL_act 200 = .ok (.aload 7, 2) := by decide +kernel
theorem dL_act_202 : decode cL_act 202 = .ok (.invokestatic 79, 3) := by decide +kernel
theorem dL_act_205 : decode cL_act 205 = .ok (.iinc 10 1, 3) := by decide +kernel
theorem dL_act_208 : decode cL_act 208 = .ok (.goto (-25), 3) := by decide +kernel
theorem dL_act_211 : decode cL_act 211 = .ok (.iinc 9 1, 3) := by decide +kernel
theorem dL_act_214 : decode cL_act 214 = .ok (.goto (-41), 3) := by decide +kernel
theorem dL_act_217 : decode cL_act 217 = .ok (.aload 4, 2) := by decide +kernel
theorem dL_act_219 : decode cL_act 219 = .ok (.iconst 2, 1) := by decide +kernel
theorem dL_act_220 : decode cL_act 220 = .ok (.dup2, 1) := by decide +kernel
theorem dL_act_221 : decode cL_act 221 = .ok (.iaload, 1) := by decide +kernel
theorem dL_act_222 : decode cL_act 222 = .ok (.iload 8, 2) := by decide +kernel
theorem dL_act_224 : decode cL_act 224 = .ok (.iadd, 1) := by decide +kernel
theorem dL_act_225 : decode cL_act 225 = .ok (.iastore, 1) := by decide +kernel
theorem dL_act_226 : decode cL_act 226 = .ok (.aload_n 0, 1) := by decide +kernel
theorem dL_act_227 : decode cL_act 227 = .ok (.iload 8, 2) := by decide +kernel
theorem dL_act_229 : decode cL_act 229 = .ok (.invokevirtual 83, 3) := by decide +kernel
theorem dL_act_232 : decode cL_act 232 = .ok (.aload 4, 2) := by decide +kernel
theorem dL_act_234 : decode cL_act 234 = .ok (.iconst 2, 1) := by decide +kernel
theorem dL_act_235 : decode cL_act 235 = .ok (.iaload, 1) := by decide +kernel
theorem dL_act_236 : decode cL_act 236 = .ok (.if_icmp .ne 7, 3) := by decide +kernel
theorem dL_act_239 : decode cL_act 239 = .ok (.iconst 1, 1) := by decide +kernel
theorem dL_act_240 : decode cL_act 240 = .ok (.goto 4, 3) := by decide +kernel
theorem dL_act_243 : decode cL_act 243 = .ok (.iconst 0, 1) := by decide +kernel
theorem dL_act_244 : decode cL_act 244 = .ok (.ireturn, 1) := by decide +kernel
theorem dL_act_245 : decode cL_act 245 = .ok (.aload_n 0, 1) := by decide +kernel
theorem dL_act_246 : decode cL_act 246 = .ok (.iload_n 1, 1) := by decide +kernel
theorem dL_act_247 : decode cL_act 247 = .ok (.bipush 9, 2) := by decide +kernel
theorem dL_act_249 : decode cL_act 249 = .ok (.if_icmp .ge 7, 3) := by decide +kernel
theorem dL_act_252 : decode cL_act 252 = .ok (.iconst 0, 1) := by decide +kernel
theorem dL_act_253 : decode cL_act 253 = .ok (.goto 34, 3) := by decide +kernel
theorem dL_act_256 : decode cL_act 256 = .ok (.iload_n 1, 1) := by decide +kernel
theorem dL_act_257 : decode cL_act 257 = .ok (.bipush 11, 2) := by decide +kernel
theorem dL_act_259 : decode cL_act 259 = .ok (.if_icmp .ge 7, 3) := by decide +kernel
theorem dL_act_262 : decode cL_act 262 = .ok (.iconst 1, 1) := by decide +kernel
theorem dL_act_263 : decode cL_act 263 = .ok (.goto 24, 3) := by decide +kernel
theorem dL_act_266 : decode cL_act 266 = .ok (.iload_n 1, 1) := by decide +kernel
theorem dL_act_267 : decode cL_act 267 = .ok (.bipush 11, 2) := by decide +kernel
theorem dL_act_269 : decode cL_act 269 = .ok (.if_icmp .ne 7, 3) := by decide +kernel
theorem dL_act_272 : decode cL_act 272 = .ok (.iconst 2, 1) := by decide +kernel
theorem dL_act_273 : decode cL_act 273 = .ok (.goto 14, 3) := by decide +kernel
theorem dL_act_276 : decode cL_act 276 = .ok (.iload_n 1, 1) := by decide +kernel
theorem dL_act_277 : decode cL_act 277 = .ok (.bipush 12, 2) := by decide +kernel
theorem dL_act_279 : decode cL_act 279 = .ok (.if_icmp .ne 7, 3) := by decide +kernel
theorem dL_act_282 : decode cL_act 282 = .ok (.iconst 3, 1) := by decide +kernel
theorem dL_act_283 : decode cL_act 283 = .ok (.goto 4, 3) := by decide +kernel
theorem dL_act_286 : decode cL_act 286 = .ok (.iconst 4, 1) := by decide +kernel
theorem dL_act_287 : decode cL_act 287 = .ok (.iload_n 2, 1) := by decide +kernel
theorem dL_act_288 : decode cL_act 288 = .ok (.iload_n 3, 1) := by decide +kernel
theorem dL_act_289 : decode cL_act 289 = .ok (.aload 4, 2) := by decide +kernel
theorem dL_act_291 : decode cL_act 291 = .ok (.aload 5, 2) := by decide +kernel
theorem dL_act_293 : decode cL_act 293 = .ok (.aload 6, 2) := by decide +kernel
theorem dL_act_295 : decode cL_act 295 = .ok (.aload 7, 2) := by decide +kernel
theorem dL_act_297 : decode cL_act 297 = .ok (.invokestatic 85, 3) := by decide +kernel
theorem dL_act_300 : decode cL_act 300 = .ok (.ireturn, 1) := by decide +kernel
theorem dL_law_0 : decode cL_law 0 = .ok (.new 15, 3) := by decide +kernel
theorem dL_law_3 : decode cL_law 3 = .ok (.dup, 1) := by decide +kernel
theorem dL_law_4 : decode cL_law 4 = .ok (.invokespecial 89, 3) := by decide +kernel
theorem dL_law_7 : decode cL_law 7 = .ok (.astore_n 1, 1) := by decide +kernel
theorem dL_law_8 : decode cL_law 8 = .ok (.bipush 35, 2) := by decide +kernel
theorem dL_law_10 : decode cL_law 10 = .ok (.newarray .int, 2) := by decide +kernel
theorem dL_law_12 : decode cL_law 12 = .ok (.astore_n 2, 1) := by decide +kernel
theorem dL_law_13 : decode cL_law 13 = .ok (.bipush 24, 2) := by decide +kernel
theorem dL_law_15 : decode cL_law 15 = .ok (.newarray .int, 2) := by decide +kernel
theorem dL_law_17 : decode cL_law 17 = .ok (.astore_n 3, 1) := by decide +kernel
theorem dL_law_18 : decode cL_law 18 = .ok (.bipush 48, 2) := by decide +kernel
theorem dL_law_20 : decode cL_law 20 = .ok (.newarray .int, 2) := by decide +kernel
theorem dL_law_22 : decode cL_law 22 = .ok (.astore 4, 2) := by decide +kernel
theorem dL_law_24 : decode cL_law 24 = .ok (.bipush 24, 2) := by decide +kernel
theorem dL_law_26 : decode cL_law 26 = .ok (.newarray .int, 2) := by decide +kernel
theorem dL_law_28 : decode cL_law 28 = .ok (.astore 5, 2) := by decide +kernel
theorem dL_law_30 : decode cL_law 30 = .ok (.aload_n 1, 1) := by decide +kernel
theorem dL_law_31 : decode cL_law 31 = .ok (.aload_n 2, 1) := by decide +kernel
theorem dL_law_32 : decode cL_law 32 = .ok (.aload_n 3, 1) := by decide +kernel
theorem dL_law_33 : decode cL_law 33 = .ok (.aload 4, 2) := by decide +kernel
theorem dL_law_35 : decode cL_law 35 = .ok (.aload 5, 2) := by decide +kernel
theorem dL_law_37 : decode cL_law 37 = .ok (.invokestatic 90, 3) := by decide +kernel
theorem dL_law_40 : decode cL_law 40 = .ok (.ifCond .ne 5, 3) := by decide +kernel
theorem dL_law_43 : decode cL_law 43 = .ok (.iconst 0, 1) := by decide +kernel
theorem dL_law_44 : decode cL_law 44 = .ok (.ireturn, 1) := by decide +kernel
theorem dL_law_45 : decode cL_law 45 = .ok (.iconst 0, 1) := by decide +kernel
theorem dL_law_46 : decode cL_law 46 = .ok (.istore 6, 2) := by decide +kernel
theorem dL_law_48 : decode cL_law 48 = .ok (.iload 6, 2) := by decide +kernel
theorem dL_law_50 : decode cL_law 50 = .ok (.bipush 40, 2) := by decide +kernel
theorem dL_law_52 : decode cL_law 52 = .ok (.if_icmp .ge 93, 3) := by decide +kernel
theorem dL_law_55 : decode cL_law 55 = .ok (.aload_n 0, 1) := by decide +kernel
theorem dL_law_56 : decode cL_law 56 = .ok (.iconst 2, 1) := by decide +kernel
theorem dL_law_57 : decode cL_law 57 = .ok (.iload 6, 2) := by decide +kernel
theorem dL_law_59 : decode cL_law 59 = .ok (.imul, 1) := by decide +kernel
theorem dL_law_60 : decode cL_law 60 = .ok (.invokestatic 94, 3) := by decide +kernel
theorem dL_law_63 : decode cL_law 63 = .ok (.ldc 98, 2) := by decide +kernel
theorem dL_law_65 : decode cL_law 65 = .ok (.iand, 1) := by decide +kernel
theorem dL_law_66 : decode cL_law 66 = .ok (.istore 7, 2) := by decide +kernel
theorem dL_law_68 : decode cL_law 68 = .ok (.aload_n 0, 1) := by decide +kernel
theorem dL_law_69 : decode cL_law 69 = .ok (.iconst 2, 1) := by decide +kernel
theorem dL_law_70 : decode cL_law 70 = .ok (.iload 6, 2) := by decide +kernel
theorem dL_law_72 : decode cL_law 72 = .ok (.imul, 1) := by decide +kernel
theorem dL_law_73 : decode cL_law 73 = .ok (.iconst 1, 1) := by decide +kernel
theorem dL_law_74 : decode cL_law 74 = .ok (.iadd, 1) := by decide +kernel
theorem dL_law_75 : decode cL_law 75 = .ok (.invokestatic 94, 3) := by decide +kernel
theorem dL_law_78 : decode cL_law 78 = .ok (.ldc 98, 2) := by decide +kernel
theorem dL_law_80 : decode cL_law 80 = .ok (.iand, 1) := by decide +kernel
theorem dL_law_81 : decode cL_law 81 = .ok (.istore 8, 2) := by decide +kernel
theorem dL_law_83 : decode cL_law 83 = .ok (.iload 6, 2) := by decide +kernel
theorem dL_law_85 : decode cL_law 85 = .ok (.iconst 2, 1) := by decide +kernel
theorem dL_law_86 : decode cL_law 86 = .ok (.if_icmp .ge 7, 3) := by decide +kernel
theorem dL_law_89 : decode cL_law 89 = .ok (.iconst 0, 1) := by decide +kernel
theorem dL_law_90 : decode cL_law 90 = .ok (.goto 13, 3) := by decide +kernel
theorem dL_law_93 : decode cL_law 93 = .ok (.iload 7, 2) := by decide +kernel
theorem dL_law_95 : decode cL_law 95 = .ok (.bipush 13, 2) := by decide +kernel
theorem dL_law_97 : decode cL_law 97 = .ok (.ishr, 1) := by decide +kernel
theorem dL_law_98 : decode cL_law 98 = .ok (.bipush 16, 2) := by decide +kernel
theorem dL_law_100 : decode cL_law 100 = .ok (.invokestatic 44, 3) := by decide +kernel
theorem dL_law_103 : decode cL_law 103 = .ok (.istore 9, 2) := by decide +kernel
theorem dL_law_105 : decode cL_law 105 = .ok (.aload_n 1, 1) := by decide +kernel
theorem dL_law_106 : decode cL_law 106 = .ok (.iload 9, 2) := by decide +kernel
theorem dL_law_108 : decode cL_law 108 = .ok (.iload 7, 2) := by decide +kernel
theorem dL_law_110 : decode cL_law 110 = .ok (.iload 8, 2) := by decide +kernel
theorem dL_law_112 : decode cL_law 112 = .ok (.aload_n 2, 1) := by decide +kernel
theorem dL_law_113 : decode cL_law 113 = .ok (.aload_n 3, 1) := by decide +kernel
theorem dL_law_114 : decode cL_law 114 = .ok (.aload 4, 2) := by decide +kernel
theorem dL_law_116 : decode cL_law 116 = .ok (.aload 5, 2) := by decide +kernel
theorem dL_law_118 : decode cL_law 118 = .ok (.invokestatic 99, 3) := by decide +kernel
theorem dL_law_121 : decode cL_law 121 = .ok (.ifCond .eq 16, 3) := by decide +kernel
theorem dL_law_124 : decode cL_law 124 = .ok (.aload_n 1, 1) := by decide +kernel
theorem dL_law_125 : decode cL_law 125 = .ok (.aload_n 2, 1) := by decide +kernel
theorem dL_law_126 : decode cL_law 126 = .ok (.aload_n 3, 1) := by decide +kernel
theorem dL_law_127 : decode cL_law 127 = .ok (.aload 4, 2) := by decide +kernel
theorem dL_law_129 : decode cL_law 129 = .ok (.aload 5, 2) := by decide +kernel
theorem dL_law_131 : decode cL_law 131 = .ok (.invokestatic 90, 3) := by decide +kernel
theorem dL_law_134 : decode cL_law 134 = .ok (.ifCond .ne 5, 3) := by decide +kernel
theorem dL_law_137 : decode cL_law 137 = .ok (.iconst 0, 1) := by decide +kernel
theorem dL_law_138 : decode cL_law 138 = .ok (.ireturn, 1) := by decide +kernel
theorem dL_law_139 : decode cL_law 139 = .ok (.iinc 6 1, 3) := by decide +kernel
theorem dL_law_142 : decode cL_law 142 = .ok (.goto (-94), 3) := by decide +kernel
theorem dL_law_145 : decode cL_law 145 = .ok (.aload_n 1, 1) := by decide +kernel
theorem dL_law_146 : decode cL_law 146 = .ok (.bipush 10, 2) := by decide +kernel
theorem dL_law_148 : decode cL_law 148 = .ok (.invokevirtual 14, 3) := by decide +kernel
theorem dL_law_151 : decode cL_law 151 = .ok (.ifCond .le 7, 3) := by decide +kernel
theorem dL_law_154 : decode cL_law 154 = .ok (.iconst 1, 1) := by decide +kernel
theorem dL_law_155 : decode cL_law 155 = .ok (.goto 4, 3) := by decide +kernel
theorem dL_law_158 : decode cL_law 158 = .ok (.iconst 0, 1) := by decide +kernel
theorem dL_law_159 : decode cL_law 159 = .ok (.ireturn, 1) := by decide +kernel
abbrev vwCl : List vw_C := [(RX0, TX0, 3), (RX1, TX1, 2), (RX2, TX2, 6), (RX3, TX3, 3), (RX4, TX4, 5), (RX5, TX5, 6), (RX6, TX6, 4)]
end
section
/-! CORE. Both sides' cells as one memory of ints (roles 0..227), and a judgement J over it. -/
abbrev Mem : Type := Nat → Nat → Int32
abbrev LMem : Type := Nat → Int64
def mset (V : Mem) (k i : Nat) (x : Int32) : Mem := fun a b => if a = k ∧ b = i then x else V a b
def lset (L : LMem) (i : Nat) (x : Int64) : LMem := fun a => if a = i then x else L a
theorem mset_row {V : Mem} {k i j : Nat} {x : Int32} (h : j ≠ k) : mset V k i x j = V j := by
  funext b
  simp [mset, h]
theorem mset_at (V : Mem) (k i : Nat) (x : Int32) : mset V k i x k i = x := by simp [mset]
theorem mset_ne {V : Mem} {k i a b : Nat} {x : Int32} (h : ¬ (a = k ∧ b = i)) : mset V k i x a b = V a b := by simp only [mset, if_neg h]
theorem mset_upd (V : Mem) (k i : Nat) (x : Int32) : mset V k i x k = upd (V k) i x := by
  funext b
  simp [mset, upd]
/-- a role's kind -/
def kd (k : Nat) : Nat := if k < 217 then (if k % 31 = 0 then 0 else if k % 31 = 1 then 1 else if k % 31 = 2 then 2 else if k % 31 < 11 then 3 else if k % 31 < 19 then 4 else 5) else k - 211
/-- the global context: class ids, slots, the roles' addresses, the array classes, the heap at the law's entry -/
abbrev GC : Type := (Nat → ClassId) × (Nat → Nat → Nat) × (Nat → Nat) × (Nat → ClassId) × Heap × (Nat × Nat × (Nat → Int32))
abbrev gD (g : GC) : va_G := (g.1, g.2.1)
abbrev ad (g : GC) : Nat → Nat := g.2.2.1
abbrev ca (g : GC) : Nat → ClassId := g.2.2.2.1
abbrev gH (g : GC) : Heap := g.2.2.2.2.1
abbrev gB (g : GC) : Nat := g.2.2.2.2.2.1
abbrev gL (g : GC) : Nat := g.2.2.2.2.2.2.1
abbrev gX (g : GC) : Nat → Int32 := g.2.2.2.2.2.2.2
def AA (g : GC) : Nat → Prop := fun q => (gH g).size ≤ q
def tysG (g : GC) : List (ClassId × FieldType) := [(ca g 0, .int), (ca g 1, .char), (ca g 2, .object RX2), (ca g 3, .object RX5), (ca g 4, .object RX4)]
def rfs (f : Nat → Nat) : (Nat → Int32) ⊕ (Nat → Int64) ⊕ (Nat → UInt32) ⊕ (Nat → UInt64) ⊕ (Nat → Option Nat) := .inr (.inr (.inr (.inr (fun i => some (f i)))))
def cellK (g : GC) (V : Mem) (L : LMem) (k : Nat) : Nat → va_E
  | 0 => .inr (4, [.ref (ad g (k + 1)), .ref (ad g (k + 2)), .int (V k 2), .int (V k 3), .int (V k 4)])
  | 1 => .inl (ca g 2, 8, rfs (fun i => ad g (k + 2 + i)))
  | 2 => .inl (ca g 3, 12, rfs (fun i => ad g (k + 17 + i)))
  | 3 => .inr (2, [.int (V k 0), .int (V k 1), .int (V k 2), .int (V k 3), .int (V k 4), .ref (ad g (k + 8))])
  | 4 => .inl (ca g 0, 17, .inl (V k))
  | 5 => .inr (5, [.int (V k 0), .int (V k 1), .int (V k 2), .int (V k 3), .int (V k 4), .int (V k 5)])
  | 6 => .inr (0, [.ref (ad g 218), .int (V k 1), .int (V k 2)])
  | 7 => .inl (ca g 4, 6, rfs (fun i => ad g (31 * (i + 1))))
  | 8 => .inr (1, [.ref (ad g 220), .int (V k 1)])
  | 9 => .inl (ca g 1, 60, .inl (V k))
  | 10 => .inr (3, [.ref (ad g 222), .int (V k 1), .int (V k 2)])
  | 11 => .inl (ca g 0, 4, .inl (V k))
  | 12 => .inr (6, [.ref (ad g 0), .ref (ad g 217), .ref (ad g 219), .ref (ad g 221)])
  | 13 => .inl (ca g 0, 35, .inl (V k))
  | 14 => .inl (ca g 0, 24, .inl (V k))
  | 15 => .inl (ca g 0, 48, .inl (V k))
  | _ => .inl (ca g 0, 24, .inl (V k))
def cellOf (g : GC) (V : Mem) (L : LMem) (k : Nat) : va_E := cellK g V L k (kd k)
def TW (g : GC) (V : Mem) (L : LMem) : va_W := (List.range 228).map (fun k => (ad g k, cellOf g V L k))
theorem TW_at {g : GC} {V : Mem} {L : LMem} {k : Nat} (h : k < 228) : (TW g V L)[k]? = some (ad g k, cellOf g V L k) := by
  unfold TW
  rw [List.getElem?_map, List.getElem?_range h]
  rfl
theorem TW_k {g : GC} {V : Mem} {L : LMem} {k : Nat} {q : Nat × va_E} (h : (TW g V L)[k]? = some q) : k < 228 ∧ q = (ad g k, cellOf g V L k) := by
  have hl : k < 228 := by
    have h1 := (List.getElem?_eq_some_iff.mp h).1
    simpa [TW] using h1
  rw [TW_at hl] at h
  exact ⟨hl, (Option.some.inj h).symm⟩
theorem TW_set {g : GC} {V V' : Mem} {L L' : LMem} {k : Nat} {e : va_E} (hk : k < 228) (he : cellOf g V' L' k = e) (ho : ∀ j, j < 228 → j ≠ k → cellOf g V' L' j = cellOf g V L j) : (TW g V L).set k (ad g k, e) = TW g V' L' := by
  apply List.ext_getElem?
  intro j
  by_cases hj : j = k
  · subst hj
    rw [List.getElem?_set_self (by simpa [TW] using hk), TW_at hk, he]
  · rw [List.getElem?_set_ne (Ne.symm hj)]
    by_cases hl : j < 228
    · rw [TW_at hl, TW_at hl, ho j hl hj]
    · rw [List.getElem?_eq_none (by simp [TW]; omega), List.getElem?_eq_none (by simp [TW]; omega)]
theorem cellK_row {g : GC} {V V' : Mem} {L : LMem} {k : Nat} (h : V' k = V k) (c : Nat) : cellK g V' L k c = cellK g V L k c := by
  unfold cellK
  rw [h]
theorem cellOf_row {g : GC} {V : Mem} {L : LMem} {k i j : Nat} {x : Int32} (h : j ≠ k) : cellOf g (mset V k i x) L j = cellOf g V L j := cellK_row (mset_row h) _
theorem kd_lt {k c : Nat} (h : kd k = c) (hc : c < 17) : k < 228 := by
  unfold kd at h
  split at h <;> omega
/-- addresses are apart and new -/
def DJ (g : GC) : Prop := (∀ i j, i < 228 → j < 228 → ad g i = ad g j → i = j) ∧ ∀ k, k < 228 → AA g (ad g k)
theorem DJ.d {g : GC} (h : DJ g) (V : Mem) (L : LMem) : va_D (AA g) (TW g V L) := by
  refine ⟨fun i j p q hi hj hpq => ?_, fun k q hk => ?_⟩
  · obtain ⟨a1, rfl⟩ := TW_k hi
    obtain ⟨a2, rfl⟩ := TW_k hj
    exact h.1 i j a1 a2 hpq
  · obtain ⟨a1, rfl⟩ := TW_k hk
    exact h.2 k a1
/-! what the tables and old cells say, carried -/
def NWs : List Cond := [.methodLinkNest RX4 23 yX2_init RX6, .methodLinkNest RX4 24 yX5_init RX6, .methodLinkNest RX6 25 yX1_init RX6, .methodLinkNest RX6 32 yX3_init RX6, .methodLinkNest RX2 25 yX6_presentWorth RX6, .methodLinkNest RX5 30 yX6_presentWorth RX6, .methodLinkNest RX2 58 yX6_thousandthsOf RX6]
def XT (U : State) : Prop := (∀ w ∈ NWs, va_Nw w U) ∧ True
/-- the law's script, an old cell -/
def XH (g : GC) (U : State) : Prop := va_X (gB g) (gL g) (gX g) U (gH g) ∧ gB g < (gH g).size
theorem XT.warm {s U : State} (hW : s.WarmedH U.vm) (h : XT s) : XT U := by
  refine ⟨fun w hw => ?_, trivial⟩
  have h0 := h.1 w hw
  simp only [NWs, List.mem_cons, List.not_mem_nil, or_false] at hw
  rcases hw with rfl | rfl | rfl | rfl | rfl | rfl | rfl <;> exact va_Nw.warmM hW h0
theorem XT.same {s U : State} (hv : s.vm = U.vm) (h : XT s) : XT U := by
  refine ⟨fun w hw => ?_, trivial⟩
  have h0 := h.1 w hw
  simp only [NWs, List.mem_cons, List.not_mem_nil, or_false] at hw
  rcases hw with rfl | rfl | rfl | rfl | rfl | rfl | rfl <;> exact va_Nw.same rfl hv h0
theorem XH.moved {g : GC} {s U : State} (hv : s.vm.Alike U.vm) (h : XH g s) : XH g U := ⟨va_X.moved hv h.1, h.2⟩
/-- the old cells are as they were at the law's entry -/
def OldH (g : GC) (H : Heap) : Prop := (gH g).size ≤ H.size ∧ ∀ q : Nat, q < (gH g).size → H[q]? = (gH g)[q]?
def CW (g : GC) (U : State) : Prop := va_K (gD g) vwCl (tysG g) U ∧ DJ g ∧ OldH g U.heap ∧ XT U ∧ XH g U
def PW (g : GC) (V : Mem) (L : LMem) (U : State) : Prop := va_P (gD g) vwCl (TW g V L) U.heap
def AtW (g : GC) (V : Mem) (L : LMem) (U : State) : Prop := PW g V L U ∧ CW g U
theorem OldH.step {g : GC} {H0 H : Heap} {locs : List Loc} (h : OldH g H0) (hS : va_S (AA g) H0 H locs) : OldH g H := by
  refine ⟨Nat.le_trans h.1 hS.1, fun q hq => ?_⟩
  rw [hS.2.1 q (Nat.lt_of_lt_of_le hq h.1) (Nat.not_le.mpr hq)]
  exact h.2 q hq
theorem CW.warm {g : GC} {s U : State} {H : Heap} {locs : List Loc} (h : CW g s) (hU : U.heap = H) (hW : s.WarmedH U.vm) (hS : va_S (AA g) s.heap H locs) : CW g U :=
  ⟨va_K.moved hW.alike h.1, h.2.1, by rw [hU]; exact h.2.2.1.step hS, h.2.2.2.1.warm hW, h.2.2.2.2.moved hW.alike⟩
theorem CW.calling {g : GC} {U : State} (f : JFrame) (mk : MethodId) (a : Array Value) (h : CW g U) : CW g (U.calling f mk a) :=
  ⟨va_K.moved (u := U) (U := U.calling f mk a) (Vm.Alike.refl U.vm) h.1, h.2.1, h.2.2.1, XT.same (s := U) (U := U.calling f mk a) rfl h.2.2.2.1, XH.moved (s := U) (U := U.calling f mk a) (Vm.Alike.refl U.vm) h.2.2.2.2⟩
theorem AtW.blind {g : GC} {V : Mem} {L : LMem} {As : List Value} : FrameBlind (va_Pc As (AtW g V L)) := fun a U f mk h => ⟨h.1, h.2.1, h.2.2.calling f mk a⟩
/-! words -/
def TG : List Cond := lw_tbl.filter goodWord
theorem TG_in {w : Cond} (h : w ∈ lw_tbl) (hg : goodWord w = true) : w ∈ TG := List.mem_filter.mpr ⟨h, hg⟩
theorem TG_ix {w : Cond} (i : Nat) (h : lw_tbl[i]? = some w) (hg : goodWord w = true) : w ∈ TG := TG_in (List.mem_of_getElem? h) hg
theorem TG_sub {ws : List Cond} (h : ∀ w ∈ ws, w ∈ TG) : GoodIn TG ws := fun w hw => ⟨h w hw, good_of_word (List.mem_filter.mp (h w hw)).2⟩
abbrev WS (y : MethodName) (b : ByteArray) (n : Nat) (ret : Option FieldType) : List Cond := Cond.code y b n ret :: TG
theorem TG_ws {y : MethodName} {b : ByteArray} {n : Nat} {ret : Option FieldType} (h : Cond.code y b n ret ∈ TG) : ∀ w ∈ WS y b n ret, w ∈ TG := fun w hw => (List.mem_cons.mp hw).elim (fun e => by rw [e]; exact h) id
theorem TG_c {w : Cond} {ws : List Cond} (h : w ∈ TG) (hs : ∀ w ∈ ws, w ∈ TG) : ∀ x ∈ w :: ws, x ∈ TG := fun x hx => (List.mem_cons.mp hx).elim (fun e => by rw [e]; exact h) (hs x)
/-! locals: a list, by place; none where nothing is known -/
def en : Nat → List (Option Value) → List (Nat × Value)
  | _, [] => []
  | i, none :: t => en (i + 1) t
  | i, some v :: t => (i, v) :: en (i + 1) t
theorem en_iff : ∀ (lv : List (Option Value)) (i : Nat) (q : Nat × Value), q ∈ en i lv ↔ ∃ k, q.1 = i + k ∧ lv[k]? = some (some q.2)
  | [], i, q => by simp [en]
  | none :: t, i, q => by
    rw [en, en_iff t (i + 1) q]
    constructor
    · rintro ⟨k, h1, h2⟩
      exact ⟨k + 1, by omega, by simpa using h2⟩
    · rintro ⟨k, h1, h2⟩
      cases k with
      | zero => simp at h2
      | succ k => exact ⟨k, by omega, by simpa using h2⟩
  | some v :: t, i, q => by
    rw [en, List.mem_cons, en_iff t (i + 1) q]
    constructor
    · rintro (rfl | ⟨k, h1, h2⟩)
      · exact ⟨0, by simp, by simp⟩
      · exact ⟨k + 1, by omega, by simpa using h2⟩
    · rintro ⟨k, h1, h2⟩
      cases k with
      | zero =>
        left
        obtain ⟨a, b⟩ := q
        simp at h1 h2
        rw [h1, h2]
      | succ k => exact Or.inr ⟨k, by omega, by simpa using h2⟩
def lvO (ls : Array Slot) (nL : Nat) (lv : List (Option Value)) : Prop := lv_has ls nL (en 0 lv)
theorem lvO.at {ls : Array Slot} {nL : Nat} {lv : List (Option Value)} (h : lvO ls nL lv) {i : Nat} {v : Value} (hi : lv[i]? = some (some v)) : ls[i]? = some (.val v) := h.2.2 (i, v) ((en_iff lv 0 (i, v)).mpr ⟨i, by simp, hi⟩)
theorem lvO.le {ls : Array Slot} {nL : Nat} {lv lv' : List (Option Value)} (h : lvO ls nL lv) (hle : ∀ (i : Nat) (v : Value), lv'[i]? = some (some v) → lv[i]? = some (some v)) : lvO ls nL lv' := by
  refine ⟨h.1, h.2.1, fun q hq => ?_⟩
  obtain ⟨k, h1, h2⟩ := (en_iff lv' 0 q).mp hq
  have h3 := h.at (hle k q.2 h2)
  rw [h1, Nat.zero_add]
  exact h3
/-- the place ahead of i holds no long or double -/
def cOk : List (Option Value) → Nat → Bool
  | _, 0 => true
  | some v :: _, 1 => v.category != 2
  | none :: _, 1 => true
  | [], _ + 1 => true
  | _ :: t, i + 2 => cOk t (i + 1)
theorem cOk_at : ∀ (lv : List (Option Value)) (j : Nat) (w : Value), cOk lv (j + 1) = true → lv[j]? = some (some w) → ¬ w.category = 2
  | [], j, w, _, h => by simp at h
  | a :: t, 0, w, hc, h => by
    simp at h
    subst h
    simpa [cOk] using hc
  | a :: t, j + 1, w, hc, h => cOk_at t j w (by simpa [cOk] using hc) (by simpa using h)
theorem lvO.put1 {ls : Array Slot} {nL : Nat} {lv : List (Option Value)} {i : Nat} {v : Value} (hc : cOk lv i = true) (h : lv_has ls nL ((i, v) :: (en 0 lv).filter (fun q => !(q.1 == i) && !(q.1 + 1 == i && q.2.category == 2)))) : lvO ls nL (lv.set i (some v)) := by
  refine ⟨h.1, h.2.1, fun q hq => ?_⟩
  obtain ⟨k, h1, h2⟩ := (en_iff _ 0 q).mp hq
  obtain ⟨a, b⟩ := q
  simp only [Nat.zero_add] at h1
  subst h1
  refine h.2.2 (a, b) ?_
  by_cases hk : a = i
  · subst hk
    have hl : a < lv.length := by
      have := (List.getElem?_eq_some_iff.mp h2).1
      simpa using this
    rw [List.getElem?_set_self hl] at h2
    cases h2
    exact List.mem_cons_self
  · rw [List.getElem?_set_ne (Ne.symm hk)] at h2
    refine List.mem_cons_of_mem _ (List.mem_filter.mpr ⟨(en_iff lv 0 (a, b)).mpr ⟨a, by simp, h2⟩, ?_⟩)
    simp only [Bool.and_eq_true, Bool.not_eq_true', beq_eq_false_iff_ne, Bool.and_eq_false_iff]
    refine ⟨hk, ?_⟩
    by_cases hk2 : a + 1 = i
    · right
      subst hk2
      exact cOk_at lv a b hc h2
    · exact Or.inl hk2
theorem lvO.put2 {ls : Array Slot} {nL : Nat} {lv : List (Option Value)} {i : Nat} {v : Value} (hc : cOk lv i = true) (h : lv_has ls nL ((i, v) :: (en 0 lv).filter (fun q => !(q.1 == i) && (!(q.1 == i + 1) && !(q.1 + 1 == i && q.2.category == 2))))) : lvO ls nL ((lv.set (i + 1) none).set i (some v)) := by
  refine ⟨h.1, h.2.1, fun q hq => ?_⟩
  obtain ⟨k, h1, h2⟩ := (en_iff _ 0 q).mp hq
  obtain ⟨a, b⟩ := q
  simp only [Nat.zero_add] at h1
  subst h1
  refine h.2.2 (a, b) ?_
  by_cases hk : a = i
  · subst hk
    have hl : a < (lv.set (a + 1) none).length := by
      have := (List.getElem?_eq_some_iff.mp h2).1
      simpa using this
    rw [List.getElem?_set_self hl] at h2
    cases h2
    exact List.mem_cons_self
  · rw [List.getElem?_set_ne (Ne.symm hk)] at h2
    by_cases hk1 : a = i + 1
    · subst hk1
      by_cases hl : i + 1 < lv.length
      · rw [List.getElem?_set_self hl] at h2
        cases h2
      · rw [List.getElem?_eq_none (by simp; omega)] at h2
        cases h2
    · rw [List.getElem?_set_ne (Ne.symm hk1)] at h2
      refine List.mem_cons_of_mem _ (List.mem_filter.mpr ⟨(en_iff lv 0 (a, b)).mpr ⟨a, by simp, h2⟩, ?_⟩)
      simp only [Bool.and_eq_true, Bool.not_eq_true', beq_eq_false_iff_ne, Bool.and_eq_false_iff]
      refine ⟨hk, hk1, ?_⟩
      by_cases hk2 : a + 1 = i
      · right
        subst hk2
        exact cOk_at lv a b hc h2
      · exact Or.inl hk2
/-! the judgement -/
def HW (g : GC) (s : State) (V : Mem) (L : LMem) (H : Heap) (locs : List Loc) : Prop := va_P (gD g) vwCl (TW g V L) H ∧ va_S (AA g) s.heap H locs
def J (p : Program) (l : Launch) (e : Env) (R : Room) (s : State) (m : MethodId) (args : Array Value) (below : List Frame) (meth : Method) (c : Code) (nL : Nat) (g : GC) (cells slots : Nat) (Q : State → Prop) (V : Mem) (L : LMem) (pc : Nat) (lv : List (Option Value)) (st : List Value) : Prop :=
  ∀ (H : Heap) (locs : List Loc) (ls : Array Slot), HW g s V L H locs → lvO ls nL lv → W p l e R s m args below meth c H locs cells slots Q (F0 m pc ls st)
def Cx (p : Program) (s : State) (args : Array Value) (m : MethodId) (meth : Method) (c : Code) (cc : ByteArray) (nL : Nat) (own : String) (ret : Option FieldType) (g : GC) : Prop :=
  p.tables.exec = Jvm.exec ∧ c.code = cc ∧ c.maxLocals = nL ∧ s.vm.findClass own = some m.cls ∧ (∀ w ∈ TG, w.before args s = true) ∧ meth.locks = false ∧ meth.sig.returnType = ret ∧ CW g s
abbrev RM (d : Nat) : Room := { frames := d, cells := 0, slots := 0, locals := 30 * d }
/-- a method's end: it answers v, the world is B, old cells stay -/
def QG (v : Option Value) (B : State → Prop) (A : Nat → Prop) : Array Value → State → Outcome → State → Prop := fun _ st oc t => (oc = .returned v ∧ B t) ∧ va_F A st t
/-- a method's contract -/
def MC (l : Launch) (y : MethodName) (b : ByteArray) (n : Nat) (ret : Option FieldType) (d : Nat) (g : GC) (V : Mem) (L : LMem) (As : List Value) (v : Option Value) (V' : Mem) (L' : LMem) : Prop :=
  Met l y (WS y b n ret) (RM d) (va_Pc As (AtW g V L)) (QG v (PW g V' L') (AA g)) 0 0 (AA g)
theorem MC.of {l : Launch} {y : MethodName} {b : ByteArray} {n : Nat} {ret : Option FieldType} {d : Nat} {g : GC} {V : Mem} {L : LMem} {As : List Value} {v : Option Value} {V' : Mem} {L' : LMem} (lv0 : List (Option Value)) (hy : plainName y.cls = true) (h0 : en 0 lv0 = lv_args 0 As) (hn : (lg_sl As).length ≤ n)
    (body : ∀ (p : Program) (e : Env) (s : State) (m : MethodId) (args : Array Value) (below : List Frame) (meth : Method) (c : Code), Cx p s args m meth c b n y.cls ret g → J p l e (RM d) s m args below meth c n g 0 0 (MQ below (QG v (PW g V' L') (AA g)) args s 0 0 (AA g)) V L 0 lv0 []) : MC l y b n ret d g V L As v V' L' := by
  refine Met.ofW (cc := b) (maxL := n) (ret := ret) hy rfl ?_
  intro p e s m args below meth c s₁ B hml hv
  obtain ⟨rfl, hP, hC⟩ := hv
  have hts0 := atoms_spec (ws := WS y b n ret) B.pre
  have hl := lv_entry As (n := n) hn
  rw [lg_entry_eq]
  refine body p e s m As.toArray below meth c ⟨B.exec, B.bytes, hml, findClass_of_methodNamed B.named, fun w hw => hts0 w (List.mem_cons_of_mem _ hw), B.notSynchronized, B.returns, hC⟩ s.heap [] _ ⟨hP, va_S.rf⟩ ?_
  show lv_has _ n (en 0 lv0)
  rw [h0]
  exact hl
section CORE
variable {p : Program} {l : Launch} {e : Env} {R : Room} {s : State} {m : MethodId} {args : Array Value} {below : List Frame} {meth : Method} {c : Code} {nL : Nat} {g : GC} {cells slots : Nat} {Q : State → Prop} {V : Mem} {L : LMem} {pc : Nat} {lv : List (Option Value)} {st : List Value} {cc : ByteArray} {own : String} {ret : Option FieldType}
theorem j_le {lv' : List (Option Value)} (hle : ∀ (i : Nat) (v : Value), lv'[i]? = some (some v) → lv[i]? = some (some v)) (k : J p l e R s m args below meth c nL g cells slots Q V L pc lv' st) : J p l e R s m args below meth c nL g cells slots Q V L pc lv st := fun H locs ls hw hl => k H locs ls hw (hl.le hle)
/-- the same memory, otherwise written -/
theorem j_mem {V' : Mem} {L' : LMem} (hV : V' = V) (hL : L' = L) (k : J p l e R s m args below meth c nL g cells slots Q V' L' pc lv st) : J p l e R s m args below meth c nL g cells slots Q V L pc lv st := by subst hV; subst hL; exact k
theorem j_iret (C : Cx p s args m meth c cc nL own (some .int) g) {v : Option Value} {V' : Mem} {L' : LMem} {x : Int32} (hd : decode cc pc = .ok (.ireturn, 1)) (hv : v = some (.int x)) (hV : V = V') (hL : L = L') : J p l e R s m args below meth c nL g cells slots (MQ below (QG v (PW g V' L') (AA g)) args s cells slots (AA g)) V L pc lv [.int x] := by
  intro H locs ls hw hl
  subst hv; subst hV; subst hL
  exact W.iret C.1 C.2.1 C.2.2.2.2.2.2.1 (fun t ht hW => ⟨⟨rfl, by show va_P _ _ _ t.heap; rw [ht]; exact hw.1⟩, hw.2.F ht⟩) hw.2.2.2 hd C.2.2.2.2.2.1
theorem j_zret (C : Cx p s args m meth c cc nL own (some .boolean) g) {v : Option Value} {V' : Mem} {L' : LMem} {x : Int32} (hd : decode cc pc = .ok (.ireturn, 1)) (hx : narrow .boolean (.int x) = .int x) (hv : v = some (.int x)) (hV : V = V') (hL : L = L') : J p l e R s m args below meth c nL g cells slots (MQ below (QG v (PW g V' L') (AA g)) args s cells slots (AA g)) V L pc lv [.int x] := by
  intro H locs ls hw hl
  subst hv; subst hV; subst hL
  exact W.zret C.1 C.2.1 C.2.2.2.2.2.2.1 hx (fun t ht hW => ⟨⟨rfl, by show va_P _ _ _ t.heap; rw [ht]; exact hw.1⟩, hw.2.F ht⟩) hw.2.2.2 hd C.2.2.2.2.2.1
theorem j_lret (C : Cx p s args m meth c cc nL own (some .long) g) {v : Option Value} {V' : Mem} {L' : LMem} {x : Int64} (hd : decode cc pc = .ok (.lreturn, 1)) (hv : v = some (.long x)) (hV : V = V') (hL : L = L') : J p l e R s m args below meth c nL g cells slots (MQ below (QG v (PW g V' L') (AA g)) args s cells slots (AA g)) V L pc lv [.long x] := by
  intro H locs ls hw hl
  subst hv; subst hV; subst hL
  exact W.lret C.1 C.2.1 C.2.2.2.2.2.2.1 (fun t ht hW => ⟨⟨rfl, by show va_P _ _ _ t.heap; rw [ht]; exact hw.1⟩, hw.2.F ht⟩) hw.2.2.2 hd C.2.2.2.2.2.1
theorem j_dret (C : Cx p s args m meth c cc nL own (some .double) g) {v : Option Value} {V' : Mem} {L' : LMem} {x : UInt64} (hd : decode cc pc = .ok (.dreturn, 1)) (hv : v = some (.double x)) (hV : V = V') (hL : L = L') : J p l e R s m args below meth c nL g cells slots (MQ below (QG v (PW g V' L') (AA g)) args s cells slots (AA g)) V L pc lv [.double x] := by
  intro H locs ls hw hl
  subst hv; subst hV; subst hL
  exact W.dret C.1 C.2.1 C.2.2.2.2.2.2.1 (fun t ht hW => ⟨⟨rfl, by show va_P _ _ _ t.heap; rw [ht]; exact hw.1⟩, hw.2.F ht⟩) hw.2.2.2 hd C.2.2.2.2.2.1
theorem j_vret (C : Cx p s args m meth c cc nL own none g) {v : Option Value} {V' : Mem} {L' : LMem} (hd : decode cc pc = .ok (.return_, 1)) (hv : v = none) (hV : V = V') (hL : L = L') : J p l e R s m args below meth c nL g cells slots (MQ below (QG v (PW g V' L') (AA g)) args s cells slots (AA g)) V L pc lv [] := by
  intro H locs ls hw hl
  subst hv; subst hV; subst hL
  exact W.vret C.1 C.2.1 C.2.2.2.2.2.2.1 (fun t ht hW => ⟨⟨rfl, by show va_P _ _ _ t.heap; rw [ht]; exact hw.1⟩, hw.2.F ht⟩) hw.2.2.2 hd C.2.2.2.2.2.1
end CORE
end
section
/-! RULES: one an instruction, over J (laid by wip/whole/rules.py) -/
def ushr32 (x y : Int32) : Int32 := (x.toUInt32 >>> (y.toUInt32 &&& Int32.toUInt32 31)).toInt32
section RULES
variable {p : Program} {l : Launch} {e : Env} {R : Room} {s : State} {m : MethodId} {args : Array Value} {below : List Frame} {meth : Method} {c : Code} {nL : Nat} {g : GC} {cells slots : Nat} {Q : State → Prop} {V : Mem} {L : LMem} {pc : Nat} {lv : List (Option Value)} {st : List Value} {cc : ByteArray} {own : String} {ret : Option FieldType}
theorem j_iconst (C : Cx p s args m meth c cc nL own ret g) {n : Int} {v : Int32} (hd : decode cc pc = .ok (.iconst n, 1)) (hv : Int32.ofInt n = v) (k : J p l e R s m args below meth c nL g cells slots Q V L (pc + 1) lv (.int v :: st)) : J p l e R s m args below meth c nL g cells slots Q V L pc lv st := fun H locs ls hw hl => lv_iconst C.1 C.2.1 hd hv (k H locs ls hw hl)
theorem j_bipush (C : Cx p s args m meth c cc nL own ret g) {n : Int} {v : Int32} (hd : decode cc pc = .ok (.bipush n, 2)) (hv : (Int8.ofInt n).toInt32 = v) (k : J p l e R s m args below meth c nL g cells slots Q V L (pc + 2) lv (.int v :: st)) : J p l e R s m args below meth c nL g cells slots Q V L pc lv st := fun H locs ls hw hl => lv_bipush C.1 C.2.1 hd hv (k H locs ls hw hl)
theorem j_sipush (C : Cx p s args m meth c cc nL own ret g) {n : Int} {v : Int32} (hd : decode cc pc = .ok (.sipush n, 3)) (hv : (Int16.ofInt n).toInt32 = v) (k : J p l e R s m args below meth c nL g cells slots Q V L (pc + 3) lv (.int v :: st)) : J p l e R s m args below meth c nL g cells slots Q V L pc lv st := fun H locs ls hw hl => lv_sipush C.1 C.2.1 hd hv (k H locs ls hw hl)
theorem j_lconst (C : Cx p s args m meth c cc nL own ret g) {n : Fin 2} {v : Int64} (hd : decode cc pc = .ok (.lconst n, 1)) (hv : Int64.ofNat (n : Nat) = v) (k : J p l e R s m args below meth c nL g cells slots Q V L (pc + 1) lv (.long v :: st)) : J p l e R s m args below meth c nL g cells slots Q V L pc lv st := fun H locs ls hw hl => lv_lconst C.1 C.2.1 hd hv (k H locs ls hw hl)
theorem j_dconst0 (C : Cx p s args m meth c cc nL own ret g) (hd : decode cc pc = .ok (.dconst 0, 1)) (k : J p l e R s m args below meth c nL g cells slots Q V L (pc + 1) lv (.double FP.dconst0 :: st)) : J p l e R s m args below meth c nL g cells slots Q V L pc lv st := fun H locs ls hw hl => lv_dconst0 C.1 C.2.1 hd (k H locs ls hw hl)
theorem j_dconst1 (C : Cx p s args m meth c cc nL own ret g) (hd : decode cc pc = .ok (.dconst 1, 1)) (k : J p l e R s m args below meth c nL g cells slots Q V L (pc + 1) lv (.double FP.dconst1 :: st)) : J p l e R s m args below meth c nL g cells slots Q V L pc lv st := fun H locs ls hw hl => lv_dconst1 C.1 C.2.1 hd (k H locs ls hw hl)
theorem j_null (C : Cx p s args m meth c cc nL own ret g) (hd : decode cc pc = .ok (.aconst_null, 1)) (k : J p l e R s m args below meth c nL g cells slots Q V L (pc + 1) lv (.null :: st)) : J p l e R s m args below meth c nL g cells slots Q V L pc lv st := fun H locs ls hw hl => lv_null C.1 C.2.1 hd (k H locs ls hw hl)
theorem j_ldc (C : Cx p s args m meth c cc nL own ret g) {v : Int32} {i : Nat} (hw0 : Cond.constant own i v ∈ TG) (hd : decode cc pc = .ok (.ldc i, 2)) (k : J p l e R s m args below meth c nL g cells slots Q V L (pc + 2) lv (.int v :: st)) : J p l e R s m args below meth c nL g cells slots Q V L pc lv st := fun H locs ls hw hl => lv_ldc C.1 C.2.1 C.2.2.2.1 (C.2.2.2.2.1 _ hw0) hd (k H locs ls hw hl)
theorem j_ldcw (C : Cx p s args m meth c cc nL own ret g) {v : Int32} {i : Nat} (hw0 : Cond.constant own i v ∈ TG) (hd : decode cc pc = .ok (.ldc_w i, 3)) (k : J p l e R s m args below meth c nL g cells slots Q V L (pc + 3) lv (.int v :: st)) : J p l e R s m args below meth c nL g cells slots Q V L pc lv st := fun H locs ls hw hl => lv_ldcw C.1 C.2.1 C.2.2.2.1 (C.2.2.2.2.1 _ hw0) hd (k H locs ls hw hl)
theorem j_ldc2 (C : Cx p s args m meth c cc nL own ret g) {v : Int64} {i : Nat} (hw0 : Cond.constantLong own i v ∈ TG) (hd : decode cc pc = .ok (.ldc2_w i, 3)) (k : J p l e R s m args below meth c nL g cells slots Q V L (pc + 3) lv (.long v :: st)) : J p l e R s m args below meth c nL g cells slots Q V L pc lv st := fun H locs ls hw hl => lv_ldc2 C.1 C.2.1 C.2.2.2.1 (C.2.2.2.2.1 _ hw0) hd (k H locs ls hw hl)
theorem j_ldc2d (C : Cx p s args m meth c cc nL own ret g) {v : UInt64} {i : Nat} (hw0 : Cond.constantDouble own i v ∈ TG) (hd : decode cc pc = .ok (.ldc2_w i, 3)) (k : J p l e R s m args below meth c nL g cells slots Q V L (pc + 3) lv (.double v :: st)) : J p l e R s m args below meth c nL g cells slots Q V L pc lv st := fun H locs ls hw hl => lv_ldc2d C.1 C.2.1 C.2.2.2.1 (C.2.2.2.2.1 _ hw0) hd (k H locs ls hw hl)
theorem j_iload_n (C : Cx p s args m meth c cc nL own ret g) {k0 : Fin 4} {i : Nat} {x : Int32} (hd : decode cc pc = .ok (.iload_n k0, 1)) (hi : (k0 : Nat) = i) (hx : lv[i]? = some (some (.int x))) (k : J p l e R s m args below meth c nL g cells slots Q V L (pc + 1) lv (.int x :: st)) : J p l e R s m args below meth c nL g cells slots Q V L pc lv st := fun H locs ls hw hl => lv_iload_n C.1 C.2.1 hd hi (hl.at hx) (k H locs ls hw hl)
theorem j_iload (C : Cx p s args m meth c cc nL own ret g) {i : Nat} {x : Int32} (hd : decode cc pc = .ok (.iload i, 2)) (hx : lv[i]? = some (some (.int x))) (k : J p l e R s m args below meth c nL g cells slots Q V L (pc + 2) lv (.int x :: st)) : J p l e R s m args below meth c nL g cells slots Q V L pc lv st := fun H locs ls hw hl => lv_iload C.1 C.2.1 hd (hl.at hx) (k H locs ls hw hl)
theorem j_lload_n (C : Cx p s args m meth c cc nL own ret g) {k0 : Fin 4} {i : Nat} {x : Int64} (hd : decode cc pc = .ok (.lload_n k0, 1)) (hi : (k0 : Nat) = i) (hx : lv[i]? = some (some (.long x))) (k : J p l e R s m args below meth c nL g cells slots Q V L (pc + 1) lv (.long x :: st)) : J p l e R s m args below meth c nL g cells slots Q V L pc lv st := fun H locs ls hw hl => lv_lload_n C.1 C.2.1 hd hi (hl.at hx) (k H locs ls hw hl)
theorem j_lload (C : Cx p s args m meth c cc nL own ret g) {i : Nat} {x : Int64} (hd : decode cc pc = .ok (.lload i, 2)) (hx : lv[i]? = some (some (.long x))) (k : J p l e R s m args below meth c nL g cells slots Q V L (pc + 2) lv (.long x :: st)) : J p l e R s m args below meth c nL g cells slots Q V L pc lv st := fun H locs ls hw hl => lv_lload C.1 C.2.1 hd (hl.at hx) (k H locs ls hw hl)
theorem j_dload_n (C : Cx p s args m meth c cc nL own ret g) {k0 : Fin 4} {i : Nat} {x : UInt64} (hd : decode cc pc = .ok (.dload_n k0, 1)) (hi : (k0 : Nat) = i) (hx : lv[i]? = some (some (.double x))) (k : J p l e R s m args below meth c nL g cells slots Q V L (pc + 1) lv (.double x :: st)) : J p l e R s m args below meth c nL g cells slots Q V L pc lv st := fun H locs ls hw hl => lv_dload_n C.1 C.2.1 hd hi (hl.at hx) (k H locs ls hw hl)
theorem j_dload (C : Cx p s args m meth c cc nL own ret g) {i : Nat} {x : UInt64} (hd : decode cc pc = .ok (.dload i, 2)) (hx : lv[i]? = some (some (.double x))) (k : J p l e R s m args below meth c nL g cells slots Q V L (pc + 2) lv (.double x :: st)) : J p l e R s m args below meth c nL g cells slots Q V L pc lv st := fun H locs ls hw hl => lv_dload C.1 C.2.1 hd (hl.at hx) (k H locs ls hw hl)
theorem j_aload_n (C : Cx p s args m meth c cc nL own ret g) {k0 : Fin 4} {i : Nat} {x : Nat} (hd : decode cc pc = .ok (.aload_n k0, 1)) (hi : (k0 : Nat) = i) (hx : lv[i]? = some (some (.ref x))) (k : J p l e R s m args below meth c nL g cells slots Q V L (pc + 1) lv (.ref x :: st)) : J p l e R s m args below meth c nL g cells slots Q V L pc lv st := fun H locs ls hw hl => lv_aload_n C.1 C.2.1 hd hi (hl.at hx) (k H locs ls hw hl)
theorem j_aload (C : Cx p s args m meth c cc nL own ret g) {i : Nat} {x : Nat} (hd : decode cc pc = .ok (.aload i, 2)) (hx : lv[i]? = some (some (.ref x))) (k : J p l e R s m args below meth c nL g cells slots Q V L (pc + 2) lv (.ref x :: st)) : J p l e R s m args below meth c nL g cells slots Q V L pc lv st := fun H locs ls hw hl => lv_aload C.1 C.2.1 hd (hl.at hx) (k H locs ls hw hl)
theorem j_aload_nN (C : Cx p s args m meth c cc nL own ret g) {k0 : Fin 4} {i : Nat} (hd : decode cc pc = .ok (.aload_n k0, 1)) (hi : (k0 : Nat) = i) (hx : lv[i]? = some (some .null)) (k : J p l e R s m args below meth c nL g cells slots Q V L (pc + 1) lv (.null :: st)) : J p l e R s m args below meth c nL g cells slots Q V L pc lv st := fun H locs ls hw hl => lv_aload_nN C.1 C.2.1 hd hi (hl.at hx) (k H locs ls hw hl)
theorem j_aloadN (C : Cx p s args m meth c cc nL own ret g) {i : Nat} (hd : decode cc pc = .ok (.aload i, 2)) (hx : lv[i]? = some (some .null)) (k : J p l e R s m args below meth c nL g cells slots Q V L (pc + 2) lv (.null :: st)) : J p l e R s m args below meth c nL g cells slots Q V L pc lv st := fun H locs ls hw hl => lv_aloadN C.1 C.2.1 hd (hl.at hx) (k H locs ls hw hl)
theorem j_istore_n (C : Cx p s args m meth c cc nL own ret g) {k0 : Fin 4} {i : Nat} {x : Int32} {lv' : List (Option Value)} (hd : decode cc pc = .ok (.istore_n k0, 1)) (hi : (k0 : Nat) = i) (hn : i < nL) (hc : cOk lv i = true) (hs : lv.set i (some (.int x)) = lv') (k : J p l e R s m args below meth c nL g cells slots Q V L (pc + 1) lv' st) : J p l e R s m args below meth c nL g cells slots Q V L pc lv (.int x :: st) := fun H locs ls hw hl => lv_istore_n C.1 C.2.1 hd hi hl hn rfl (fun ls' h' => k H locs ls' hw (by rw [← hs]; exact lvO.put1 hc h'))
theorem j_istore (C : Cx p s args m meth c cc nL own ret g) {i : Nat} {x : Int32} {lv' : List (Option Value)} (hd : decode cc pc = .ok (.istore i, 2)) (hn : i < nL) (hc : cOk lv i = true) (hs : lv.set i (some (.int x)) = lv') (k : J p l e R s m args below meth c nL g cells slots Q V L (pc + 2) lv' st) : J p l e R s m args below meth c nL g cells slots Q V L pc lv (.int x :: st) := fun H locs ls hw hl => lv_istore C.1 C.2.1 hd hl hn rfl (fun ls' h' => k H locs ls' hw (by rw [← hs]; exact lvO.put1 hc h'))
theorem j_astore_n (C : Cx p s args m meth c cc nL own ret g) {k0 : Fin 4} {i : Nat} {x : Nat} {lv' : List (Option Value)} (hd : decode cc pc = .ok (.astore_n k0, 1)) (hi : (k0 : Nat) = i) (hn : i < nL) (hc : cOk lv i = true) (hs : lv.set i (some (.ref x)) = lv') (k : J p l e R s m args below meth c nL g cells slots Q V L (pc + 1) lv' st) : J p l e R s m args below meth c nL g cells slots Q V L pc lv (.ref x :: st) := fun H locs ls hw hl => lv_astore_n C.1 C.2.1 hd hi hl hn rfl (fun ls' h' => k H locs ls' hw (by rw [← hs]; exact lvO.put1 hc h'))
theorem j_astore (C : Cx p s args m meth c cc nL own ret g) {i : Nat} {x : Nat} {lv' : List (Option Value)} (hd : decode cc pc = .ok (.astore i, 2)) (hn : i < nL) (hc : cOk lv i = true) (hs : lv.set i (some (.ref x)) = lv') (k : J p l e R s m args below meth c nL g cells slots Q V L (pc + 2) lv' st) : J p l e R s m args below meth c nL g cells slots Q V L pc lv (.ref x :: st) := fun H locs ls hw hl => lv_astore C.1 C.2.1 hd hl hn rfl (fun ls' h' => k H locs ls' hw (by rw [← hs]; exact lvO.put1 hc h'))
theorem j_astore_nN (C : Cx p s args m meth c cc nL own ret g) {k0 : Fin 4} {i : Nat} {lv' : List (Option Value)} (hd : decode cc pc = .ok (.astore_n k0, 1)) (hi : (k0 : Nat) = i) (hn : i < nL) (hc : cOk lv i = true) (hs : lv.set i (some .null) = lv') (k : J p l e R s m args below meth c nL g cells slots Q V L (pc + 1) lv' st) : J p l e R s m args below meth c nL g cells slots Q V L pc lv (.null :: st) := fun H locs ls hw hl => lv_astore_nN C.1 C.2.1 hd hi hl hn rfl (fun ls' h' => k H locs ls' hw (by rw [← hs]; exact lvO.put1 hc h'))
theorem j_astoreN (C : Cx p s args m meth c cc nL own ret g) {i : Nat} {lv' : List (Option Value)} (hd : decode cc pc = .ok (.astore i, 2)) (hn : i < nL) (hc : cOk lv i = true) (hs : lv.set i (some .null) = lv') (k : J p l e R s m args below meth c nL g cells slots Q V L (pc + 2) lv' st) : J p l e R s m args below meth c nL g cells slots Q V L pc lv (.null :: st) := fun H locs ls hw hl => lv_astoreN C.1 C.2.1 hd hl hn rfl (fun ls' h' => k H locs ls' hw (by rw [← hs]; exact lvO.put1 hc h'))
theorem j_lstore_n (C : Cx p s args m meth c cc nL own ret g) {k0 : Fin 4} {i : Nat} {x : Int64} {lv' : List (Option Value)} (hd : decode cc pc = .ok (.lstore_n k0, 1)) (hi : (k0 : Nat) = i) (hn : i + 1 < nL) (hc : cOk lv i = true) (hs : (lv.set (i + 1) none).set i (some (.long x)) = lv') (k : J p l e R s m args below meth c nL g cells slots Q V L (pc + 1) lv' st) : J p l e R s m args below meth c nL g cells slots Q V L pc lv (.long x :: st) := fun H locs ls hw hl => lv_lstore_n C.1 C.2.1 hd hi hl hn rfl (fun ls' h' => k H locs ls' hw (by rw [← hs]; exact lvO.put2 hc h'))
theorem j_lstore (C : Cx p s args m meth c cc nL own ret g) {i : Nat} {x : Int64} {lv' : List (Option Value)} (hd : decode cc pc = .ok (.lstore i, 2)) (hn : i + 1 < nL) (hc : cOk lv i = true) (hs : (lv.set (i + 1) none).set i (some (.long x)) = lv') (k : J p l e R s m args below meth c nL g cells slots Q V L (pc + 2) lv' st) : J p l e R s m args below meth c nL g cells slots Q V L pc lv (.long x :: st) := fun H locs ls hw hl => lv_lstore C.1 C.2.1 hd hl hn rfl (fun ls' h' => k H locs ls' hw (by rw [← hs]; exact lvO.put2 hc h'))
theorem j_dstore_n (C : Cx p s args m meth c cc nL own ret g) {k0 : Fin 4} {i : Nat} {x : UInt64} {lv' : List (Option Value)} (hd : decode cc pc = .ok (.dstore_n k0, 1)) (hi : (k0 : Nat) = i) (hn : i + 1 < nL) (hc : cOk lv i = true) (hs : (lv.set (i + 1) none).set i (some (.double x)) = lv') (k : J p l e R s m args below meth c nL g cells slots Q V L (pc + 1) lv' st) : J p l e R s m args below meth c nL g cells slots Q V L pc lv (.double x :: st) := fun H locs ls hw hl => lv_dstore_n C.1 C.2.1 hd hi hl hn rfl (fun ls' h' => k H locs ls' hw (by rw [← hs]; exact lvO.put2 hc h'))
theorem j_dstore (C : Cx p s args m meth c cc nL own ret g) {i : Nat} {x : UInt64} {lv' : List (Option Value)} (hd : decode cc pc = .ok (.dstore i, 2)) (hn : i + 1 < nL) (hc : cOk lv i = true) (hs : (lv.set (i + 1) none).set i (some (.double x)) = lv') (k : J p l e R s m args below meth c nL g cells slots Q V L (pc + 2) lv' st) : J p l e R s m args below meth c nL g cells slots Q V L pc lv (.double x :: st) := fun H locs ls hw hl => lv_dstore C.1 C.2.1 hd hl hn rfl (fun ls' h' => k H locs ls' hw (by rw [← hs]; exact lvO.put2 hc h'))
theorem j_iinc (C : Cx p s args m meth c cc nL own ret g) {i : Nat} {n : Int} {x v : Int32} {lv' : List (Option Value)} (hd : decode cc pc = .ok (.iinc i n, 3)) (hx : lv[i]? = some (some (.int x))) (hv : x + Int32.ofInt n = v) (hn : i < nL) (hc : cOk lv i = true) (hs : lv.set i (some (.int v)) = lv') (k : J p l e R s m args below meth c nL g cells slots Q V L (pc + 3) lv' st) : J p l e R s m args below meth c nL g cells slots Q V L pc lv st := by
  intro H locs ls hw hl
  obtain ⟨k1, hk1⟩ := List.getElem?_of_mem ((en_iff lv 0 (i, .int x)).mpr ⟨i, by simp, hx⟩)
  exact lv_iinc C.1 C.2.1 hd hl hk1 hv hn rfl (fun ls' h' => k H locs ls' hw (by rw [← hs]; exact lvO.put1 hc h'))
theorem j_iadd (C : Cx p s args m meth c cc nL own ret g) {x y : Int32} (hd : decode cc pc = .ok (.iadd, 1)) (k : J p l e R s m args below meth c nL g cells slots Q V L (pc + 1) lv (.int (x + y) :: st)) : J p l e R s m args below meth c nL g cells slots Q V L pc lv (.int y :: .int x :: st) := fun H locs ls hw hl => lv_iadd C.1 C.2.1 hd (k H locs ls hw hl)
theorem j_isub (C : Cx p s args m meth c cc nL own ret g) {x y : Int32} (hd : decode cc pc = .ok (.isub, 1)) (k : J p l e R s m args below meth c nL g cells slots Q V L (pc + 1) lv (.int (x - y) :: st)) : J p l e R s m args below meth c nL g cells slots Q V L pc lv (.int y :: .int x :: st) := fun H locs ls hw hl => lv_isub C.1 C.2.1 hd (k H locs ls hw hl)
theorem j_imul (C : Cx p s args m meth c cc nL own ret g) {x y : Int32} (hd : decode cc pc = .ok (.imul, 1)) (k : J p l e R s m args below meth c nL g cells slots Q V L (pc + 1) lv (.int (x * y) :: st)) : J p l e R s m args below meth c nL g cells slots Q V L pc lv (.int y :: .int x :: st) := fun H locs ls hw hl => lv_imul C.1 C.2.1 hd (k H locs ls hw hl)
theorem j_iand (C : Cx p s args m meth c cc nL own ret g) {x y : Int32} (hd : decode cc pc = .ok (.iand, 1)) (k : J p l e R s m args below meth c nL g cells slots Q V L (pc + 1) lv (.int (x &&& y) :: st)) : J p l e R s m args below meth c nL g cells slots Q V L pc lv (.int y :: .int x :: st) := fun H locs ls hw hl => lv_iand C.1 C.2.1 hd (k H locs ls hw hl)
theorem j_idiv (C : Cx p s args m meth c cc nL own ret g) {x y : Int32} (hd : decode cc pc = .ok (.idiv, 1)) (hne : ¬ y = 0) (k : J p l e R s m args below meth c nL g cells slots Q V L (pc + 1) lv (.int (x / y) :: st)) : J p l e R s m args below meth c nL g cells slots Q V L pc lv (.int y :: .int x :: st) := fun H locs ls hw hl => lv_idiv C.1 C.2.1 hd hne (k H locs ls hw hl)
theorem j_irem (C : Cx p s args m meth c cc nL own ret g) {x y : Int32} (hd : decode cc pc = .ok (.irem, 1)) (hne : ¬ y = 0) (k : J p l e R s m args below meth c nL g cells slots Q V L (pc + 1) lv (.int (x - x / y * y) :: st)) : J p l e R s m args below meth c nL g cells slots Q V L pc lv (.int y :: .int x :: st) := fun H locs ls hw hl => lv_irem C.1 C.2.1 hd hne (k H locs ls hw hl)
theorem j_iushr (C : Cx p s args m meth c cc nL own ret g) {x y : Int32} (hd : decode cc pc = .ok (.iushr, 1)) (k : J p l e R s m args below meth c nL g cells slots Q V L (pc + 1) lv (.int (ushr32 x y) :: st)) : J p l e R s m args below meth c nL g cells slots Q V L pc lv (.int y :: .int x :: st) := fun H locs ls hw hl => lv_iushr C.1 C.2.1 hd rfl (k H locs ls hw hl)
theorem j_ishr (C : Cx p s args m meth c cc nL own ret g) {x y : Int32} (hd : decode cc pc = .ok (.ishr, 1)) (k : J p l e R s m args below meth c nL g cells slots Q V L (pc + 1) lv (.int (x >>> (y &&& 31)) :: st)) : J p l e R s m args below meth c nL g cells slots Q V L pc lv (.int y :: .int x :: st) := fun H locs ls hw hl => lv_ishr C.1 C.2.1 hd (k H locs ls hw hl)
theorem j_lrem (C : Cx p s args m meth c cc nL own ret g) {x y : Int64} (hd : decode cc pc = .ok (.lrem, 1)) (hne : ¬ y = 0) (k : J p l e R s m args below meth c nL g cells slots Q V L (pc + 1) lv (.long (x - x / y * y) :: st)) : J p l e R s m args below meth c nL g cells slots Q V L pc lv (.long y :: .long x :: st) := fun H locs ls hw hl => lv_lrem C.1 C.2.1 hd hne (k H locs ls hw hl)
theorem j_ineg (C : Cx p s args m meth c cc nL own ret g) {x : Int32} (hd : decode cc pc = .ok (.ineg, 1)) (k : J p l e R s m args below meth c nL g cells slots Q V L (pc + 1) lv (.int (-x) :: st)) : J p l e R s m args below meth c nL g cells slots Q V L pc lv (.int x :: st) := fun H locs ls hw hl => lv_ineg C.1 C.2.1 hd (k H locs ls hw hl)
theorem j_ladd (C : Cx p s args m meth c cc nL own ret g) {x y : Int64} (hd : decode cc pc = .ok (.ladd, 1)) (k : J p l e R s m args below meth c nL g cells slots Q V L (pc + 1) lv (.long (x + y) :: st)) : J p l e R s m args below meth c nL g cells slots Q V L pc lv (.long y :: .long x :: st) := fun H locs ls hw hl => lv_ladd C.1 C.2.1 hd (k H locs ls hw hl)
theorem j_lsub (C : Cx p s args m meth c cc nL own ret g) {x y : Int64} (hd : decode cc pc = .ok (.lsub, 1)) (k : J p l e R s m args below meth c nL g cells slots Q V L (pc + 1) lv (.long (x - y) :: st)) : J p l e R s m args below meth c nL g cells slots Q V L pc lv (.long y :: .long x :: st) := fun H locs ls hw hl => lv_lsub C.1 C.2.1 hd (k H locs ls hw hl)
theorem j_lmul (C : Cx p s args m meth c cc nL own ret g) {x y : Int64} (hd : decode cc pc = .ok (.lmul, 1)) (k : J p l e R s m args below meth c nL g cells slots Q V L (pc + 1) lv (.long (x * y) :: st)) : J p l e R s m args below meth c nL g cells slots Q V L pc lv (.long y :: .long x :: st) := fun H locs ls hw hl => lv_lmul C.1 C.2.1 hd (k H locs ls hw hl)
theorem j_ldiv (C : Cx p s args m meth c cc nL own ret g) {x y : Int64} (hd : decode cc pc = .ok (.ldiv, 1)) (hne : ¬ y = 0) (k : J p l e R s m args below meth c nL g cells slots Q V L (pc + 1) lv (.long (x / y) :: st)) : J p l e R s m args below meth c nL g cells slots Q V L pc lv (.long y :: .long x :: st) := fun H locs ls hw hl => lv_ldiv C.1 C.2.1 hd hne (k H locs ls hw hl)
theorem j_ishl (C : Cx p s args m meth c cc nL own ret g) {x y : Int32} (hd : decode cc pc = .ok (.ishl, 1)) (k : J p l e R s m args below meth c nL g cells slots Q V L (pc + 1) lv (.int (x <<< (y &&& 31)) :: st)) : J p l e R s m args below meth c nL g cells slots Q V L pc lv (.int y :: .int x :: st) := fun H locs ls hw hl => lv_ishl C.1 C.2.1 hd (k H locs ls hw hl)
theorem j_lshl (C : Cx p s args m meth c cc nL own ret g) {x : Int64} {y : Int32} (hd : decode cc pc = .ok (.lshl, 1)) (k : J p l e R s m args below meth c nL g cells slots Q V L (pc + 1) lv (.long (x <<< (y.toInt64 &&& 63)) :: st)) : J p l e R s m args below meth c nL g cells slots Q V L pc lv (.int y :: .long x :: st) := fun H locs ls hw hl => lv_lshl C.1 C.2.1 hd rfl (k H locs ls hw hl)
theorem j_i2l (C : Cx p s args m meth c cc nL own ret g) {x : Int32} (hd : decode cc pc = .ok (.i2l, 1)) (k : J p l e R s m args below meth c nL g cells slots Q V L (pc + 1) lv (.long x.toInt64 :: st)) : J p l e R s m args below meth c nL g cells slots Q V L pc lv (.int x :: st) := fun H locs ls hw hl => lv_i2l C.1 C.2.1 hd rfl (k H locs ls hw hl)
theorem j_l2i (C : Cx p s args m meth c cc nL own ret g) {x : Int64} (hd : decode cc pc = .ok (.l2i, 1)) (k : J p l e R s m args below meth c nL g cells slots Q V L (pc + 1) lv (.int x.toInt32 :: st)) : J p l e R s m args below meth c nL g cells slots Q V L pc lv (.long x :: st) := fun H locs ls hw hl => lv_l2i C.1 C.2.1 hd rfl (k H locs ls hw hl)
theorem j_i2c (C : Cx p s args m meth c cc nL own ret g) {x : Int32} (hd : decode cc pc = .ok (.i2c, 1)) (k : J p l e R s m args below meth c nL g cells slots Q V L (pc + 1) lv (.int (x.toUInt32 % 65536).toInt32 :: st)) : J p l e R s m args below meth c nL g cells slots Q V L pc lv (.int x :: st) := fun H locs ls hw hl => lv_i2c C.1 C.2.1 hd rfl (k H locs ls hw hl)
theorem j_i2d (C : Cx p s args m meth c cc nL own ret g) {x : Int32} (hd : decode cc pc = .ok (.i2d, 1)) (k : J p l e R s m args below meth c nL g cells slots Q V L (pc + 1) lv (.double (FP.i2d x) :: st)) : J p l e R s m args below meth c nL g cells slots Q V L pc lv (.int x :: st) := fun H locs ls hw hl => lv_i2d C.1 C.2.1 hd (k H locs ls hw hl)
theorem j_d2l (C : Cx p s args m meth c cc nL own ret g) {x : UInt64} (hd : decode cc pc = .ok (.d2l, 1)) (k : J p l e R s m args below meth c nL g cells slots Q V L (pc + 1) lv (.long (FP.d2l x) :: st)) : J p l e R s m args below meth c nL g cells slots Q V L pc lv (.double x :: st) := fun H locs ls hw hl => lv_d2l C.1 C.2.1 hd (k H locs ls hw hl)
theorem j_dsub (C : Cx p s args m meth c cc nL own ret g) {x y z : UInt64} (hd : decode cc pc = .ok (.dsub, 1)) (hz : FP.dsub x y = z) (hne : vf_n64 z) (k : J p l e R s m args below meth c nL g cells slots Q V L (pc + 1) lv (.double z :: st)) : J p l e R s m args below meth c nL g cells slots Q V L pc lv (.double y :: .double x :: st) := fun H locs ls hw hl => (hz ▸ lv_dsub (H := H) (locs := locs) (ls := ls) (rest := st) C.1 C.2.1 hd (by rw [hz]; exact hne)) (k H locs ls hw hl)
theorem j_dmul (C : Cx p s args m meth c cc nL own ret g) {x y z : UInt64} (hd : decode cc pc = .ok (.dmul, 1)) (hz : FP.dmul x y = z) (hne : vf_n64 z) (k : J p l e R s m args below meth c nL g cells slots Q V L (pc + 1) lv (.double z :: st)) : J p l e R s m args below meth c nL g cells slots Q V L pc lv (.double y :: .double x :: st) := fun H locs ls hw hl => (hz ▸ lv_dmul (H := H) (locs := locs) (ls := ls) (rest := st) C.1 C.2.1 hd (by rw [hz]; exact hne)) (k H locs ls hw hl)
theorem j_ddiv (C : Cx p s args m meth c cc nL own ret g) {x y z : UInt64} (hd : decode cc pc = .ok (.ddiv, 1)) (hz : FP.ddiv x y = z) (hne : vf_n64 z) (k : J p l e R s m args below meth c nL g cells slots Q V L (pc + 1) lv (.double z :: st)) : J p l e R s m args below meth c nL g cells slots Q V L pc lv (.double y :: .double x :: st) := fun H locs ls hw hl => (hz ▸ lv_ddiv (H := H) (locs := locs) (ls := ls) (rest := st) C.1 C.2.1 hd (by rw [hz]; exact hne)) (k H locs ls hw hl)
theorem j_lcmp (C : Cx p s args m meth c cc nL own ret g) {x y : Int64} (hd : decode cc pc = .ok (.lcmp, 1)) (k : J p l e R s m args below meth c nL g cells slots Q V L (pc + 1) lv (.int (lg_cmp x y) :: st)) : J p l e R s m args below meth c nL g cells slots Q V L pc lv (.long y :: .long x :: st) := fun H locs ls hw hl => W.lcmp C.1 C.2.1 hd (k H locs ls hw hl)
theorem j_dcmp (C : Cx p s args m meth c cc nL own ret g) {x y : UInt64} {op : CmpOp} (hd : decode cc pc = .ok (.dcmp op, 1)) (k : J p l e R s m args below meth c nL g cells slots Q V L (pc + 1) lv (.int (Op.cmpValue (FP.dcmp x y) op) :: st)) : J p l e R s m args below meth c nL g cells slots Q V L pc lv (.double y :: .double x :: st) := fun H locs ls hw hl => lv_dcmp C.1 C.2.1 hd (k H locs ls hw hl)
theorem j_dup (C : Cx p s args m meth c cc nL own ret g) {x : Value} (hd : decode cc pc = .ok (.dup, 1)) (hx : x.category = 1) (k : J p l e R s m args below meth c nL g cells slots Q V L (pc + 1) lv (x :: x :: st)) : J p l e R s m args below meth c nL g cells slots Q V L pc lv (x :: st) := fun H locs ls hw hl => lv_dup C.1 C.2.1 hd hx (k H locs ls hw hl)
theorem j_dup2 (C : Cx p s args m meth c cc nL own ret g) {x y : Value} (hd : decode cc pc = .ok (.dup2, 1)) (hx : x.category = 1) (hy : y.category = 1) (k : J p l e R s m args below meth c nL g cells slots Q V L (pc + 1) lv (x :: y :: x :: y :: st)) : J p l e R s m args below meth c nL g cells slots Q V L pc lv (x :: y :: st) := fun H locs ls hw hl => lv_dup2_11 C.1 C.2.1 hd hx hy (k H locs ls hw hl)
theorem j_pop (C : Cx p s args m meth c cc nL own ret g) {x : Value} (hd : decode cc pc = .ok (.pop, 1)) (hx : x.category = 1) (k : J p l e R s m args below meth c nL g cells slots Q V L (pc + 1) lv st) : J p l e R s m args below meth c nL g cells slots Q V L pc lv (x :: st) := fun H locs ls hw hl => lv_pop C.1 C.2.1 hd hx (k H locs ls hw hl)
theorem j_if_eq (C : Cx p s args m meth c cc nL own ret g) {x : Int32} {off : Int} {tgt : Nat} (hd : decode cc pc = .ok (.ifCond .eq off, 3)) (ht : (pc : Int) + off = (tgt : Int)) (kt : x = 0 → J p l e R s m args below meth c nL g cells slots Q V L tgt lv st) (kf : ¬ x = 0 → J p l e R s m args below meth c nL g cells slots Q V L (pc + 3) lv st) : J p l e R s m args below meth c nL g cells slots Q V L pc lv (.int x :: st) := fun H locs ls hw hl => lv_if_eq C.1 C.2.1 hd ht (fun h => kt h H locs ls hw hl) (fun h => kf h H locs ls hw hl)
theorem j_if_ne (C : Cx p s args m meth c cc nL own ret g) {x : Int32} {off : Int} {tgt : Nat} (hd : decode cc pc = .ok (.ifCond .ne off, 3)) (ht : (pc : Int) + off = (tgt : Int)) (kt : ¬ x = 0 → J p l e R s m args below meth c nL g cells slots Q V L tgt lv st) (kf : x = 0 → J p l e R s m args below meth c nL g cells slots Q V L (pc + 3) lv st) : J p l e R s m args below meth c nL g cells slots Q V L pc lv (.int x :: st) := fun H locs ls hw hl => lv_if_ne C.1 C.2.1 hd ht (fun h => kt h H locs ls hw hl) (fun h => kf h H locs ls hw hl)
theorem j_if_lt (C : Cx p s args m meth c cc nL own ret g) {x : Int32} {off : Int} {tgt : Nat} (hd : decode cc pc = .ok (.ifCond .lt off, 3)) (ht : (pc : Int) + off = (tgt : Int)) (kt : x < 0 → J p l e R s m args below meth c nL g cells slots Q V L tgt lv st) (kf : ¬ x < 0 → J p l e R s m args below meth c nL g cells slots Q V L (pc + 3) lv st) : J p l e R s m args below meth c nL g cells slots Q V L pc lv (.int x :: st) := fun H locs ls hw hl => lv_if_lt C.1 C.2.1 hd ht (fun h => kt h H locs ls hw hl) (fun h => kf h H locs ls hw hl)
theorem j_if_ge (C : Cx p s args m meth c cc nL own ret g) {x : Int32} {off : Int} {tgt : Nat} (hd : decode cc pc = .ok (.ifCond .ge off, 3)) (ht : (pc : Int) + off = (tgt : Int)) (kt : 0 ≤ x → J p l e R s m args below meth c nL g cells slots Q V L tgt lv st) (kf : ¬ 0 ≤ x → J p l e R s m args below meth c nL g cells slots Q V L (pc + 3) lv st) : J p l e R s m args below meth c nL g cells slots Q V L pc lv (.int x :: st) := fun H locs ls hw hl => lv_if_ge C.1 C.2.1 hd ht (fun h => kt h H locs ls hw hl) (fun h => kf h H locs ls hw hl)
theorem j_if_gt (C : Cx p s args m meth c cc nL own ret g) {x : Int32} {off : Int} {tgt : Nat} (hd : decode cc pc = .ok (.ifCond .gt off, 3)) (ht : (pc : Int) + off = (tgt : Int)) (kt : 0 < x → J p l e R s m args below meth c nL g cells slots Q V L tgt lv st) (kf : ¬ 0 < x → J p l e R s m args below meth c nL g cells slots Q V L (pc + 3) lv st) : J p l e R s m args below meth c nL g cells slots Q V L pc lv (.int x :: st) := fun H locs ls hw hl => lv_if_gt C.1 C.2.1 hd ht (fun h => kt h H locs ls hw hl) (fun h => kf h H locs ls hw hl)
theorem j_if_le (C : Cx p s args m meth c cc nL own ret g) {x : Int32} {off : Int} {tgt : Nat} (hd : decode cc pc = .ok (.ifCond .le off, 3)) (ht : (pc : Int) + off = (tgt : Int)) (kt : x ≤ 0 → J p l e R s m args below meth c nL g cells slots Q V L tgt lv st) (kf : ¬ x ≤ 0 → J p l e R s m args below meth c nL g cells slots Q V L (pc + 3) lv st) : J p l e R s m args below meth c nL g cells slots Q V L pc lv (.int x :: st) := fun H locs ls hw hl => lv_if_le C.1 C.2.1 hd ht (fun h => kt h H locs ls hw hl) (fun h => kf h H locs ls hw hl)
theorem j_icmp_eq (C : Cx p s args m meth c cc nL own ret g) {x y : Int32} {off : Int} {tgt : Nat} (hd : decode cc pc = .ok (.if_icmp .eq off, 3)) (ht : (pc : Int) + off = (tgt : Int)) (kt : x = y → J p l e R s m args below meth c nL g cells slots Q V L tgt lv st) (kf : ¬ x = y → J p l e R s m args below meth c nL g cells slots Q V L (pc + 3) lv st) : J p l e R s m args below meth c nL g cells slots Q V L pc lv (.int y :: .int x :: st) := fun H locs ls hw hl => lv_icmp_eq C.1 C.2.1 hd ht (fun h => kt h H locs ls hw hl) (fun h => kf h H locs ls hw hl)
theorem j_icmp_ne (C : Cx p s args m meth c cc nL own ret g) {x y : Int32} {off : Int} {tgt : Nat} (hd : decode cc pc = .ok (.if_icmp .ne off, 3)) (ht : (pc : Int) + off = (tgt : Int)) (kt : ¬ x = y → J p l e R s m args below meth c nL g cells slots Q V L tgt lv st) (kf : x = y → J p l e R s m args below meth c nL g cells slots Q V L (pc + 3) lv st) : J p l e R s m args below meth c nL g cells slots Q V L pc lv (.int y :: .int x :: st) := fun H locs ls hw hl => lv_icmp_ne C.1 C.2.1 hd ht (fun h => kt h H locs ls hw hl) (fun h => kf h H locs ls hw hl)
theorem j_icmp_lt (C : Cx p s args m meth c cc nL own ret g) {x y : Int32} {off : Int} {tgt : Nat} (hd : decode cc pc = .ok (.if_icmp .lt off, 3)) (ht : (pc : Int) + off = (tgt : Int)) (kt : x < y → J p l e R s m args below meth c nL g cells slots Q V L tgt lv st) (kf : ¬ x < y → J p l e R s m args below meth c nL g cells slots Q V L (pc + 3) lv st) : J p l e R s m args below meth c nL g cells slots Q V L pc lv (.int y :: .int x :: st) := fun H locs ls hw hl => lv_icmp_lt C.1 C.2.1 hd ht (fun h => kt h H locs ls hw hl) (fun h => kf h H locs ls hw hl)
theorem j_icmp_ge (C : Cx p s args m meth c cc nL own ret g) {x y : Int32} {off : Int} {tgt : Nat} (hd : decode cc pc = .ok (.if_icmp .ge off, 3)) (ht : (pc : Int) + off = (tgt : Int)) (kt : y ≤ x → J p l e R s m args below meth c nL g cells slots Q V L tgt lv st) (kf : ¬ y ≤ x → J p l e R s m args below meth c nL g cells slots Q V L (pc + 3) lv st) : J p l e R s m args below meth c nL g cells slots Q V L pc lv (.int y :: .int x :: st) := fun H locs ls hw hl => lv_icmp_ge C.1 C.2.1 hd ht (fun h => kt h H locs ls hw hl) (fun h => kf h H locs ls hw hl)
theorem j_icmp_gt (C : Cx p s args m meth c cc nL own ret g) {x y : Int32} {off : Int} {tgt : Nat} (hd : decode cc pc = .ok (.if_icmp .gt off, 3)) (ht : (pc : Int) + off = (tgt : Int)) (kt : y < x → J p l e R s m args below meth c nL g cells slots Q V L tgt lv st) (kf : ¬ y < x → J p l e R s m args below meth c nL g cells slots Q V L (pc + 3) lv st) : J p l e R s m args below meth c nL g cells slots Q V L pc lv (.int y :: .int x :: st) := fun H locs ls hw hl => lv_icmp_gt C.1 C.2.1 hd ht (fun h => kt h H locs ls hw hl) (fun h => kf h H locs ls hw hl)
theorem j_icmp_le (C : Cx p s args m meth c cc nL own ret g) {x y : Int32} {off : Int} {tgt : Nat} (hd : decode cc pc = .ok (.if_icmp .le off, 3)) (ht : (pc : Int) + off = (tgt : Int)) (kt : x ≤ y → J p l e R s m args below meth c nL g cells slots Q V L tgt lv st) (kf : ¬ x ≤ y → J p l e R s m args below meth c nL g cells slots Q V L (pc + 3) lv st) : J p l e R s m args below meth c nL g cells slots Q V L pc lv (.int y :: .int x :: st) := fun H locs ls hw hl => lv_icmp_le C.1 C.2.1 hd ht (fun h => kt h H locs ls hw hl) (fun h => kf h H locs ls hw hl)
theorem j_goto (C : Cx p s args m meth c cc nL own ret g) {off : Int} {tgt : Nat} (hd : decode cc pc = .ok (.goto off, 3)) (ht : (pc : Int) + off = (tgt : Int)) (k : J p l e R s m args below meth c nL g cells slots Q V L tgt lv st) : J p l e R s m args below meth c nL g cells slots Q V L pc lv st := fun H locs ls hw hl => lv_goto C.1 C.2.1 hd ht (k H locs ls hw hl)
theorem j_ifnonnull (C : Cx p s args m meth c cc nL own ret g) {x : Nat} {off : Int} {tgt : Nat} (hd : decode cc pc = .ok (.ifnonnull off, 3)) (ht : (pc : Int) + off = (tgt : Int)) (k : J p l e R s m args below meth c nL g cells slots Q V L tgt lv st) : J p l e R s m args below meth c nL g cells slots Q V L pc lv (.ref x :: st) := fun H locs ls hw hl => lv_ifnonnull C.1 C.2.1 hd ht (k H locs ls hw hl)
theorem j_ifnonnullN (C : Cx p s args m meth c cc nL own ret g) {off : Int} (hd : decode cc pc = .ok (.ifnonnull off, 3)) (k : J p l e R s m args below meth c nL g cells slots Q V L (pc + 3) lv st) : J p l e R s m args below meth c nL g cells slots Q V L pc lv (.null :: st) := fun H locs ls hw hl => lv_ifnonnullN C.1 C.2.1 hd (k H locs ls hw hl)
theorem j_ifnull (C : Cx p s args m meth c cc nL own ret g) {x : Nat} {off : Int} (hd : decode cc pc = .ok (.ifnull off, 3)) (k : J p l e R s m args below meth c nL g cells slots Q V L (pc + 3) lv st) : J p l e R s m args below meth c nL g cells slots Q V L pc lv (.ref x :: st) := fun H locs ls hw hl => lv_ifnull C.1 C.2.1 hd (k H locs ls hw hl)
theorem j_ifnullN (C : Cx p s args m meth c cc nL own ret g) {off : Int} {tgt : Nat} (hd : decode cc pc = .ok (.ifnull off, 3)) (ht : (pc : Int) + off = (tgt : Int)) (k : J p l e R s m args below meth c nL g cells slots Q V L tgt lv st) : J p l e R s m args below meth c nL g cells slots Q V L pc lv (.null :: st) := fun H locs ls hw hl => lv_ifnullN C.1 C.2.1 hd ht (k H locs ls hw hl)
theorem j_tabIn (C : Cx p s args m meth c cc nL own ret g) {dflt lo hi : Int} {offs : Array Int} {len : Nat} {x : Int32} {off : Int} {tgt : Nat} (hd : decode cc pc = .ok (.tableswitch dflt lo hi offs, len)) (h1 : ¬ x.toInt < lo) (h2 : ¬ hi < x.toInt) (ho : offs[(x.toInt - lo).toNat]? = some off) (ht : (pc : Int) + off = (tgt : Int)) (k : J p l e R s m args below meth c nL g cells slots Q V L tgt lv st) : J p l e R s m args below meth c nL g cells slots Q V L pc lv (.int x :: st) := fun H locs ls hw hl => lv_tableIn C.1 C.2.1 hd h1 h2 ho ht (k H locs ls hw hl)
theorem j_tabOut (C : Cx p s args m meth c cc nL own ret g) {dflt lo hi : Int} {offs : Array Int} {len : Nat} {x : Int32} {tgt : Nat} (hd : decode cc pc = .ok (.tableswitch dflt lo hi offs, len)) (h : x.toInt < lo ∨ hi < x.toInt) (ht : (pc : Int) + dflt = (tgt : Int)) (k : J p l e R s m args below meth c nL g cells slots Q V L tgt lv st) : J p l e R s m args below meth c nL g cells slots Q V L pc lv (.int x :: st) := fun H locs ls hw hl => lv_tableOut C.1 C.2.1 hd h ht (k H locs ls hw hl)
theorem j_lookup (C : Cx p s args m meth c cc nL own ret g) {dflt : Int} {ps : Array (Int × Int)} {len : Nat} {x : Int32} {off : Int} {tgt : Nat} (hd : decode cc pc = .ok (.lookupswitch dflt ps, len)) (hp : (ps.toList.zip (ps.toList.drop 1)).all (fun (a, next) => a.1 < next.1) = true) (ho : Op.lookupswitch.offset ps.toList dflt x.toInt = off) (ht : (pc : Int) + off = (tgt : Int)) (k : J p l e R s m args below meth c nL g cells slots Q V L tgt lv st) : J p l e R s m args below meth c nL g cells slots Q V L pc lv (.int x :: st) := fun H locs ls hw hl => lv_lookup C.1 C.2.1 hd hp ho ht (k H locs ls hw hl)
theorem j_mmax (C : Cx p s args m meth c cc nL own ret g) {x y : Int32} {i : Nat} (h1 : Cond.methodLink own i Lib.Math.max.name ∈ TG) (h2 : Cond.static Lib.Math.max.name ∈ TG) (h3 : Cond.initialized "java/lang/Math" ∈ TG) (h4 : Cond.code Lib.Math.max.name Lib.Math.max.code 2 (some .int) ∈ TG) (hf : 1 ≤ R.frames) (ho : (st.map fun v => v.category).sum + 13 ≤ R.locals) (hc : cells ≤ R.cells) (hs : slots ≤ R.slots) (hd : decode cc pc = .ok (.invokestatic i, 3)) (k : J p l e R s m args below meth c nL g cells slots Q V L (pc + 3) lv (.int (if x < y then y else x) :: st)) : J p l e R s m args below meth c nL g cells slots Q V L pc lv (.int y :: .int x :: st) := fun H locs ls hw hl => va_mmax C.1 C.2.1 (C.2.2.1.trans hl.1.symm) C.2.2.2.1 (C.2.2.2.2.1 _ h1) (C.2.2.2.2.1 _ h2) (C.2.2.2.2.1 _ h3) (C.2.2.2.2.1 _ h4) hf ho hc hs hd (k H locs ls hw hl)
theorem j_mmin (C : Cx p s args m meth c cc nL own ret g) {x y : Int32} {i : Nat} (h1 : Cond.methodLink own i Lib.Math.min.name ∈ TG) (h2 : Cond.static Lib.Math.min.name ∈ TG) (h3 : Cond.initialized "java/lang/Math" ∈ TG) (h4 : Cond.code Lib.Math.min.name Lib.Math.min.code 2 (some .int) ∈ TG) (hf : 1 ≤ R.frames) (ho : (st.map fun v => v.category).sum + 13 ≤ R.locals) (hc : cells ≤ R.cells) (hs : slots ≤ R.slots) (hd : decode cc pc = .ok (.invokestatic i, 3)) (k : J p l e R s m args below meth c nL g cells slots Q V L (pc + 3) lv (.int (if y < x then y else x) :: st)) : J p l e R s m args below meth c nL g cells slots Q V L pc lv (.int y :: .int x :: st) := fun H locs ls hw hl => va_mmin C.1 C.2.1 (C.2.2.1.trans hl.1.symm) C.2.2.2.1 (C.2.2.2.2.1 _ h1) (C.2.2.2.2.1 _ h2) (C.2.2.2.2.1 _ h3) (C.2.2.2.2.1 _ h4) hf ho hc hs hd (k H locs ls hw hl)
def ia : Nat → Option Nat
  | 4 => some 17
  | 11 => some 4
  | 13 => some 35
  | 14 => some 24
  | 15 => some 48
  | 16 => some 24
  | _ => none
theorem ia_cell {g : GC} {V : Mem} {L : LMem} {k n c : Nat} (hk : kd k = c) (hi : ia c = some n) : k < 228 ∧ cellOf g V L k = .inl (ca g 0, n, .inl (V k)) := by
  unfold cellOf
  rw [hk]
  unfold ia at hi
  split at hi <;> first | (cases hi; exact ⟨kd_lt hk (by omega), rfl⟩) | cases hi
theorem ia_at {g : GC} {V : Mem} {L : LMem} {k n c : Nat} (hk : kd k = c) (hi : ia c = some n) : (TW g V L)[k]? = some (ad g k, .inl (ca g 0, n, .inl (V k))) := (TW_at (ia_cell (g := g) (V := V) (L := L) hk hi).1).trans (by rw [(ia_cell hk hi).2])
theorem ia_other {g : GC} {V : Mem} {L : LMem} {k i : Nat} {x : Int32} : ∀ j, j < 228 → j ≠ k → cellOf g (mset V k i x) L j = cellOf g V L j := fun j _ h => cellOf_row h
theorem rf_cell1 {g : GC} {V : Mem} {L : LMem} {k : Nat} (hk : kd k = 1) : k < 228 ∧ cellOf g V L k = .inl (ca g 2, 8, .inr (.inr (.inr (.inr (fun i => some (ad g (k + 2 + i))))))) := ⟨kd_lt hk (by omega), by unfold cellOf; rw [hk]; rfl⟩
theorem rf_cell2 {g : GC} {V : Mem} {L : LMem} {k : Nat} (hk : kd k = 2) : k < 228 ∧ cellOf g V L k = .inl (ca g 3, 12, .inr (.inr (.inr (.inr (fun i => some (ad g (k + 17 + i))))))) := ⟨kd_lt hk (by omega), by unfold cellOf; rw [hk]; rfl⟩
theorem rf_cell7 {g : GC} {V : Mem} {L : LMem} {k : Nat} (hk : kd k = 7) : k < 228 ∧ cellOf g V L k = .inl (ca g 4, 6, .inr (.inr (.inr (.inr (fun i => some (ad g (31 * (i + 1)))))))) := ⟨kd_lt hk (by omega), by unfold cellOf; rw [hk]; rfl⟩
theorem rf_at1 {g : GC} {V : Mem} {L : LMem} {k : Nat} (hk : kd k = 1) : (TW g V L)[k]? = some (ad g k, .inl (ca g 2, 8, .inr (.inr (.inr (.inr (fun i => some (ad g (k + 2 + i)))))))) := (TW_at (rf_cell1 (g := g) (V := V) (L := L) hk).1).trans (by rw [(rf_cell1 hk).2])
theorem rf_at2 {g : GC} {V : Mem} {L : LMem} {k : Nat} (hk : kd k = 2) : (TW g V L)[k]? = some (ad g k, .inl (ca g 3, 12, .inr (.inr (.inr (.inr (fun i => some (ad g (k + 17 + i)))))))) := (TW_at (rf_cell2 (g := g) (V := V) (L := L) hk).1).trans (by rw [(rf_cell2 hk).2])
theorem rf_at7 {g : GC} {V : Mem} {L : LMem} {k : Nat} (hk : kd k = 7) : (TW g V L)[k]? = some (ad g k, .inl (ca g 4, 6, .inr (.inr (.inr (.inr (fun i => some (ad g (31 * (i + 1))))))))) := (TW_at (rf_cell7 (g := g) (V := V) (L := L) hk).1).trans (by rw [(rf_cell7 hk).2])
theorem j_iald (C : Cx p s args m meth c cc nL own ret g) {k0 n0 c0 : Nat} {i : Int32} (hk : kd k0 = c0) (hi : ia c0 = some n0) (hin : vp_in i n0) (hd : decode cc pc = .ok (.iaload, 1)) (k : J p l e R s m args below meth c nL g cells slots Q V L (pc + 1) lv (.int (V k0 i.toNatClampNeg) :: st)) : J p l e R s m args below meth c nL g cells slots Q V L pc lv (.int i :: .ref (ad g k0) :: st) := fun H locs ls hw hl =>
  va_iald C.1 C.2.1 C.2.2.2.2.2.2.2.1 hw.1 k0 0 (ia_at hk hi) rfl hin hd (k H locs ls hw hl)
theorem j_ialdN (C : Cx p s args m meth c cc nL own ret g) {k0 n0 c0 a0 : Nat} {i : Int32} (hk : kd k0 = c0) (hi : ia c0 = some n0) (he : i = nI a0) (hin : a0 < n0) (hd : decode cc pc = .ok (.iaload, 1)) (k : J p l e R s m args below meth c nL g cells slots Q V L (pc + 1) lv (.int (V k0 a0) :: st)) : J p l e R s m args below meth c nL g cells slots Q V L pc lv (.int i :: .ref (ad g k0) :: st) := by
  have hn : n0 < 2 ^ 31 := by unfold ia at hi; split at hi <;> first | (cases hi; done) | (cases hi; omega)
  subst he
  refine j_iald C hk hi (vp_in_nI hin hn) hd ?_
  rw [nI_clamp (by omega)]
  exact k
theorem j_iast (C : Cx p s args m meth c cc nL own ret g) {k0 n0 c0 : Nat} {i x : Int32} (hk : kd k0 = c0) (hi : ia c0 = some n0) (hin : vp_in i n0) (hd : decode cc pc = .ok (.iastore, 1)) (k : J p l e R s m args below meth c nL g cells slots Q (mset V k0 i.toNatClampNeg x) L (pc + 1) lv st) : J p l e R s m args below meth c nL g cells slots Q V L pc lv (.int x :: .int i :: .ref (ad g k0) :: st) := by
  intro H locs ls hw hl
  obtain ⟨h1, h2⟩ := ia_cell (g := g) (V := V) (L := L) hk hi
  refine va_iast C.1 C.2.1 C.2.2.2.2.2.2.2.1 hw.1 (C.2.2.2.2.2.2.2.2.1.d V L) hw.2 k0 0 ((TW_at h1).trans (by rw [h2])) rfl hin hd (fun H1 locs1 a1 a2 a3 => k H1 locs1 ls ⟨?_, a3⟩ hl)
  rw [TW_set (V' := mset V k0 i.toNatClampNeg x) (L' := L) h1 ((ia_cell hk hi).2.trans (by rw [mset_upd])) ia_other] at a1
  exact a1
theorem j_iastN (C : Cx p s args m meth c cc nL own ret g) {k0 n0 c0 a0 : Nat} {i x : Int32} (hk : kd k0 = c0) (hi : ia c0 = some n0) (he : i = nI a0) (hin : a0 < n0) (hd : decode cc pc = .ok (.iastore, 1)) (k : J p l e R s m args below meth c nL g cells slots Q (mset V k0 a0 x) L (pc + 1) lv st) : J p l e R s m args below meth c nL g cells slots Q V L pc lv (.int x :: .int i :: .ref (ad g k0) :: st) := by
  have hn : n0 < 2 ^ 31 := by unfold ia at hi; split at hi <;> first | (cases hi; done) | (cases hi; omega)
  subst he
  refine j_iast C hk hi (vp_in_nI hin hn) hd ?_
  rw [nI_clamp (by omega)]
  exact k
theorem j_alen (C : Cx p s args m meth c cc nL own ret g) {k0 n0 c0 : Nat} {v : Int32} (hk : kd k0 = c0) (hi : ia c0 = some n0) (hv : Int32.ofNat n0 = v) (hd : decode cc pc = .ok (.arraylength, 1)) (k : J p l e R s m args below meth c nL g cells slots Q V L (pc + 1) lv (.int v :: st)) : J p l e R s m args below meth c nL g cells slots Q V L pc lv (.ref (ad g k0) :: st) := fun H locs ls hw hl =>
  va_alen C.1 C.2.1 C.2.2.2.2.2.2.2.1 hw.1 k0 0 (ia_at hk hi) (ty := .int) rfl hv hd (k H locs ls hw hl)
theorem j_alen1 (C : Cx p s args m meth c cc nL own ret g) {k0 : Nat} {v : Int32} (hk : kd k0 = 1) (hv : Int32.ofNat 8 = v) (hd : decode cc pc = .ok (.arraylength, 1)) (k : J p l e R s m args below meth c nL g cells slots Q V L (pc + 1) lv (.int v :: st)) : J p l e R s m args below meth c nL g cells slots Q V L pc lv (.ref (ad g k0) :: st) := fun H locs ls hw hl =>
  va_alen C.1 C.2.1 C.2.2.2.2.2.2.2.1 hw.1 k0 2 (rf_at1 hk) (ty := .object RX2) rfl hv hd (k H locs ls hw hl)
theorem j_aald1 (C : Cx p s args m meth c cc nL own ret g) {k0 a0 : Nat} {i : Int32} (hk : kd k0 = 1) (he : i = nI a0) (hin : a0 < 8) (hd : decode cc pc = .ok (.aaload, 1)) (k : J p l e R s m args below meth c nL g cells slots Q V L (pc + 1) lv (.ref (ad g (k0 + 2 + a0)) :: st)) : J p l e R s m args below meth c nL g cells slots Q V L pc lv (.int i :: .ref (ad g k0) :: st) := by
  intro H locs ls hw hl
  subst he
  refine va_aldq C.1 C.2.1 C.2.2.2.2.2.2.2.1 hw.1 k0 2 (rf_at1 hk) (C := RX2) rfl (vp_in_nI hin (by omega)) hd ?_
  rw [nI_clamp (by omega)]
  exact k H locs ls hw hl
theorem j_alen2 (C : Cx p s args m meth c cc nL own ret g) {k0 : Nat} {v : Int32} (hk : kd k0 = 2) (hv : Int32.ofNat 12 = v) (hd : decode cc pc = .ok (.arraylength, 1)) (k : J p l e R s m args below meth c nL g cells slots Q V L (pc + 1) lv (.int v :: st)) : J p l e R s m args below meth c nL g cells slots Q V L pc lv (.ref (ad g k0) :: st) := fun H locs ls hw hl =>
  va_alen C.1 C.2.1 C.2.2.2.2.2.2.2.1 hw.1 k0 3 (rf_at2 hk) (ty := .object RX5) rfl hv hd (k H locs ls hw hl)
theorem j_aald2 (C : Cx p s args m meth c cc nL own ret g) {k0 a0 : Nat} {i : Int32} (hk : kd k0 = 2) (he : i = nI a0) (hin : a0 < 12) (hd : decode cc pc = .ok (.aaload, 1)) (k : J p l e R s m args below meth c nL g cells slots Q V L (pc + 1) lv (.ref (ad g (k0 + 17 + a0)) :: st)) : J p l e R s m args below meth c nL g cells slots Q V L pc lv (.int i :: .ref (ad g k0) :: st) := by
  intro H locs ls hw hl
  subst he
  refine va_aldq C.1 C.2.1 C.2.2.2.2.2.2.2.1 hw.1 k0 3 (rf_at2 hk) (C := RX5) rfl (vp_in_nI hin (by omega)) hd ?_
  rw [nI_clamp (by omega)]
  exact k H locs ls hw hl
theorem j_alen7 (C : Cx p s args m meth c cc nL own ret g) {k0 : Nat} {v : Int32} (hk : kd k0 = 7) (hv : Int32.ofNat 6 = v) (hd : decode cc pc = .ok (.arraylength, 1)) (k : J p l e R s m args below meth c nL g cells slots Q V L (pc + 1) lv (.int v :: st)) : J p l e R s m args below meth c nL g cells slots Q V L pc lv (.ref (ad g k0) :: st) := fun H locs ls hw hl =>
  va_alen C.1 C.2.1 C.2.2.2.2.2.2.2.1 hw.1 k0 4 (rf_at7 hk) (ty := .object RX4) rfl hv hd (k H locs ls hw hl)
theorem j_aald7 (C : Cx p s args m meth c cc nL own ret g) {k0 a0 : Nat} {i : Int32} (hk : kd k0 = 7) (he : i = nI a0) (hin : a0 < 6) (hd : decode cc pc = .ok (.aaload, 1)) (k : J p l e R s m args below meth c nL g cells slots Q V L (pc + 1) lv (.ref (ad g (31 * (a0 + 1))) :: st)) : J p l e R s m args below meth c nL g cells slots Q V L pc lv (.int i :: .ref (ad g k0) :: st) := by
  intro H locs ls hw hl
  subst he
  refine va_aldq C.1 C.2.1 C.2.2.2.2.2.2.2.1 hw.1 k0 4 (rf_at7 hk) (C := RX4) rfl (vp_in_nI hin (by omega)) hd ?_
  rw [nI_clamp (by omega)]
  exact k H locs ls hw hl
theorem ch_cell {g : GC} {V : Mem} {L : LMem} {k : Nat} (hk : kd k = 9) : k < 228 ∧ cellOf g V L k = .inl (ca g 1, 60, .inl (V k)) := ⟨kd_lt hk (by omega), by unfold cellOf; rw [hk]; rfl⟩
theorem ch_at {g : GC} {V : Mem} {L : LMem} {k : Nat} (hk : kd k = 9) : (TW g V L)[k]? = some (ad g k, .inl (ca g 1, 60, .inl (V k))) := (TW_at (ch_cell (g := g) (V := V) (L := L) hk).1).trans (by rw [(ch_cell hk).2])
theorem j_alenC (C : Cx p s args m meth c cc nL own ret g) {k0 : Nat} {v : Int32} (hk : kd k0 = 9) (hv : Int32.ofNat 60 = v) (hd : decode cc pc = .ok (.arraylength, 1)) (k : J p l e R s m args below meth c nL g cells slots Q V L (pc + 1) lv (.int v :: st)) : J p l e R s m args below meth c nL g cells slots Q V L pc lv (.ref (ad g k0) :: st) := fun H locs ls hw hl =>
  va_alen C.1 C.2.1 C.2.2.2.2.2.2.2.1 hw.1 k0 1 (ch_at hk) (ty := .char) rfl hv hd (k H locs ls hw hl)
theorem j_cald (C : Cx p s args m meth c cc nL own ret g) {k0 a0 : Nat} {i : Int32} (hk : kd k0 = 9) (he : i = nI a0) (hin : a0 < 60) (hd : decode cc pc = .ok (.caload, 1)) (k : J p l e R s m args below meth c nL g cells slots Q V L (pc + 1) lv (.int (V k0 a0) :: st)) : J p l e R s m args below meth c nL g cells slots Q V L pc lv (.int i :: .ref (ad g k0) :: st) := by
  intro H locs ls hw hl
  subst he
  refine va_cald C.1 C.2.1 C.2.2.2.2.2.2.2.1 hw.1 k0 1 (ch_at hk) rfl (vp_in_nI hin (by omega)) hd ?_
  rw [nI_clamp (by omega)]
  exact k H locs ls hw hl
theorem j_cast (C : Cx p s args m meth c cc nL own ret g) {k0 a0 : Nat} {i x : Int32} (hk : kd k0 = 9) (he : i = nI a0) (hin : a0 < 60) (hx : vp_nar .char x = x) (hd : decode cc pc = .ok (.castore, 1)) (k : J p l e R s m args below meth c nL g cells slots Q (mset V k0 a0 x) L (pc + 1) lv st) : J p l e R s m args below meth c nL g cells slots Q V L pc lv (.int x :: .int i :: .ref (ad g k0) :: st) := by
  intro H locs ls hw hl
  subst he
  obtain ⟨h1, h2⟩ := ch_cell (g := g) (V := V) (L := L) hk
  refine va_cast C.1 C.2.1 C.2.2.2.2.2.2.2.1 hw.1 (C.2.2.2.2.2.2.2.2.1.d V L) hw.2 k0 1 ((TW_at h1).trans (by rw [h2])) rfl (vp_in_nI hin (by omega)) hd (fun H1 locs1 a1 a2 a3 => k H1 locs1 ls ⟨?_, a3⟩ hl)
  rw [nI_clamp (by omega), hx, TW_set (V' := mset V k0 a0 x) (L' := L) h1 ((ch_cell hk).2.trans (by rw [mset_upd])) ia_other] at a1
  exact a1
theorem lay_X0 : ∀ w ∈ u_ws RX0 TX0 3, w ∈ TG := fun w h => have h1 := List.all_eq_true.mp (show (u_ws RX0 TX0 3).all (fun w => decide (w ∈ lw_tbl) && goodWord w) = true by decide +kernel) w h; have h2 := (Bool.and_eq_true _ _).mp h1; TG_in (of_decide_eq_true h2.1) h2.2
theorem ob_X0 {g : GC} {V : Mem} {L : LMem} {k0 : Nat} (hk : kd k0 = 6) : k0 < 228 ∧ cellOf g V L k0 = .inr (0, [.ref (ad g 218), .int (V k0 1), .int (V k0 2)]) := ⟨kd_lt hk (by omega), by unfold cellOf; rw [hk]; rfl⟩
theorem oa_X0 {g : GC} {V : Mem} {L : LMem} {k0 : Nat} (hk : kd k0 = 6) : (TW g V L)[k0]? = some (ad g k0, .inr (0, [.ref (ad g 218), .int (V k0 1), .int (V k0 2)])) := (TW_at (ob_X0 (g := g) (V := V) (L := L) hk).1).trans (by rw [(ob_X0 hk).2])
theorem jg_History_saved (C : Cx p s args m meth c cc nL own ret g) {i0 k0 : Nat} (hk : kd k0 = 6) (hq : Cond.fieldLink own i0 RX0 "saved" "[LLeaseBook$State;" ∈ TG) (hd : decode cc pc = .ok (.getfield i0, 3)) (k : J p l e R s m args below meth c nL g cells slots Q V L (pc + 3) lv (.ref (ad g 218) :: st)) : J p l e R s m args below meth c nL g cells slots Q V L pc lv (.ref (ad g k0) :: st) := fun H locs ls hw hl => va_get (T := TX0) C.1 C.2.1 C.2.2.2.2.1 lay_X0 C.2.2.2.1 C.2.2.2.2.2.2.2.1 hw.1 k0 (oa_X0 hk) rfl 0 (by decide) (C.2.2.2.2.1 _ hq) (fun _ h9 => h9) rfl hd (k H locs ls hw hl)
theorem jg_History_oldest (C : Cx p s args m meth c cc nL own ret g) {i0 k0 : Nat} (hk : kd k0 = 6) (hq : Cond.fieldLink own i0 RX0 "oldest" "I" ∈ TG) (hd : decode cc pc = .ok (.getfield i0, 3)) (k : J p l e R s m args below meth c nL g cells slots Q V L (pc + 3) lv (.int (V k0 1) :: st)) : J p l e R s m args below meth c nL g cells slots Q V L pc lv (.ref (ad g k0) :: st) := fun H locs ls hw hl => va_get (T := TX0) C.1 C.2.1 C.2.2.2.2.1 lay_X0 C.2.2.2.1 C.2.2.2.2.2.2.2.1 hw.1 k0 (oa_X0 hk) rfl 1 (by decide) (C.2.2.2.2.1 _ hq) (fun _ h9 => h9) rfl hd (k H locs ls hw hl)
theorem jp_History_oldest (C : Cx p s args m meth c cc nL own ret g) {i0 k0 : Nat} {x : Int32} (hk : kd k0 = 6) (hq : Cond.fieldLink own i0 RX0 "oldest" "I" ∈ TG) (hd : decode cc pc = .ok (.putfield i0, 3)) (k : J p l e R s m args below meth c nL g cells slots Q (mset V k0 1 x) L (pc + 3) lv st) : J p l e R s m args below meth c nL g cells slots Q V L pc lv (.int x :: .ref (ad g k0) :: st) := by
  intro H locs ls hw hl
  refine va_put (T := TX0) (ty := .int) C.1 C.2.1 C.2.2.2.2.1 lay_X0 tyX0 tyX0_ok nmX0 C.2.2.2.1 C.2.2.2.2.2.2.2.1 hw.1 (C.2.2.2.2.2.2.2.2.1.d V L) hw.2 k0 (oa_X0 hk) rfl 1 (by decide) (C.2.2.2.2.1 _ hq) (fun _ h9 => h9) rfl (by decide +kernel) rfl rfl (Nat.le_of_ble_eq_true rfl) hd (fun H1 locs1 a1 a2 a3 => k H1 locs1 ls ⟨?_, a3⟩ hl)
  rw [TW_set (V' := mset V k0 1 x) (L' := L) (ob_X0 (g := g) (V := V) (L := L) hk).1 ?_ ia_other] at a1
  · exact a1
  · refine (ob_X0 hk).2.trans ?_
    simp [mset]
theorem jg_History_size (C : Cx p s args m meth c cc nL own ret g) {i0 k0 : Nat} (hk : kd k0 = 6) (hq : Cond.fieldLink own i0 RX0 "size" "I" ∈ TG) (hd : decode cc pc = .ok (.getfield i0, 3)) (k : J p l e R s m args below meth c nL g cells slots Q V L (pc + 3) lv (.int (V k0 2) :: st)) : J p l e R s m args below meth c nL g cells slots Q V L pc lv (.ref (ad g k0) :: st) := fun H locs ls hw hl => va_get (T := TX0) C.1 C.2.1 C.2.2.2.2.1 lay_X0 C.2.2.2.1 C.2.2.2.2.2.2.2.1 hw.1 k0 (oa_X0 hk) rfl 2 (by decide) (C.2.2.2.2.1 _ hq) (fun _ h9 => h9) rfl hd (k H locs ls hw hl)
theorem jp_History_size (C : Cx p s args m meth c cc nL own ret g) {i0 k0 : Nat} {x : Int32} (hk : kd k0 = 6) (hq : Cond.fieldLink own i0 RX0 "size" "I" ∈ TG) (hd : decode cc pc = .ok (.putfield i0, 3)) (k : J p l e R s m args below meth c nL g cells slots Q (mset V k0 2 x) L (pc + 3) lv st) : J p l e R s m args below meth c nL g cells slots Q V L pc lv (.int x :: .ref (ad g k0) :: st) := by
  intro H locs ls hw hl
  refine va_put (T := TX0) (ty := .int) C.1 C.2.1 C.2.2.2.2.1 lay_X0 tyX0 tyX0_ok nmX0 C.2.2.2.1 C.2.2.2.2.2.2.2.1 hw.1 (C.2.2.2.2.2.2.2.2.1.d V L) hw.2 k0 (oa_X0 hk) rfl 2 (by decide) (C.2.2.2.2.1 _ hq) (fun _ h9 => h9) rfl (by decide +kernel) rfl rfl (Nat.le_of_ble_eq_true rfl) hd (fun H1 locs1 a1 a2 a3 => k H1 locs1 ls ⟨?_, a3⟩ hl)
  rw [TW_set (V' := mset V k0 2 x) (L' := L) (ob_X0 (g := g) (V := V) (L := L) hk).1 ?_ ia_other] at a1
  · exact a1
  · refine (ob_X0 hk).2.trans ?_
    simp [mset]
theorem lay_X1 : ∀ w ∈ u_ws RX1 TX1 2, w ∈ TG := fun w h => have h1 := List.all_eq_true.mp (show (u_ws RX1 TX1 2).all (fun w => decide (w ∈ lw_tbl) && goodWord w) = true by decide +kernel) w h; have h2 := (Bool.and_eq_true _ _).mp h1; TG_in (of_decide_eq_true h2.1) h2.2
theorem ob_X1 {g : GC} {V : Mem} {L : LMem} {k0 : Nat} (hk : kd k0 = 8) : k0 < 228 ∧ cellOf g V L k0 = .inr (1, [.ref (ad g 220), .int (V k0 1)]) := ⟨kd_lt hk (by omega), by unfold cellOf; rw [hk]; rfl⟩
theorem oa_X1 {g : GC} {V : Mem} {L : LMem} {k0 : Nat} (hk : kd k0 = 8) : (TW g V L)[k0]? = some (ad g k0, .inr (1, [.ref (ad g 220), .int (V k0 1)])) := (TW_at (ob_X1 (g := g) (V := V) (L := L) hk).1).trans (by rw [(ob_X1 hk).2])
theorem jg_InputText_codes (C : Cx p s args m meth c cc nL own ret g) {i0 k0 : Nat} (hk : kd k0 = 8) (hq : Cond.fieldLink own i0 RX1 "codes" "[C" ∈ TG) (hd : decode cc pc = .ok (.getfield i0, 3)) (k : J p l e R s m args below meth c nL g cells slots Q V L (pc + 3) lv (.ref (ad g 220) :: st)) : J p l e R s m args below meth c nL g cells slots Q V L pc lv (.ref (ad g k0) :: st) := fun H locs ls hw hl => va_get (T := TX1) C.1 C.2.1 C.2.2.2.2.1 lay_X1 C.2.2.2.1 C.2.2.2.2.2.2.2.1 hw.1 k0 (oa_X1 hk) rfl 0 (by decide) (C.2.2.2.2.1 _ hq) (fun _ h9 => h9) rfl hd (k H locs ls hw hl)
theorem jg_InputText_length (C : Cx p s args m meth c cc nL own ret g) {i0 k0 : Nat} (hk : kd k0 = 8) (hq : Cond.fieldLink own i0 RX1 "length" "I" ∈ TG) (hd : decode cc pc = .ok (.getfield i0, 3)) (k : J p l e R s m args below meth c nL g cells slots Q V L (pc + 3) lv (.int (V k0 1) :: st)) : J p l e R s m args below meth c nL g cells slots Q V L pc lv (.ref (ad g k0) :: st) := fun H locs ls hw hl => va_get (T := TX1) C.1 C.2.1 C.2.2.2.2.1 lay_X1 C.2.2.2.1 C.2.2.2.2.2.2.2.1 hw.1 k0 (oa_X1 hk) rfl 1 (by decide) (C.2.2.2.2.1 _ hq) (fun _ h9 => h9) rfl hd (k H locs ls hw hl)
theorem jp_InputText_length (C : Cx p s args m meth c cc nL own ret g) {i0 k0 : Nat} {x : Int32} (hk : kd k0 = 8) (hq : Cond.fieldLink own i0 RX1 "length" "I" ∈ TG) (hd : decode cc pc = .ok (.putfield i0, 3)) (k : J p l e R s m args below meth c nL g cells slots Q (mset V k0 1 x) L (pc + 3) lv st) : J p l e R s m args below meth c nL g cells slots Q V L pc lv (.int x :: .ref (ad g k0) :: st) := by
  intro H locs ls hw hl
  refine va_put (T := TX1) (ty := .int) C.1 C.2.1 C.2.2.2.2.1 lay_X1 tyX1 tyX1_ok nmX1 C.2.2.2.1 C.2.2.2.2.2.2.2.1 hw.1 (C.2.2.2.2.2.2.2.2.1.d V L) hw.2 k0 (oa_X1 hk) rfl 1 (by decide) (C.2.2.2.2.1 _ hq) (fun _ h9 => h9) rfl (by decide +kernel) rfl rfl (Nat.le_of_ble_eq_true rfl) hd (fun H1 locs1 a1 a2 a3 => k H1 locs1 ls ⟨?_, a3⟩ hl)
  rw [TW_set (V' := mset V k0 1 x) (L' := L) (ob_X1 (g := g) (V := V) (L := L) hk).1 ?_ ia_other] at a1
  · exact a1
  · refine (ob_X1 hk).2.trans ?_
    simp [mset]
theorem lay_X2 : ∀ w ∈ u_ws RX2 TX2 6, w ∈ TG := fun w h => have h1 := List.all_eq_true.mp (show (u_ws RX2 TX2 6).all (fun w => decide (w ∈ lw_tbl) && goodWord w) = true by decide +kernel) w h; have h2 := (Bool.and_eq_true _ _).mp h1; TG_in (of_decide_eq_true h2.1) h2.2
theorem ob_X2 {g : GC} {V : Mem} {L : LMem} {k0 : Nat} (hk : kd k0 = 3) : k0 < 228 ∧ cellOf g V L k0 = .inr (2, [.int (V k0 0), .int (V k0 1), .int (V k0 2), .int (V k0 3), .int (V k0 4), .ref (ad g (k0 + 8))]) := ⟨kd_lt hk (by omega), by unfold cellOf; rw [hk]; rfl⟩
theorem oa_X2 {g : GC} {V : Mem} {L : LMem} {k0 : Nat} (hk : kd k0 = 3) : (TW g V L)[k0]? = some (ad g k0, .inr (2, [.int (V k0 0), .int (V k0 1), .int (V k0 2), .int (V k0 3), .int (V k0 4), .ref (ad g (k0 + 8))])) := (TW_at (ob_X2 (g := g) (V := V) (L := L) hk).1).trans (by rw [(ob_X2 hk).2])
theorem jg_Lease_payment (C : Cx p s args m meth c cc nL own ret g) {i0 k0 : Nat} (hk : kd k0 = 3) (hq : Cond.fieldLink own i0 RX2 "payment" "I" ∈ TG) (hd : decode cc pc = .ok (.getfield i0, 3)) (k : J p l e R s m args below meth c nL g cells slots Q V L (pc + 3) lv (.int (V k0 0) :: st)) : J p l e R s m args below meth c nL g cells slots Q V L pc lv (.ref (ad g k0) :: st) := fun H locs ls hw hl => va_get (T := TX2) C.1 C.2.1 C.2.2.2.2.1 lay_X2 C.2.2.2.1 C.2.2.2.2.2.2.2.1 hw.1 k0 (oa_X2 hk) rfl 0 (by decide) (C.2.2.2.2.1 _ hq) (fun _ h9 => h9) rfl hd (k H locs ls hw hl)
theorem jp_Lease_payment (C : Cx p s args m meth c cc nL own ret g) {i0 k0 : Nat} {x : Int32} (hk : kd k0 = 3) (hq : Cond.fieldLink own i0 RX2 "payment" "I" ∈ TG) (hd : decode cc pc = .ok (.putfield i0, 3)) (k : J p l e R s m args below meth c nL g cells slots Q (mset V k0 0 x) L (pc + 3) lv st) : J p l e R s m args below meth c nL g cells slots Q V L pc lv (.int x :: .ref (ad g k0) :: st) := by
  intro H locs ls hw hl
  refine va_put (T := TX2) (ty := .int) C.1 C.2.1 C.2.2.2.2.1 lay_X2 tyX2 tyX2_ok nmX2 C.2.2.2.1 C.2.2.2.2.2.2.2.1 hw.1 (C.2.2.2.2.2.2.2.2.1.d V L) hw.2 k0 (oa_X2 hk) rfl 0 (by decide) (C.2.2.2.2.1 _ hq) (fun _ h9 => h9) rfl (by decide +kernel) rfl rfl (Nat.le_of_ble_eq_true rfl) hd (fun H1 locs1 a1 a2 a3 => k H1 locs1 ls ⟨?_, a3⟩ hl)
  rw [TW_set (V' := mset V k0 0 x) (L' := L) (ob_X2 (g := g) (V := V) (L := L) hk).1 ?_ ia_other] at a1
  · exact a1
  · refine (ob_X2 hk).2.trans ?_
    simp [mset]
theorem jg_Lease_periods (C : Cx p s args m meth c cc nL own ret g) {i0 k0 : Nat} (hk : kd k0 = 3) (hq : Cond.fieldLink own i0 RX2 "periods" "I" ∈ TG) (hd : decode cc pc = .ok (.getfield i0, 3)) (k : J p l e R s m args below meth c nL g cells slots Q V L (pc + 3) lv (.int (V k0 1) :: st)) : J p l e R s m args below meth c nL g cells slots Q V L pc lv (.ref (ad g k0) :: st) := fun H locs ls hw hl => va_get (T := TX2) C.1 C.2.1 C.2.2.2.2.1 lay_X2 C.2.2.2.1 C.2.2.2.2.2.2.2.1 hw.1 k0 (oa_X2 hk) rfl 1 (by decide) (C.2.2.2.2.1 _ hq) (fun _ h9 => h9) rfl hd (k H locs ls hw hl)
theorem jp_Lease_periods (C : Cx p s args m meth c cc nL own ret g) {i0 k0 : Nat} {x : Int32} (hk : kd k0 = 3) (hq : Cond.fieldLink own i0 RX2 "periods" "I" ∈ TG) (hd : decode cc pc = .ok (.putfield i0, 3)) (k : J p l e R s m args below meth c nL g cells slots Q (mset V k0 1 x) L (pc + 3) lv st) : J p l e R s m args below meth c nL g cells slots Q V L pc lv (.int x :: .ref (ad g k0) :: st) := by
  intro H locs ls hw hl
  refine va_put (T := TX2) (ty := .int) C.1 C.2.1 C.2.2.2.2.1 lay_X2 tyX2 tyX2_ok nmX2 C.2.2.2.1 C.2.2.2.2.2.2.2.1 hw.1 (C.2.2.2.2.2.2.2.2.1.d V L) hw.2 k0 (oa_X2 hk) rfl 1 (by decide) (C.2.2.2.2.1 _ hq) (fun _ h9 => h9) rfl (by decide +kernel) rfl rfl (Nat.le_of_ble_eq_true rfl) hd (fun H1 locs1 a1 a2 a3 => k H1 locs1 ls ⟨?_, a3⟩ hl)
  rw [TW_set (V' := mset V k0 1 x) (L' := L) (ob_X2 (g := g) (V := V) (L := L) hk).1 ?_ ia_other] at a1
  · exact a1
  · refine (ob_X2 hk).2.trans ?_
    simp [mset]
theorem jg_Lease_rate (C : Cx p s args m meth c cc nL own ret g) {i0 k0 : Nat} (hk : kd k0 = 3) (hq : Cond.fieldLink own i0 RX2 "rate" "I" ∈ TG) (hd : decode cc pc = .ok (.getfield i0, 3)) (k : J p l e R s m args below meth c nL g cells slots Q V L (pc + 3) lv (.int (V k0 2) :: st)) : J p l e R s m args below meth c nL g cells slots Q V L pc lv (.ref (ad g k0) :: st) := fun H locs ls hw hl => va_get (T := TX2) C.1 C.2.1 C.2.2.2.2.1 lay_X2 C.2.2.2.1 C.2.2.2.2.2.2.2.1 hw.1 k0 (oa_X2 hk) rfl 2 (by decide) (C.2.2.2.2.1 _ hq) (fun _ h9 => h9) rfl hd (k H locs ls hw hl)
theorem jp_Lease_rate (C : Cx p s args m meth c cc nL own ret g) {i0 k0 : Nat} {x : Int32} (hk : kd k0 = 3) (hq : Cond.fieldLink own i0 RX2 "rate" "I" ∈ TG) (hd : decode cc pc = .ok (.putfield i0, 3)) (k : J p l e R s m args below meth c nL g cells slots Q (mset V k0 2 x) L (pc + 3) lv st) : J p l e R s m args below meth c nL g cells slots Q V L pc lv (.int x :: .ref (ad g k0) :: st) := by
  intro H locs ls hw hl
  refine va_put (T := TX2) (ty := .int) C.1 C.2.1 C.2.2.2.2.1 lay_X2 tyX2 tyX2_ok nmX2 C.2.2.2.1 C.2.2.2.2.2.2.2.1 hw.1 (C.2.2.2.2.2.2.2.2.1.d V L) hw.2 k0 (oa_X2 hk) rfl 2 (by decide) (C.2.2.2.2.1 _ hq) (fun _ h9 => h9) rfl (by decide +kernel) rfl rfl (Nat.le_of_ble_eq_true rfl) hd (fun H1 locs1 a1 a2 a3 => k H1 locs1 ls ⟨?_, a3⟩ hl)
  rw [TW_set (V' := mset V k0 2 x) (L' := L) (ob_X2 (g := g) (V := V) (L := L) hk).1 ?_ ia_other] at a1
  · exact a1
  · refine (ob_X2 hk).2.trans ?_
    simp [mset]
theorem jg_Lease_liability (C : Cx p s args m meth c cc nL own ret g) {i0 k0 : Nat} (hk : kd k0 = 3) (hq : Cond.fieldLink own i0 RX2 "liability" "I" ∈ TG) (hd : decode cc pc = .ok (.getfield i0, 3)) (k : J p l e R s m args below meth c nL g cells slots Q V L (pc + 3) lv (.int (V k0 3) :: st)) : J p l e R s m args below meth c nL g cells slots Q V L pc lv (.ref (ad g k0) :: st) := fun H locs ls hw hl => va_get (T := TX2) C.1 C.2.1 C.2.2.2.2.1 lay_X2 C.2.2.2.1 C.2.2.2.2.2.2.2.1 hw.1 k0 (oa_X2 hk) rfl 3 (by decide) (C.2.2.2.2.1 _ hq) (fun _ h9 => h9) rfl hd (k H locs ls hw hl)
theorem jp_Lease_liability (C : Cx p s args m meth c cc nL own ret g) {i0 k0 : Nat} {x : Int32} (hk : kd k0 = 3) (hq : Cond.fieldLink own i0 RX2 "liability" "I" ∈ TG) (hd : decode cc pc = .ok (.putfield i0, 3)) (k : J p l e R s m args below meth c nL g cells slots Q (mset V k0 3 x) L (pc + 3) lv st) : J p l e R s m args below meth c nL g cells slots Q V L pc lv (.int x :: .ref (ad g k0) :: st) := by
  intro H locs ls hw hl
  refine va_put (T := TX2) (ty := .int) C.1 C.2.1 C.2.2.2.2.1 lay_X2 tyX2 tyX2_ok nmX2 C.2.2.2.1 C.2.2.2.2.2.2.2.1 hw.1 (C.2.2.2.2.2.2.2.2.1.d V L) hw.2 k0 (oa_X2 hk) rfl 3 (by decide) (C.2.2.2.2.1 _ hq) (fun _ h9 => h9) rfl (by decide +kernel) rfl rfl (Nat.le_of_ble_eq_true rfl) hd (fun H1 locs1 a1 a2 a3 => k H1 locs1 ls ⟨?_, a3⟩ hl)
  rw [TW_set (V' := mset V k0 3 x) (L' := L) (ob_X2 (g := g) (V := V) (L := L) hk).1 ?_ ia_other] at a1
  · exact a1
  · refine (ob_X2 hk).2.trans ?_
    simp [mset]
theorem jg_Lease_asset (C : Cx p s args m meth c cc nL own ret g) {i0 k0 : Nat} (hk : kd k0 = 3) (hq : Cond.fieldLink own i0 RX2 "asset" "I" ∈ TG) (hd : decode cc pc = .ok (.getfield i0, 3)) (k : J p l e R s m args below meth c nL g cells slots Q V L (pc + 3) lv (.int (V k0 4) :: st)) : J p l e R s m args below meth c nL g cells slots Q V L pc lv (.ref (ad g k0) :: st) := fun H locs ls hw hl => va_get (T := TX2) C.1 C.2.1 C.2.2.2.2.1 lay_X2 C.2.2.2.1 C.2.2.2.2.2.2.2.1 hw.1 k0 (oa_X2 hk) rfl 4 (by decide) (C.2.2.2.2.1 _ hq) (fun _ h9 => h9) rfl hd (k H locs ls hw hl)
theorem jp_Lease_asset (C : Cx p s args m meth c cc nL own ret g) {i0 k0 : Nat} {x : Int32} (hk : kd k0 = 3) (hq : Cond.fieldLink own i0 RX2 "asset" "I" ∈ TG) (hd : decode cc pc = .ok (.putfield i0, 3)) (k : J p l e R s m args below meth c nL g cells slots Q (mset V k0 4 x) L (pc + 3) lv st) : J p l e R s m args below meth c nL g cells slots Q V L pc lv (.int x :: .ref (ad g k0) :: st) := by
  intro H locs ls hw hl
  refine va_put (T := TX2) (ty := .int) C.1 C.2.1 C.2.2.2.2.1 lay_X2 tyX2 tyX2_ok nmX2 C.2.2.2.1 C.2.2.2.2.2.2.2.1 hw.1 (C.2.2.2.2.2.2.2.2.1.d V L) hw.2 k0 (oa_X2 hk) rfl 4 (by decide) (C.2.2.2.2.1 _ hq) (fun _ h9 => h9) rfl (by decide +kernel) rfl rfl (Nat.le_of_ble_eq_true rfl) hd (fun H1 locs1 a1 a2 a3 => k H1 locs1 ls ⟨?_, a3⟩ hl)
  rw [TW_set (V' := mset V k0 4 x) (L' := L) (ob_X2 (g := g) (V := V) (L := L) hk).1 ?_ ia_other] at a1
  · exact a1
  · refine (ob_X2 hk).2.trans ?_
    simp [mset]
theorem jg_Lease_sums (C : Cx p s args m meth c cc nL own ret g) {i0 k0 : Nat} (hk : kd k0 = 3) (hq : Cond.fieldLink own i0 RX2 "sums" "[I" ∈ TG) (hd : decode cc pc = .ok (.getfield i0, 3)) (k : J p l e R s m args below meth c nL g cells slots Q V L (pc + 3) lv (.ref (ad g (k0 + 8)) :: st)) : J p l e R s m args below meth c nL g cells slots Q V L pc lv (.ref (ad g k0) :: st) := fun H locs ls hw hl => va_get (T := TX2) C.1 C.2.1 C.2.2.2.2.1 lay_X2 C.2.2.2.1 C.2.2.2.2.2.2.2.1 hw.1 k0 (oa_X2 hk) rfl 5 (by decide) (C.2.2.2.2.1 _ hq) (fun _ h9 => h9) rfl hd (k H locs ls hw hl)
theorem lay_X3 : ∀ w ∈ u_ws RX3 TX3 3, w ∈ TG := fun w h => have h1 := List.all_eq_true.mp (show (u_ws RX3 TX3 3).all (fun w => decide (w ∈ lw_tbl) && goodWord w) = true by decide +kernel) w h; have h2 := (Bool.and_eq_true _ _).mp h1; TG_in (of_decide_eq_true h2.1) h2.2
theorem ob_X3 {g : GC} {V : Mem} {L : LMem} {k0 : Nat} (hk : kd k0 = 10) : k0 < 228 ∧ cellOf g V L k0 = .inr (3, [.ref (ad g 222), .int (V k0 1), .int (V k0 2)]) := ⟨kd_lt hk (by omega), by unfold cellOf; rw [hk]; rfl⟩
theorem oa_X3 {g : GC} {V : Mem} {L : LMem} {k0 : Nat} (hk : kd k0 = 10) : (TW g V L)[k0]? = some (ad g k0, .inr (3, [.ref (ad g 222), .int (V k0 1), .int (V k0 2)])) := (TW_at (ob_X3 (g := g) (V := V) (L := L) hk).1).trans (by rw [(ob_X3 hk).2])
theorem jg_LeaseReader_numbers (C : Cx p s args m meth c cc nL own ret g) {i0 k0 : Nat} (hk : kd k0 = 10) (hq : Cond.fieldLink own i0 RX3 "numbers" "[I" ∈ TG) (hd : decode cc pc = .ok (.getfield i0, 3)) (k : J p l e R s m args below meth c nL g cells slots Q V L (pc + 3) lv (.ref (ad g 222) :: st)) : J p l e R s m args below meth c nL g cells slots Q V L pc lv (.ref (ad g k0) :: st) := fun H locs ls hw hl => va_get (T := TX3) C.1 C.2.1 C.2.2.2.2.1 lay_X3 C.2.2.2.1 C.2.2.2.2.2.2.2.1 hw.1 k0 (oa_X3 hk) rfl 0 (by decide) (C.2.2.2.2.1 _ hq) (fun _ h9 => h9) rfl hd (k H locs ls hw hl)
theorem jg_LeaseReader_part (C : Cx p s args m meth c cc nL own ret g) {i0 k0 : Nat} (hk : kd k0 = 10) (hq : Cond.fieldLink own i0 RX3 "part" "I" ∈ TG) (hd : decode cc pc = .ok (.getfield i0, 3)) (k : J p l e R s m args below meth c nL g cells slots Q V L (pc + 3) lv (.int (V k0 1) :: st)) : J p l e R s m args below meth c nL g cells slots Q V L pc lv (.ref (ad g k0) :: st) := fun H locs ls hw hl => va_get (T := TX3) C.1 C.2.1 C.2.2.2.2.1 lay_X3 C.2.2.2.1 C.2.2.2.2.2.2.2.1 hw.1 k0 (oa_X3 hk) rfl 1 (by decide) (C.2.2.2.2.1 _ hq) (fun _ h9 => h9) rfl hd (k H locs ls hw hl)
theorem jp_LeaseReader_part (C : Cx p s args m meth c cc nL own ret g) {i0 k0 : Nat} {x : Int32} (hk : kd k0 = 10) (hq : Cond.fieldLink own i0 RX3 "part" "I" ∈ TG) (hd : decode cc pc = .ok (.putfield i0, 3)) (k : J p l e R s m args below meth c nL g cells slots Q (mset V k0 1 x) L (pc + 3) lv st) : J p l e R s m args below meth c nL g cells slots Q V L pc lv (.int x :: .ref (ad g k0) :: st) := by
  intro H locs ls hw hl
  refine va_put (T := TX3) (ty := .int) C.1 C.2.1 C.2.2.2.2.1 lay_X3 tyX3 tyX3_ok nmX3 C.2.2.2.1 C.2.2.2.2.2.2.2.1 hw.1 (C.2.2.2.2.2.2.2.2.1.d V L) hw.2 k0 (oa_X3 hk) rfl 1 (by decide) (C.2.2.2.2.1 _ hq) (fun _ h9 => h9) rfl (by decide +kernel) rfl rfl (Nat.le_of_ble_eq_true rfl) hd (fun H1 locs1 a1 a2 a3 => k H1 locs1 ls ⟨?_, a3⟩ hl)
  rw [TW_set (V' := mset V k0 1 x) (L' := L) (ob_X3 (g := g) (V := V) (L := L) hk).1 ?_ ia_other] at a1
  · exact a1
  · refine (ob_X3 hk).2.trans ?_
    simp [mset]
theorem jg_LeaseReader_digits (C : Cx p s args m meth c cc nL own ret g) {i0 k0 : Nat} (hk : kd k0 = 10) (hq : Cond.fieldLink own i0 RX3 "digits" "I" ∈ TG) (hd : decode cc pc = .ok (.getfield i0, 3)) (k : J p l e R s m args below meth c nL g cells slots Q V L (pc + 3) lv (.int (V k0 2) :: st)) : J p l e R s m args below meth c nL g cells slots Q V L pc lv (.ref (ad g k0) :: st) := fun H locs ls hw hl => va_get (T := TX3) C.1 C.2.1 C.2.2.2.2.1 lay_X3 C.2.2.2.1 C.2.2.2.2.2.2.2.1 hw.1 k0 (oa_X3 hk) rfl 2 (by decide) (C.2.2.2.2.1 _ hq) (fun _ h9 => h9) rfl hd (k H locs ls hw hl)
theorem jp_LeaseReader_digits (C : Cx p s args m meth c cc nL own ret g) {i0 k0 : Nat} {x : Int32} (hk : kd k0 = 10) (hq : Cond.fieldLink own i0 RX3 "digits" "I" ∈ TG) (hd : decode cc pc = .ok (.putfield i0, 3)) (k : J p l e R s m args below meth c nL g cells slots Q (mset V k0 2 x) L (pc + 3) lv st) : J p l e R s m args below meth c nL g cells slots Q V L pc lv (.int x :: .ref (ad g k0) :: st) := by
  intro H locs ls hw hl
  refine va_put (T := TX3) (ty := .int) C.1 C.2.1 C.2.2.2.2.1 lay_X3 tyX3 tyX3_ok nmX3 C.2.2.2.1 C.2.2.2.2.2.2.2.1 hw.1 (C.2.2.2.2.2.2.2.2.1.d V L) hw.2 k0 (oa_X3 hk) rfl 2 (by decide) (C.2.2.2.2.1 _ hq) (fun _ h9 => h9) rfl (by decide +kernel) rfl rfl (Nat.le_of_ble_eq_true rfl) hd (fun H1 locs1 a1 a2 a3 => k H1 locs1 ls ⟨?_, a3⟩ hl)
  rw [TW_set (V' := mset V k0 2 x) (L' := L) (ob_X3 (g := g) (V := V) (L := L) hk).1 ?_ ia_other] at a1
  · exact a1
  · refine (ob_X3 hk).2.trans ?_
    simp [mset]
theorem lay_X4 : ∀ w ∈ u_ws RX4 TX4 5, w ∈ TG := fun w h => have h1 := List.all_eq_true.mp (show (u_ws RX4 TX4 5).all (fun w => decide (w ∈ lw_tbl) && goodWord w) = true by decide +kernel) w h; have h2 := (Bool.and_eq_true _ _).mp h1; TG_in (of_decide_eq_true h2.1) h2.2
theorem ob_X4 {g : GC} {V : Mem} {L : LMem} {k0 : Nat} (hk : kd k0 = 0) : k0 < 228 ∧ cellOf g V L k0 = .inr (4, [.ref (ad g (k0 + 1)), .ref (ad g (k0 + 2)), .int (V k0 2), .int (V k0 3), .int (V k0 4)]) := ⟨kd_lt hk (by omega), by unfold cellOf; rw [hk]; rfl⟩
theorem oa_X4 {g : GC} {V : Mem} {L : LMem} {k0 : Nat} (hk : kd k0 = 0) : (TW g V L)[k0]? = some (ad g k0, .inr (4, [.ref (ad g (k0 + 1)), .ref (ad g (k0 + 2)), .int (V k0 2), .int (V k0 3), .int (V k0 4)])) := (TW_at (ob_X4 (g := g) (V := V) (L := L) hk).1).trans (by rw [(ob_X4 hk).2])
theorem jg_State_leases (C : Cx p s args m meth c cc nL own ret g) {i0 k0 : Nat} (hk : kd k0 = 0) (hq : Cond.fieldLink own i0 RX4 "leases" "[LLeaseBook$Lease;" ∈ TG) (hd : decode cc pc = .ok (.getfield i0, 3)) (k : J p l e R s m args below meth c nL g cells slots Q V L (pc + 3) lv (.ref (ad g (k0 + 1)) :: st)) : J p l e R s m args below meth c nL g cells slots Q V L pc lv (.ref (ad g k0) :: st) := fun H locs ls hw hl => va_get (T := TX4) C.1 C.2.1 C.2.2.2.2.1 lay_X4 C.2.2.2.1 C.2.2.2.2.2.2.2.1 hw.1 k0 (oa_X4 hk) rfl 0 (by decide) (C.2.2.2.2.1 _ hq) (fun _ h9 => h9) rfl hd (k H locs ls hw hl)
theorem jg_State_subleases (C : Cx p s args m meth c cc nL own ret g) {i0 k0 : Nat} (hk : kd k0 = 0) (hq : Cond.fieldLink own i0 RX4 "subleases" "[LLeaseBook$Sublease;" ∈ TG) (hd : decode cc pc = .ok (.getfield i0, 3)) (k : J p l e R s m args below meth c nL g cells slots Q V L (pc + 3) lv (.ref (ad g (k0 + 2)) :: st)) : J p l e R s m args below meth c nL g cells slots Q V L pc lv (.ref (ad g k0) :: st) := fun H locs ls hw hl => va_get (T := TX4) C.1 C.2.1 C.2.2.2.2.1 lay_X4 C.2.2.2.1 C.2.2.2.2.2.2.2.1 hw.1 k0 (oa_X4 hk) rfl 1 (by decide) (C.2.2.2.2.1 _ hq) (fun _ h9 => h9) rfl hd (k H locs ls hw hl)
theorem jg_State_leaseCount (C : Cx p s args m meth c cc nL own ret g) {i0 k0 : Nat} (hk : kd k0 = 0) (hq : Cond.fieldLink own i0 RX4 "leaseCount" "I" ∈ TG) (hd : decode cc pc = .ok (.getfield i0, 3)) (k : J p l e R s m args below meth c nL g cells slots Q V L (pc + 3) lv (.int (V k0 2) :: st)) : J p l e R s m args below meth c nL g cells slots Q V L pc lv (.ref (ad g k0) :: st) := fun H locs ls hw hl => va_get (T := TX4) C.1 C.2.1 C.2.2.2.2.1 lay_X4 C.2.2.2.1 C.2.2.2.2.2.2.2.1 hw.1 k0 (oa_X4 hk) rfl 2 (by decide) (C.2.2.2.2.1 _ hq) (fun _ h9 => h9) rfl hd (k H locs ls hw hl)
theorem jp_State_leaseCount (C : Cx p s args m meth c cc nL own ret g) {i0 k0 : Nat} {x : Int32} (hk : kd k0 = 0) (hq : Cond.fieldLink own i0 RX4 "leaseCount" "I" ∈ TG) (hd : decode cc pc = .ok (.putfield i0, 3)) (k : J p l e R s m args below meth c nL g cells slots Q (mset V k0 2 x) L (pc + 3) lv st) : J p l e R s m args below meth c nL g cells slots Q V L pc lv (.int x :: .ref (ad g k0) :: st) := by
  intro H locs ls hw hl
  refine va_put (T := TX4) (ty := .int) C.1 C.2.1 C.2.2.2.2.1 lay_X4 tyX4 tyX4_ok nmX4 C.2.2.2.1 C.2.2.2.2.2.2.2.1 hw.1 (C.2.2.2.2.2.2.2.2.1.d V L) hw.2 k0 (oa_X4 hk) rfl 2 (by decide) (C.2.2.2.2.1 _ hq) (fun _ h9 => h9) rfl (by decide +kernel) rfl rfl (Nat.le_of_ble_eq_true rfl) hd (fun H1 locs1 a1 a2 a3 => k H1 locs1 ls ⟨?_, a3⟩ hl)
  rw [TW_set (V' := mset V k0 2 x) (L' := L) (ob_X4 (g := g) (V := V) (L := L) hk).1 ?_ ia_other] at a1
  · exact a1
  · refine (ob_X4 hk).2.trans ?_
    simp [mset]
theorem jg_State_subleaseCount (C : Cx p s args m meth c cc nL own ret g) {i0 k0 : Nat} (hk : kd k0 = 0) (hq : Cond.fieldLink own i0 RX4 "subleaseCount" "I" ∈ TG) (hd : decode cc pc = .ok (.getfield i0, 3)) (k : J p l e R s m args below meth c nL g cells slots Q V L (pc + 3) lv (.int (V k0 3) :: st)) : J p l e R s m args below meth c nL g cells slots Q V L pc lv (.ref (ad g k0) :: st) := fun H locs ls hw hl => va_get (T := TX4) C.1 C.2.1 C.2.2.2.2.1 lay_X4 C.2.2.2.1 C.2.2.2.2.2.2.2.1 hw.1 k0 (oa_X4 hk) rfl 3 (by decide) (C.2.2.2.2.1 _ hq) (fun _ h9 => h9) rfl hd (k H locs ls hw hl)
theorem jp_State_subleaseCount (C : Cx p s args m meth c cc nL own ret g) {i0 k0 : Nat} {x : Int32} (hk : kd k0 = 0) (hq : Cond.fieldLink own i0 RX4 "subleaseCount" "I" ∈ TG) (hd : decode cc pc = .ok (.putfield i0, 3)) (k : J p l e R s m args below meth c nL g cells slots Q (mset V k0 3 x) L (pc + 3) lv st) : J p l e R s m args below meth c nL g cells slots Q V L pc lv (.int x :: .ref (ad g k0) :: st) := by
  intro H locs ls hw hl
  refine va_put (T := TX4) (ty := .int) C.1 C.2.1 C.2.2.2.2.1 lay_X4 tyX4 tyX4_ok nmX4 C.2.2.2.1 C.2.2.2.2.2.2.2.1 hw.1 (C.2.2.2.2.2.2.2.2.1.d V L) hw.2 k0 (oa_X4 hk) rfl 3 (by decide) (C.2.2.2.2.1 _ hq) (fun _ h9 => h9) rfl (by decide +kernel) rfl rfl (Nat.le_of_ble_eq_true rfl) hd (fun H1 locs1 a1 a2 a3 => k H1 locs1 ls ⟨?_, a3⟩ hl)
  rw [TW_set (V' := mset V k0 3 x) (L' := L) (ob_X4 (g := g) (V := V) (L := L) hk).1 ?_ ia_other] at a1
  · exact a1
  · refine (ob_X4 hk).2.trans ?_
    simp [mset]
theorem jg_State_period (C : Cx p s args m meth c cc nL own ret g) {i0 k0 : Nat} (hk : kd k0 = 0) (hq : Cond.fieldLink own i0 RX4 "period" "I" ∈ TG) (hd : decode cc pc = .ok (.getfield i0, 3)) (k : J p l e R s m args below meth c nL g cells slots Q V L (pc + 3) lv (.int (V k0 4) :: st)) : J p l e R s m args below meth c nL g cells slots Q V L pc lv (.ref (ad g k0) :: st) := fun H locs ls hw hl => va_get (T := TX4) C.1 C.2.1 C.2.2.2.2.1 lay_X4 C.2.2.2.1 C.2.2.2.2.2.2.2.1 hw.1 k0 (oa_X4 hk) rfl 4 (by decide) (C.2.2.2.2.1 _ hq) (fun _ h9 => h9) rfl hd (k H locs ls hw hl)
theorem jp_State_period (C : Cx p s args m meth c cc nL own ret g) {i0 k0 : Nat} {x : Int32} (hk : kd k0 = 0) (hq : Cond.fieldLink own i0 RX4 "period" "I" ∈ TG) (hd : decode cc pc = .ok (.putfield i0, 3)) (k : J p l e R s m args below meth c nL g cells slots Q (mset V k0 4 x) L (pc + 3) lv st) : J p l e R s m args below meth c nL g cells slots Q V L pc lv (.int x :: .ref (ad g k0) :: st) := by
  intro H locs ls hw hl
  refine va_put (T := TX4) (ty := .int) C.1 C.2.1 C.2.2.2.2.1 lay_X4 tyX4 tyX4_ok nmX4 C.2.2.2.1 C.2.2.2.2.2.2.2.1 hw.1 (C.2.2.2.2.2.2.2.2.1.d V L) hw.2 k0 (oa_X4 hk) rfl 4 (by decide) (C.2.2.2.2.1 _ hq) (fun _ h9 => h9) rfl (by decide +kernel) rfl rfl (Nat.le_of_ble_eq_true rfl) hd (fun H1 locs1 a1 a2 a3 => k H1 locs1 ls ⟨?_, a3⟩ hl)
  rw [TW_set (V' := mset V k0 4 x) (L' := L) (ob_X4 (g := g) (V := V) (L := L) hk).1 ?_ ia_other] at a1
  · exact a1
  · refine (ob_X4 hk).2.trans ?_
    simp [mset]
theorem lay_X5 : ∀ w ∈ u_ws RX5 TX5 6, w ∈ TG := fun w h => have h1 := List.all_eq_true.mp (show (u_ws RX5 TX5 6).all (fun w => decide (w ∈ lw_tbl) && goodWord w) = true by decide +kernel) w h; have h2 := (Bool.and_eq_true _ _).mp h1; TG_in (of_decide_eq_true h2.1) h2.2
theorem ob_X5 {g : GC} {V : Mem} {L : LMem} {k0 : Nat} (hk : kd k0 = 5) : k0 < 228 ∧ cellOf g V L k0 = .inr (5, [.int (V k0 0), .int (V k0 1), .int (V k0 2), .int (V k0 3), .int (V k0 4), .int (V k0 5)]) := ⟨kd_lt hk (by omega), by unfold cellOf; rw [hk]; rfl⟩
theorem oa_X5 {g : GC} {V : Mem} {L : LMem} {k0 : Nat} (hk : kd k0 = 5) : (TW g V L)[k0]? = some (ad g k0, .inr (5, [.int (V k0 0), .int (V k0 1), .int (V k0 2), .int (V k0 3), .int (V k0 4), .int (V k0 5)])) := (TW_at (ob_X5 (g := g) (V := V) (L := L) hk).1).trans (by rw [(ob_X5 hk).2])
theorem jg_Sublease_head (C : Cx p s args m meth c cc nL own ret g) {i0 k0 : Nat} (hk : kd k0 = 5) (hq : Cond.fieldLink own i0 RX5 "head" "I" ∈ TG) (hd : decode cc pc = .ok (.getfield i0, 3)) (k : J p l e R s m args below meth c nL g cells slots Q V L (pc + 3) lv (.int (V k0 0) :: st)) : J p l e R s m args below meth c nL g cells slots Q V L pc lv (.ref (ad g k0) :: st) := fun H locs ls hw hl => va_get (T := TX5) C.1 C.2.1 C.2.2.2.2.1 lay_X5 C.2.2.2.1 C.2.2.2.2.2.2.2.1 hw.1 k0 (oa_X5 hk) rfl 0 (by decide) (C.2.2.2.2.1 _ hq) (fun _ h9 => h9) rfl hd (k H locs ls hw hl)
theorem jp_Sublease_head (C : Cx p s args m meth c cc nL own ret g) {i0 k0 : Nat} {x : Int32} (hk : kd k0 = 5) (hq : Cond.fieldLink own i0 RX5 "head" "I" ∈ TG) (hd : decode cc pc = .ok (.putfield i0, 3)) (k : J p l e R s m args below meth c nL g cells slots Q (mset V k0 0 x) L (pc + 3) lv st) : J p l e R s m args below meth c nL g cells slots Q V L pc lv (.int x :: .ref (ad g k0) :: st) := by
  intro H locs ls hw hl
  refine va_put (T := TX5) (ty := .int) C.1 C.2.1 C.2.2.2.2.1 lay_X5 tyX5 tyX5_ok nmX5 C.2.2.2.1 C.2.2.2.2.2.2.2.1 hw.1 (C.2.2.2.2.2.2.2.2.1.d V L) hw.2 k0 (oa_X5 hk) rfl 0 (by decide) (C.2.2.2.2.1 _ hq) (fun _ h9 => h9) rfl (by decide +kernel) rfl rfl (Nat.le_of_ble_eq_true rfl) hd (fun H1 locs1 a1 a2 a3 => k H1 locs1 ls ⟨?_, a3⟩ hl)
  rw [TW_set (V' := mset V k0 0 x) (L' := L) (ob_X5 (g := g) (V := V) (L := L) hk).1 ?_ ia_other] at a1
  · exact a1
  · refine (ob_X5 hk).2.trans ?_
    simp [mset]
theorem jg_Sublease_thousandths (C : Cx p s args m meth c cc nL own ret g) {i0 k0 : Nat} (hk : kd k0 = 5) (hq : Cond.fieldLink own i0 RX5 "thousandths" "I" ∈ TG) (hd : decode cc pc = .ok (.getfield i0, 3)) (k : J p l e R s m args below meth c nL g cells slots Q V L (pc + 3) lv (.int (V k0 1) :: st)) : J p l e R s m args below meth c nL g cells slots Q V L pc lv (.ref (ad g k0) :: st) := fun H locs ls hw hl => va_get (T := TX5) C.1 C.2.1 C.2.2.2.2.1 lay_X5 C.2.2.2.1 C.2.2.2.2.2.2.2.1 hw.1 k0 (oa_X5 hk) rfl 1 (by decide) (C.2.2.2.2.1 _ hq) (fun _ h9 => h9) rfl hd (k H locs ls hw hl)
theorem jp_Sublease_thousandths (C : Cx p s args m meth c cc nL own ret g) {i0 k0 : Nat} {x : Int32} (hk : kd k0 = 5) (hq : Cond.fieldLink own i0 RX5 "thousandths" "I" ∈ TG) (hd : decode cc pc = .ok (.putfield i0, 3)) (k : J p l e R s m args below meth c nL g cells slots Q (mset V k0 1 x) L (pc + 3) lv st) : J p l e R s m args below meth c nL g cells slots Q V L pc lv (.int x :: .ref (ad g k0) :: st) := by
  intro H locs ls hw hl
  refine va_put (T := TX5) (ty := .int) C.1 C.2.1 C.2.2.2.2.1 lay_X5 tyX5 tyX5_ok nmX5 C.2.2.2.1 C.2.2.2.2.2.2.2.1 hw.1 (C.2.2.2.2.2.2.2.2.1.d V L) hw.2 k0 (oa_X5 hk) rfl 1 (by decide) (C.2.2.2.2.1 _ hq) (fun _ h9 => h9) rfl (by decide +kernel) rfl rfl (Nat.le_of_ble_eq_true rfl) hd (fun H1 locs1 a1 a2 a3 => k H1 locs1 ls ⟨?_, a3⟩ hl)
  rw [TW_set (V' := mset V k0 1 x) (L' := L) (ob_X5 (g := g) (V := V) (L := L) hk).1 ?_ ia_other] at a1
  · exact a1
  · refine (ob_X5 hk).2.trans ?_
    simp [mset]
theorem jg_Sublease_receipt (C : Cx p s args m meth c cc nL own ret g) {i0 k0 : Nat} (hk : kd k0 = 5) (hq : Cond.fieldLink own i0 RX5 "receipt" "I" ∈ TG) (hd : decode cc pc = .ok (.getfield i0, 3)) (k : J p l e R s m args below meth c nL g cells slots Q V L (pc + 3) lv (.int (V k0 2) :: st)) : J p l e R s m args below meth c nL g cells slots Q V L pc lv (.ref (ad g k0) :: st) := fun H locs ls hw hl => va_get (T := TX5) C.1 C.2.1 C.2.2.2.2.1 lay_X5 C.2.2.2.1 C.2.2.2.2.2.2.2.1 hw.1 k0 (oa_X5 hk) rfl 2 (by decide) (C.2.2.2.2.1 _ hq) (fun _ h9 => h9) rfl hd (k H locs ls hw hl)
theorem jp_Sublease_receipt (C : Cx p s args m meth c cc nL own ret g) {i0 k0 : Nat} {x : Int32} (hk : kd k0 = 5) (hq : Cond.fieldLink own i0 RX5 "receipt" "I" ∈ TG) (hd : decode cc pc = .ok (.putfield i0, 3)) (k : J p l e R s m args below meth c nL g cells slots Q (mset V k0 2 x) L (pc + 3) lv st) : J p l e R s m args below meth c nL g cells slots Q V L pc lv (.int x :: .ref (ad g k0) :: st) := by
  intro H locs ls hw hl
  refine va_put (T := TX5) (ty := .int) C.1 C.2.1 C.2.2.2.2.1 lay_X5 tyX5 tyX5_ok nmX5 C.2.2.2.1 C.2.2.2.2.2.2.2.1 hw.1 (C.2.2.2.2.2.2.2.2.1.d V L) hw.2 k0 (oa_X5 hk) rfl 2 (by decide) (C.2.2.2.2.1 _ hq) (fun _ h9 => h9) rfl (by decide +kernel) rfl rfl (Nat.le_of_ble_eq_true rfl) hd (fun H1 locs1 a1 a2 a3 => k H1 locs1 ls ⟨?_, a3⟩ hl)
  rw [TW_set (V' := mset V k0 2 x) (L' := L) (ob_X5 (g := g) (V := V) (L := L) hk).1 ?_ ia_other] at a1
  · exact a1
  · refine (ob_X5 hk).2.trans ?_
    simp [mset]
theorem jg_Sublease_periods (C : Cx p s args m meth c cc nL own ret g) {i0 k0 : Nat} (hk : kd k0 = 5) (hq : Cond.fieldLink own i0 RX5 "periods" "I" ∈ TG) (hd : decode cc pc = .ok (.getfield i0, 3)) (k : J p l e R s m args below meth c nL g cells slots Q V L (pc + 3) lv (.int (V k0 3) :: st)) : J p l e R s m args below meth c nL g cells slots Q V L pc lv (.ref (ad g k0) :: st) := fun H locs ls hw hl => va_get (T := TX5) C.1 C.2.1 C.2.2.2.2.1 lay_X5 C.2.2.2.1 C.2.2.2.2.2.2.2.1 hw.1 k0 (oa_X5 hk) rfl 3 (by decide) (C.2.2.2.2.1 _ hq) (fun _ h9 => h9) rfl hd (k H locs ls hw hl)
theorem jp_Sublease_periods (C : Cx p s args m meth c cc nL own ret g) {i0 k0 : Nat} {x : Int32} (hk : kd k0 = 5) (hq : Cond.fieldLink own i0 RX5 "periods" "I" ∈ TG) (hd : decode cc pc = .ok (.putfield i0, 3)) (k : J p l e R s m args below meth c nL g cells slots Q (mset V k0 3 x) L (pc + 3) lv st) : J p l e R s m args below meth c nL g cells slots Q V L pc lv (.int x :: .ref (ad g k0) :: st) := by
  intro H locs ls hw hl
  refine va_put (T := TX5) (ty := .int) C.1 C.2.1 C.2.2.2.2.1 lay_X5 tyX5 tyX5_ok nmX5 C.2.2.2.1 C.2.2.2.2.2.2.2.1 hw.1 (C.2.2.2.2.2.2.2.2.1.d V L) hw.2 k0 (oa_X5 hk) rfl 3 (by decide) (C.2.2.2.2.1 _ hq) (fun _ h9 => h9) rfl (by decide +kernel) rfl rfl (Nat.le_of_ble_eq_true rfl) hd (fun H1 locs1 a1 a2 a3 => k H1 locs1 ls ⟨?_, a3⟩ hl)
  rw [TW_set (V' := mset V k0 3 x) (L' := L) (ob_X5 (g := g) (V := V) (L := L) hk).1 ?_ ia_other] at a1
  · exact a1
  · refine (ob_X5 hk).2.trans ?_
    simp [mset]
theorem jg_Sublease_rate (C : Cx p s args m meth c cc nL own ret g) {i0 k0 : Nat} (hk : kd k0 = 5) (hq : Cond.fieldLink own i0 RX5 "rate" "I" ∈ TG) (hd : decode cc pc = .ok (.getfield i0, 3)) (k : J p l e R s m args below meth c nL g cells slots Q V L (pc + 3) lv (.int (V k0 4) :: st)) : J p l e R s m args below meth c nL g cells slots Q V L pc lv (.ref (ad g k0) :: st) := fun H locs ls hw hl => va_get (T := TX5) C.1 C.2.1 C.2.2.2.2.1 lay_X5 C.2.2.2.1 C.2.2.2.2.2.2.2.1 hw.1 k0 (oa_X5 hk) rfl 4 (by decide) (C.2.2.2.2.1 _ hq) (fun _ h9 => h9) rfl hd (k H locs ls hw hl)
theorem jp_Sublease_rate (C : Cx p s args m meth c cc nL own ret g) {i0 k0 : Nat} {x : Int32} (hk : kd k0 = 5) (hq : Cond.fieldLink own i0 RX5 "rate" "I" ∈ TG) (hd : decode cc pc = .ok (.putfield i0, 3)) (k : J p l e R s m args below meth c nL g cells slots Q (mset V k0 4 x) L (pc + 3) lv st) : J p l e R s m args below meth c nL g cells slots Q V L pc lv (.int x :: .ref (ad g k0) :: st) := by
  intro H locs ls hw hl
  refine va_put (T := TX5) (ty := .int) C.1 C.2.1 C.2.2.2.2.1 lay_X5 tyX5 tyX5_ok nmX5 C.2.2.2.1 C.2.2.2.2.2.2.2.1 hw.1 (C.2.2.2.2.2.2.2.2.1.d V L) hw.2 k0 (oa_X5 hk) rfl 4 (by decide) (C.2.2.2.2.1 _ hq) (fun _ h9 => h9) rfl (by decide +kernel) rfl rfl (Nat.le_of_ble_eq_true rfl) hd (fun H1 locs1 a1 a2 a3 => k H1 locs1 ls ⟨?_, a3⟩ hl)
  rw [TW_set (V' := mset V k0 4 x) (L' := L) (ob_X5 (g := g) (V := V) (L := L) hk).1 ?_ ia_other] at a1
  · exact a1
  · refine (ob_X5 hk).2.trans ?_
    simp [mset]
theorem jg_Sublease_receivable (C : Cx p s args m meth c cc nL own ret g) {i0 k0 : Nat} (hk : kd k0 = 5) (hq : Cond.fieldLink own i0 RX5 "receivable" "I" ∈ TG) (hd : decode cc pc = .ok (.getfield i0, 3)) (k : J p l e R s m args below meth c nL g cells slots Q V L (pc + 3) lv (.int (V k0 5) :: st)) : J p l e R s m args below meth c nL g cells slots Q V L pc lv (.ref (ad g k0) :: st) := fun H locs ls hw hl => va_get (T := TX5) C.1 C.2.1 C.2.2.2.2.1 lay_X5 C.2.2.2.1 C.2.2.2.2.2.2.2.1 hw.1 k0 (oa_X5 hk) rfl 5 (by decide) (C.2.2.2.2.1 _ hq) (fun _ h9 => h9) rfl hd (k H locs ls hw hl)
theorem jp_Sublease_receivable (C : Cx p s args m meth c cc nL own ret g) {i0 k0 : Nat} {x : Int32} (hk : kd k0 = 5) (hq : Cond.fieldLink own i0 RX5 "receivable" "I" ∈ TG) (hd : decode cc pc = .ok (.putfield i0, 3)) (k : J p l e R s m args below meth c nL g cells slots Q (mset V k0 5 x) L (pc + 3) lv st) : J p l e R s m args below meth c nL g cells slots Q V L pc lv (.int x :: .ref (ad g k0) :: st) := by
  intro H locs ls hw hl
  refine va_put (T := TX5) (ty := .int) C.1 C.2.1 C.2.2.2.2.1 lay_X5 tyX5 tyX5_ok nmX5 C.2.2.2.1 C.2.2.2.2.2.2.2.1 hw.1 (C.2.2.2.2.2.2.2.2.1.d V L) hw.2 k0 (oa_X5 hk) rfl 5 (by decide) (C.2.2.2.2.1 _ hq) (fun _ h9 => h9) rfl (by decide +kernel) rfl rfl (Nat.le_of_ble_eq_true rfl) hd (fun H1 locs1 a1 a2 a3 => k H1 locs1 ls ⟨?_, a3⟩ hl)
  rw [TW_set (V' := mset V k0 5 x) (L' := L) (ob_X5 (g := g) (V := V) (L := L) hk).1 ?_ ia_other] at a1
  · exact a1
  · refine (ob_X5 hk).2.trans ?_
    simp [mset]
theorem lay_X6 : ∀ w ∈ u_ws RX6 TX6 4, w ∈ TG := fun w h => have h1 := List.all_eq_true.mp (show (u_ws RX6 TX6 4).all (fun w => decide (w ∈ lw_tbl) && goodWord w) = true by decide +kernel) w h; have h2 := (Bool.and_eq_true _ _).mp h1; TG_in (of_decide_eq_true h2.1) h2.2
theorem ob_X6 {g : GC} {V : Mem} {L : LMem} {k0 : Nat} (hk : kd k0 = 12) : k0 < 228 ∧ cellOf g V L k0 = .inr (6, [.ref (ad g 0), .ref (ad g 217), .ref (ad g 219), .ref (ad g 221)]) := ⟨kd_lt hk (by omega), by unfold cellOf; rw [hk]; rfl⟩
theorem oa_X6 {g : GC} {V : Mem} {L : LMem} {k0 : Nat} (hk : kd k0 = 12) : (TW g V L)[k0]? = some (ad g k0, .inr (6, [.ref (ad g 0), .ref (ad g 217), .ref (ad g 219), .ref (ad g 221)])) := (TW_at (ob_X6 (g := g) (V := V) (L := L) hk).1).trans (by rw [(ob_X6 hk).2])
theorem jg_LeaseBook_now (C : Cx p s args m meth c cc nL own ret g) {i0 k0 : Nat} (hk : kd k0 = 12) (hq : Cond.fieldLink own i0 RX6 "now" "LLeaseBook$State;" ∈ TG) (hd : decode cc pc = .ok (.getfield i0, 3)) (k : J p l e R s m args below meth c nL g cells slots Q V L (pc + 3) lv (.ref (ad g 0) :: st)) : J p l e R s m args below meth c nL g cells slots Q V L pc lv (.ref (ad g k0) :: st) := fun H locs ls hw hl => va_get (T := TX6) C.1 C.2.1 C.2.2.2.2.1 lay_X6 C.2.2.2.1 C.2.2.2.2.2.2.2.1 hw.1 k0 (oa_X6 hk) rfl 0 (by decide) (C.2.2.2.2.1 _ hq) (fun _ h9 => h9) rfl hd (k H locs ls hw hl)
theorem jg_LeaseBook_history (C : Cx p s args m meth c cc nL own ret g) {i0 k0 : Nat} (hk : kd k0 = 12) (hq : Cond.fieldLink own i0 RX6 "history" "LLeaseBook$History;" ∈ TG) (hd : decode cc pc = .ok (.getfield i0, 3)) (k : J p l e R s m args below meth c nL g cells slots Q V L (pc + 3) lv (.ref (ad g 217) :: st)) : J p l e R s m args below meth c nL g cells slots Q V L pc lv (.ref (ad g k0) :: st) := fun H locs ls hw hl => va_get (T := TX6) C.1 C.2.1 C.2.2.2.2.1 lay_X6 C.2.2.2.1 C.2.2.2.2.2.2.2.1 hw.1 k0 (oa_X6 hk) rfl 1 (by decide) (C.2.2.2.2.1 _ hq) (fun _ h9 => h9) rfl hd (k H locs ls hw hl)
theorem jg_LeaseBook_text (C : Cx p s args m meth c cc nL own ret g) {i0 k0 : Nat} (hk : kd k0 = 12) (hq : Cond.fieldLink own i0 RX6 "text" "LLeaseBook$InputText;" ∈ TG) (hd : decode cc pc = .ok (.getfield i0, 3)) (k : J p l e R s m args below meth c nL g cells slots Q V L (pc + 3) lv (.ref (ad g 219) :: st)) : J p l e R s m args below meth c nL g cells slots Q V L pc lv (.ref (ad g k0) :: st) := fun H locs ls hw hl => va_get (T := TX6) C.1 C.2.1 C.2.2.2.2.1 lay_X6 C.2.2.2.1 C.2.2.2.2.2.2.2.1 hw.1 k0 (oa_X6 hk) rfl 2 (by decide) (C.2.2.2.2.1 _ hq) (fun _ h9 => h9) rfl hd (k H locs ls hw hl)
theorem jg_LeaseBook_reader (C : Cx p s args m meth c cc nL own ret g) {i0 k0 : Nat} (hk : kd k0 = 12) (hq : Cond.fieldLink own i0 RX6 "reader" "LLeaseBook$LeaseReader;" ∈ TG) (hd : decode cc pc = .ok (.getfield i0, 3)) (k : J p l e R s m args below meth c nL g cells slots Q V L (pc + 3) lv (.ref (ad g 221) :: st)) : J p l e R s m args below meth c nL g cells slots Q V L pc lv (.ref (ad g k0) :: st) := fun H locs ls hw hl => va_get (T := TX6) C.1 C.2.1 C.2.2.2.2.1 lay_X6 C.2.2.2.1 C.2.2.2.2.2.2.2.1 hw.1 k0 (oa_X6 hk) rfl 3 (by decide) (C.2.2.2.2.1 _ hq) (fun _ h9 => h9) rfl hd (k H locs ls hw hl)
end RULES
end
section
/-! WORDS: the tables' words by their places (laid by wip/whole/words.py) -/
theorem qs_X6_demandLease : Cond.selects RX6 yX6_demandLease yX6_demandLease ∈ TG := TG_ix 1 (by decide +kernel) (by decide +kernel)
theorem qn_L : Cond.initialized RL ∈ TG := TG_ix 2 (by decide +kernel) (by decide +kernel)
theorem qn_X6 : Cond.initialized RX6 ∈ TG := TG_ix 3 (by decide +kernel) (by decide +kernel)
theorem qn_X4 : Cond.initialized RX4 ∈ TG := TG_ix 4 (by decide +kernel) (by decide +kernel)
theorem qn_X2 : Cond.initialized RX2 ∈ TG := TG_ix 5 (by decide +kernel) (by decide +kernel)
theorem qn_X5 : Cond.initialized RX5 ∈ TG := TG_ix 6 (by decide +kernel) (by decide +kernel)
theorem qn_X0 : Cond.initialized RX0 ∈ TG := TG_ix 7 (by decide +kernel) (by decide +kernel)
theorem qn_X1 : Cond.initialized RX1 ∈ TG := TG_ix 8 (by decide +kernel) (by decide +kernel)
theorem qn_X3 : Cond.initialized RX3 ∈ TG := TG_ix 9 (by decide +kernel) (by decide +kernel)
theorem qn_java_lang_Throwable : Cond.initialized "java/lang/Throwable" ∈ TG := TG_ix 10 (by decide +kernel) (by decide +kernel)
theorem qn_java_lang_Exception : Cond.initialized "java/lang/Exception" ∈ TG := TG_ix 11 (by decide +kernel) (by decide +kernel)
theorem qn_java_lang_RuntimeException : Cond.initialized "java/lang/RuntimeException" ∈ TG := TG_ix 12 (by decide +kernel) (by decide +kernel)
theorem qn_java_lang_IllegalArgumentException : Cond.initialized "java/lang/IllegalArgumentException" ∈ TG := TG_ix 13 (by decide +kernel) (by decide +kernel)
theorem qn_java_lang_IndexOutOfBoundsException : Cond.initialized "java/lang/IndexOutOfBoundsException" ∈ TG := TG_ix 14 (by decide +kernel) (by decide +kernel)
theorem qn_java_lang_IllegalStateException : Cond.initialized "java/lang/IllegalStateException" ∈ TG := TG_ix 15 (by decide +kernel) (by decide +kernel)
theorem qn_J9 : Cond.initialized "java/lang/Math" ∈ TG := TG_ix 16 (by decide +kernel) (by decide +kernel)
theorem ql_L_15 : Cond.classLink RL 15 RX6 ∈ TG := TG_ix 17 (by decide +kernel) (by decide +kernel)
theorem qz_X6 : Cond.instantiable RX6 4 ∈ TG := TG_ix 18 (by decide +kernel) (by decide +kernel)
theorem qm_L_89 : Cond.methodLink RL 89 yX6_init ∈ TG := TG_ix 19 (by decide +kernel) (by decide +kernel)
theorem qi_X6_init : Cond.instanceMethod yX6_init ∈ TG := TG_ix 20 (by decide +kernel) (by decide +kernel)
theorem qc_X6_init : Cond.code yX6_init cX6_init 1 (Option.none : Option Jvm.ClassFile.FieldType) ∈ TG := TG_ix 21 (by decide +kernel) (by decide +kernel)
theorem qm_X6_3 : Cond.methodLink RX6 3 objectInit ∈ TG := TG_ix 22 (by decide +kernel) (by decide +kernel)
theorem qi_objectInit : Cond.instanceMethod objectInit ∈ TG := TG_ix 23 (by decide +kernel) (by decide +kernel)
theorem qc_objectInit : Cond.code objectInit ⟨#[0xb1]⟩ 1 none ∈ TG := TG_ix 24 (by decide +kernel) (by decide +kernel)
theorem ql_X6_9 : Cond.classLink RX6 9 RX4 ∈ TG := TG_ix 25 (by decide +kernel) (by decide +kernel)
theorem qz_X4 : Cond.instantiable RX4 5 ∈ TG := TG_ix 26 (by decide +kernel) (by decide +kernel)
theorem qm_X6_11 : Cond.methodLink RX6 11 yX4_init ∈ TG := TG_ix 27 (by decide +kernel) (by decide +kernel)
theorem qi_X4_init : Cond.instanceMethod yX4_init ∈ TG := TG_ix 28 (by decide +kernel) (by decide +kernel)
theorem qc_X4_init : Cond.code yX4_init cX4_init 2 (Option.none : Option Jvm.ClassFile.FieldType) ∈ TG := TG_ix 29 (by decide +kernel) (by decide +kernel)
theorem qm_X4_3 : Cond.methodLink RX4 3 objectInit ∈ TG := TG_ix 30 (by decide +kernel) (by decide +kernel)
theorem ql_X4_9 : Cond.classLink RX4 9 RX2 ∈ TG := TG_ix 31 (by decide +kernel) (by decide +kernel)
theorem ql_X4_17 : Cond.classLink RX4 17 RX5 ∈ TG := TG_ix 33 (by decide +kernel) (by decide +kernel)
theorem qz_X2 : Cond.instantiable RX2 6 ∈ TG := TG_ix 35 (by decide +kernel) (by decide +kernel)
theorem qi_X2_init : Cond.instanceMethod yX2_init ∈ TG := TG_ix 37 (by decide +kernel) (by decide +kernel)
theorem qc_X2_init : Cond.code yX2_init cX2_init 1 (Option.none : Option Jvm.ClassFile.FieldType) ∈ TG := TG_ix 38 (by decide +kernel) (by decide +kernel)
theorem qm_X2_3 : Cond.methodLink RX2 3 objectInit ∈ TG := TG_ix 39 (by decide +kernel) (by decide +kernel)
theorem qf_X2_15 : Cond.fieldLink RX2 15 RX2 "payment" "I" ∈ TG := TG_ix 40 (by decide +kernel) (by decide +kernel)
theorem qf_X6_76 : Cond.fieldLink RX6 76 RX2 "payment" "I" ∈ TG := TG_ix 41 (by decide +kernel) (by decide +kernel)
theorem qf_X4_81 : Cond.fieldLink RX4 81 RX2 "payment" "I" ∈ TG := TG_ix 42 (by decide +kernel) (by decide +kernel)
theorem qf_X2_19 : Cond.fieldLink RX2 19 RX2 "periods" "I" ∈ TG := TG_ix 43 (by decide +kernel) (by decide +kernel)
theorem qf_X6_90 : Cond.fieldLink RX6 90 RX2 "periods" "I" ∈ TG := TG_ix 44 (by decide +kernel) (by decide +kernel)
theorem qf_X4_84 : Cond.fieldLink RX4 84 RX2 "periods" "I" ∈ TG := TG_ix 45 (by decide +kernel) (by decide +kernel)
theorem qf_X2_22 : Cond.fieldLink RX2 22 RX2 "rate" "I" ∈ TG := TG_ix 46 (by decide +kernel) (by decide +kernel)
theorem qf_X6_93 : Cond.fieldLink RX6 93 RX2 "rate" "I" ∈ TG := TG_ix 47 (by decide +kernel) (by decide +kernel)
theorem qf_X4_66 : Cond.fieldLink RX4 66 RX2 "rate" "I" ∈ TG := TG_ix 48 (by decide +kernel) (by decide +kernel)
theorem qf_X2_29 : Cond.fieldLink RX2 29 RX2 "liability" "I" ∈ TG := TG_ix 49 (by decide +kernel) (by decide +kernel)
theorem qf_X6_87 : Cond.fieldLink RX6 87 RX2 "liability" "I" ∈ TG := TG_ix 50 (by decide +kernel) (by decide +kernel)
theorem qf_X4_85 : Cond.fieldLink RX4 85 RX2 "liability" "I" ∈ TG := TG_ix 51 (by decide +kernel) (by decide +kernel)
theorem qf_X2_32 : Cond.fieldLink RX2 32 RX2 "asset" "I" ∈ TG := TG_ix 52 (by decide +kernel) (by decide +kernel)
theorem qf_X6_112 : Cond.fieldLink RX6 112 RX2 "asset" "I" ∈ TG := TG_ix 53 (by decide +kernel) (by decide +kernel)
theorem qf_X4_88 : Cond.fieldLink RX4 88 RX2 "asset" "I" ∈ TG := TG_ix 54 (by decide +kernel) (by decide +kernel)
theorem qf_X2_9 : Cond.fieldLink RX2 9 RX2 "sums" "[I" ∈ TG := TG_ix 55 (by decide +kernel) (by decide +kernel)
theorem qa_int : Cond.arrayClass .int ∈ TG := TG_ix 69 (by decide +kernel) (by decide +kernel)
theorem qz_X5 : Cond.instantiable RX5 6 ∈ TG := TG_ix 70 (by decide +kernel) (by decide +kernel)
theorem qi_X5_init : Cond.instanceMethod yX5_init ∈ TG := TG_ix 72 (by decide +kernel) (by decide +kernel)
theorem qc_X5_init : Cond.code yX5_init cX5_init 1 (Option.none : Option Jvm.ClassFile.FieldType) ∈ TG := TG_ix 73 (by decide +kernel) (by decide +kernel)
theorem qm_X5_3 : Cond.methodLink RX5 3 objectInit ∈ TG := TG_ix 74 (by decide +kernel) (by decide +kernel)
theorem qf_X5_9 : Cond.fieldLink RX5 9 RX5 "head" "I" ∈ TG := TG_ix 75 (by decide +kernel) (by decide +kernel)
theorem qf_X4_54 : Cond.fieldLink RX4 54 RX5 "head" "I" ∈ TG := TG_ix 76 (by decide +kernel) (by decide +kernel)
theorem qf_X5_15 : Cond.fieldLink RX5 15 RX5 "thousandths" "I" ∈ TG := TG_ix 77 (by decide +kernel) (by decide +kernel)
theorem qf_X4_57 : Cond.fieldLink RX4 57 RX5 "thousandths" "I" ∈ TG := TG_ix 78 (by decide +kernel) (by decide +kernel)
theorem qf_X5_18 : Cond.fieldLink RX5 18 RX5 "receipt" "I" ∈ TG := TG_ix 79 (by decide +kernel) (by decide +kernel)
theorem qf_X4_60 : Cond.fieldLink RX4 60 RX5 "receipt" "I" ∈ TG := TG_ix 80 (by decide +kernel) (by decide +kernel)
theorem qf_X5_21 : Cond.fieldLink RX5 21 RX5 "periods" "I" ∈ TG := TG_ix 81 (by decide +kernel) (by decide +kernel)
theorem qf_X4_63 : Cond.fieldLink RX4 63 RX5 "periods" "I" ∈ TG := TG_ix 82 (by decide +kernel) (by decide +kernel)
theorem qf_X5_24 : Cond.fieldLink RX5 24 RX5 "rate" "I" ∈ TG := TG_ix 83 (by decide +kernel) (by decide +kernel)
theorem qf_X4_69 : Cond.fieldLink RX4 69 RX5 "rate" "I" ∈ TG := TG_ix 84 (by decide +kernel) (by decide +kernel)
theorem qf_X5_27 : Cond.fieldLink RX5 27 RX5 "receivable" "I" ∈ TG := TG_ix 85 (by decide +kernel) (by decide +kernel)
theorem qf_X4_74 : Cond.fieldLink RX4 74 RX5 "receivable" "I" ∈ TG := TG_ix 86 (by decide +kernel) (by decide +kernel)
theorem qf_X4_11 : Cond.fieldLink RX4 11 RX4 "leases" "[LLeaseBook$Lease;" ∈ TG := TG_ix 100 (by decide +kernel) (by decide +kernel)
theorem qf_X4_19 : Cond.fieldLink RX4 19 RX4 "subleases" "[LLeaseBook$Sublease;" ∈ TG := TG_ix 101 (by decide +kernel) (by decide +kernel)
theorem qf_X4_25 : Cond.fieldLink RX4 25 RX4 "leaseCount" "I" ∈ TG := TG_ix 102 (by decide +kernel) (by decide +kernel)
theorem qf_X6_51 : Cond.fieldLink RX6 51 RX4 "leaseCount" "I" ∈ TG := TG_ix 103 (by decide +kernel) (by decide +kernel)
theorem qf_X4_29 : Cond.fieldLink RX4 29 RX4 "subleaseCount" "I" ∈ TG := TG_ix 104 (by decide +kernel) (by decide +kernel)
theorem qf_X6_160 : Cond.fieldLink RX6 160 RX4 "subleaseCount" "I" ∈ TG := TG_ix 105 (by decide +kernel) (by decide +kernel)
theorem qf_X4_32 : Cond.fieldLink RX4 32 RX4 "period" "I" ∈ TG := TG_ix 106 (by decide +kernel) (by decide +kernel)
theorem qf_X6_126 : Cond.fieldLink RX6 126 RX4 "period" "I" ∈ TG := TG_ix 107 (by decide +kernel) (by decide +kernel)
theorem ql_X6_16 : Cond.classLink RX6 16 RX0 ∈ TG := TG_ix 119 (by decide +kernel) (by decide +kernel)
theorem qz_X0 : Cond.instantiable RX0 3 ∈ TG := TG_ix 120 (by decide +kernel) (by decide +kernel)
theorem qm_X6_18 : Cond.methodLink RX6 18 yX0_init ∈ TG := TG_ix 121 (by decide +kernel) (by decide +kernel)
theorem qi_X0_init : Cond.instanceMethod yX0_init ∈ TG := TG_ix 122 (by decide +kernel) (by decide +kernel)
theorem qc_X0_init : Cond.code yX0_init cX0_init 2 (Option.none : Option Jvm.ClassFile.FieldType) ∈ TG := TG_ix 123 (by decide +kernel) (by decide +kernel)
theorem qm_X0_3 : Cond.methodLink RX0 3 objectInit ∈ TG := TG_ix 124 (by decide +kernel) (by decide +kernel)
theorem ql_X0_9 : Cond.classLink RX0 9 RX4 ∈ TG := TG_ix 125 (by decide +kernel) (by decide +kernel)
theorem qm_X0_17 : Cond.methodLink RX0 17 yX4_init ∈ TG := TG_ix 127 (by decide +kernel) (by decide +kernel)
theorem qf_X0_11 : Cond.fieldLink RX0 11 RX0 "saved" "[LLeaseBook$State;" ∈ TG := TG_ix 128 (by decide +kernel) (by decide +kernel)
theorem qf_X0_22 : Cond.fieldLink RX0 22 RX0 "oldest" "I" ∈ TG := TG_ix 129 (by decide +kernel) (by decide +kernel)
theorem qf_X0_18 : Cond.fieldLink RX0 18 RX0 "size" "I" ∈ TG := TG_ix 130 (by decide +kernel) (by decide +kernel)
theorem qf_X6_151 : Cond.fieldLink RX6 151 RX0 "size" "I" ∈ TG := TG_ix 131 (by decide +kernel) (by decide +kernel)
theorem ql_X6_23 : Cond.classLink RX6 23 RX1 ∈ TG := TG_ix 139 (by decide +kernel) (by decide +kernel)
theorem qz_X1 : Cond.instantiable RX1 2 ∈ TG := TG_ix 140 (by decide +kernel) (by decide +kernel)
theorem qi_X1_init : Cond.instanceMethod yX1_init ∈ TG := TG_ix 142 (by decide +kernel) (by decide +kernel)
theorem qc_X1_init : Cond.code yX1_init cX1_init 1 (Option.none : Option Jvm.ClassFile.FieldType) ∈ TG := TG_ix 143 (by decide +kernel) (by decide +kernel)
theorem qm_X1_3 : Cond.methodLink RX1 3 objectInit ∈ TG := TG_ix 144 (by decide +kernel) (by decide +kernel)
theorem qf_X1_9 : Cond.fieldLink RX1 9 RX1 "codes" "[C" ∈ TG := TG_ix 145 (by decide +kernel) (by decide +kernel)
theorem qa_char : Cond.arrayClass .char ∈ TG := TG_ix 151 (by decide +kernel) (by decide +kernel)
theorem ql_X6_30 : Cond.classLink RX6 30 RX3 ∈ TG := TG_ix 152 (by decide +kernel) (by decide +kernel)
theorem qz_X3 : Cond.instantiable RX3 3 ∈ TG := TG_ix 153 (by decide +kernel) (by decide +kernel)
theorem qi_X3_init : Cond.instanceMethod yX3_init ∈ TG := TG_ix 155 (by decide +kernel) (by decide +kernel)
theorem qc_X3_init : Cond.code yX3_init cX3_init 1 (Option.none : Option Jvm.ClassFile.FieldType) ∈ TG := TG_ix 156 (by decide +kernel) (by decide +kernel)
theorem qm_X3_3 : Cond.methodLink RX3 3 objectInit ∈ TG := TG_ix 157 (by decide +kernel) (by decide +kernel)
theorem qf_X3_9 : Cond.fieldLink RX3 9 RX3 "numbers" "[I" ∈ TG := TG_ix 158 (by decide +kernel) (by decide +kernel)
theorem qf_X6_12 : Cond.fieldLink RX6 12 RX6 "now" "LLeaseBook$State;" ∈ TG := TG_ix 166 (by decide +kernel) (by decide +kernel)
theorem qf_X6_19 : Cond.fieldLink RX6 19 RX6 "history" "LLeaseBook$History;" ∈ TG := TG_ix 167 (by decide +kernel) (by decide +kernel)
end
section
/-! WORDS: the tables' words by their places (laid by wip/whole/words.py) -/
theorem qf_X6_26 : Cond.fieldLink RX6 26 RX6 "text" "LLeaseBook$InputText;" ∈ TG := TG_ix 168 (by decide +kernel) (by decide +kernel)
theorem qf_X6_33 : Cond.fieldLink RX6 33 RX6 "reader" "LLeaseBook$LeaseReader;" ∈ TG := TG_ix 169 (by decide +kernel) (by decide +kernel)
theorem qm_L_14 : Cond.methodLink RL 14 yX6_count ∈ TG := TG_ix 179 (by decide +kernel) (by decide +kernel)
theorem qi_X6_count : Cond.instanceMethod yX6_count ∈ TG := TG_ix 180 (by decide +kernel) (by decide +kernel)
theorem qs_X6_count : Cond.selects RX6 yX6_count yX6_count ∈ TG := TG_ix 181 (by decide +kernel) (by decide +kernel)
theorem qc_X6_count : Cond.code yX6_count cX6_count 2 (some .int) ∈ TG := TG_ix 182 (by decide +kernel) (by decide +kernel)
theorem qm_X6_108 : Cond.methodLink RX6 108 yX6_isWithin ∈ TG := TG_ix 183 (by decide +kernel) (by decide +kernel)
theorem qt_X6_isWithin : Cond.static yX6_isWithin ∈ TG := TG_ix 184 (by decide +kernel) (by decide +kernel)
theorem qc_X6_isWithin : Cond.code yX6_isWithin cX6_isWithin 3 (some .boolean) ∈ TG := TG_ix 185 (by decide +kernel) (by decide +kernel)
theorem qm_X6_47 : Cond.methodLink RX6 47 yX6_demandArguments ∈ TG := TG_ix 186 (by decide +kernel) (by decide +kernel)
theorem qt_X6_demandArguments : Cond.static yX6_demandArguments ∈ TG := TG_ix 187 (by decide +kernel) (by decide +kernel)
theorem qc_X6_demandArguments : Cond.code yX6_demandArguments cX6_demandArguments 1 (Option.none : Option Jvm.ClassFile.FieldType) ∈ TG := TG_ix 188 (by decide +kernel) (by decide +kernel)
theorem ql_X6_304 : Cond.classLink RX6 304 "java/lang/IllegalArgumentException" ∈ TG := TG_ix 189 (by decide +kernel) (by decide +kernel)
theorem qa_byte : Cond.arrayClass .byte ∈ TG := TG_ix 256 (by decide +kernel) (by decide +kernel)
theorem qm_X6_182 : Cond.methodLink RX6 182 yX4_runningLeases ∈ TG := TG_ix 257 (by decide +kernel) (by decide +kernel)
theorem qi_X4_runningLeases : Cond.instanceMethod yX4_runningLeases ∈ TG := TG_ix 258 (by decide +kernel) (by decide +kernel)
theorem qs_X4_runningLeases : Cond.selects RX4 yX4_runningLeases yX4_runningLeases ∈ TG := TG_ix 259 (by decide +kernel) (by decide +kernel)
theorem qc_X4_runningLeases : Cond.code yX4_runningLeases cX4_runningLeases 4 (some .int) ∈ TG := TG_ix 260 (by decide +kernel) (by decide +kernel)
theorem qm_X4_35 : Cond.methodLink RX4 35 yX4_leaseAt ∈ TG := TG_ix 261 (by decide +kernel) (by decide +kernel)
theorem qi_X4_leaseAt : Cond.instanceMethod yX4_leaseAt ∈ TG := TG_ix 262 (by decide +kernel) (by decide +kernel)
theorem qs_X4_leaseAt : Cond.selects RX4 yX4_leaseAt yX4_leaseAt ∈ TG := TG_ix 263 (by decide +kernel) (by decide +kernel)
theorem qc_X4_leaseAt : Cond.code yX4_leaseAt cX4_leaseAt 2 (some (.object "LeaseBook$Lease")) ∈ TG := TG_ix 264 (by decide +kernel) (by decide +kernel)
theorem qm_X4_126 : Cond.methodLink RX4 126 yX2_runs ∈ TG := TG_ix 265 (by decide +kernel) (by decide +kernel)
theorem qi_X2_runs : Cond.instanceMethod yX2_runs ∈ TG := TG_ix 266 (by decide +kernel) (by decide +kernel)
theorem qs_X2_runs : Cond.selects RX2 yX2_runs yX2_runs ∈ TG := TG_ix 267 (by decide +kernel) (by decide +kernel)
theorem qc_X2_runs : Cond.code yX2_runs cX2_runs 1 (some .boolean) ∈ TG := TG_ix 268 (by decide +kernel) (by decide +kernel)
theorem qm_X6_185 : Cond.methodLink RX6 185 yX4_sumOfLeases ∈ TG := TG_ix 269 (by decide +kernel) (by decide +kernel)
theorem qi_X4_sumOfLeases : Cond.instanceMethod yX4_sumOfLeases ∈ TG := TG_ix 270 (by decide +kernel) (by decide +kernel)
theorem qs_X4_sumOfLeases : Cond.selects RX4 yX4_sumOfLeases yX4_sumOfLeases ∈ TG := TG_ix 271 (by decide +kernel) (by decide +kernel)
theorem qc_X4_sumOfLeases : Cond.code yX4_sumOfLeases cX4_sumOfLeases 4 (some .int) ∈ TG := TG_ix 272 (by decide +kernel) (by decide +kernel)
theorem qm_X4_130 : Cond.methodLink RX4 130 yX4_leaseProperty ∈ TG := TG_ix 273 (by decide +kernel) (by decide +kernel)
theorem qi_X4_leaseProperty : Cond.instanceMethod yX4_leaseProperty ∈ TG := TG_ix 274 (by decide +kernel) (by decide +kernel)
theorem qs_X4_leaseProperty : Cond.selects RX4 yX4_leaseProperty yX4_leaseProperty ∈ TG := TG_ix 275 (by decide +kernel) (by decide +kernel)
theorem qc_X4_leaseProperty : Cond.code yX4_leaseProperty cX4_leaseProperty 4 (some .int) ∈ TG := TG_ix 276 (by decide +kernel) (by decide +kernel)
theorem qm_X4_91 : Cond.methodLink RX4 91 yX4_sumOfSubleases ∈ TG := TG_ix 277 (by decide +kernel) (by decide +kernel)
theorem qi_X4_sumOfSubleases : Cond.instanceMethod yX4_sumOfSubleases ∈ TG := TG_ix 278 (by decide +kernel) (by decide +kernel)
theorem qs_X4_sumOfSubleases : Cond.selects RX4 yX4_sumOfSubleases yX4_sumOfSubleases ∈ TG := TG_ix 279 (by decide +kernel) (by decide +kernel)
theorem qc_X4_sumOfSubleases : Cond.code yX4_sumOfSubleases cX4_sumOfSubleases 6 (some .int) ∈ TG := TG_ix 280 (by decide +kernel) (by decide +kernel)
theorem qm_X4_43 : Cond.methodLink RX4 43 yX4_subleaseAt ∈ TG := TG_ix 281 (by decide +kernel) (by decide +kernel)
theorem qi_X4_subleaseAt : Cond.instanceMethod yX4_subleaseAt ∈ TG := TG_ix 282 (by decide +kernel) (by decide +kernel)
theorem qs_X4_subleaseAt : Cond.selects RX4 yX4_subleaseAt yX4_subleaseAt ∈ TG := TG_ix 283 (by decide +kernel) (by decide +kernel)
theorem qc_X4_subleaseAt : Cond.code yX4_subleaseAt cX4_subleaseAt 2 (some (.object "LeaseBook$Sublease")) ∈ TG := TG_ix 284 (by decide +kernel) (by decide +kernel)
theorem qm_X4_114 : Cond.methodLink RX4 114 yX5_runsUnder ∈ TG := TG_ix 285 (by decide +kernel) (by decide +kernel)
theorem qi_X5_runsUnder : Cond.instanceMethod yX5_runsUnder ∈ TG := TG_ix 286 (by decide +kernel) (by decide +kernel)
theorem qs_X5_runsUnder : Cond.selects RX5 yX5_runsUnder yX5_runsUnder ∈ TG := TG_ix 287 (by decide +kernel) (by decide +kernel)
theorem qc_X5_runsUnder : Cond.code yX5_runsUnder cX5_runsUnder 2 (some .boolean) ∈ TG := TG_ix 288 (by decide +kernel) (by decide +kernel)
theorem qm_X4_98 : Cond.methodLink RX4 98 yX5_valueOf ∈ TG := TG_ix 289 (by decide +kernel) (by decide +kernel)
theorem qi_X5_valueOf : Cond.instanceMethod yX5_valueOf ∈ TG := TG_ix 290 (by decide +kernel) (by decide +kernel)
theorem qs_X5_valueOf : Cond.selects RX5 yX5_valueOf yX5_valueOf ∈ TG := TG_ix 291 (by decide +kernel) (by decide +kernel)
theorem qc_X5_valueOf : Cond.code yX5_valueOf cX5_valueOf 2 (some .int) ∈ TG := TG_ix 292 (by decide +kernel) (by decide +kernel)
theorem qm_X4_95 : Cond.methodLink RX4 95 yX4_runningOf ∈ TG := TG_ix 293 (by decide +kernel) (by decide +kernel)
theorem qi_X4_runningOf : Cond.instanceMethod yX4_runningOf ∈ TG := TG_ix 294 (by decide +kernel) (by decide +kernel)
theorem qs_X4_runningOf : Cond.selects RX4 yX4_runningOf yX4_runningOf ∈ TG := TG_ix 295 (by decide +kernel) (by decide +kernel)
theorem qc_X4_runningOf : Cond.code yX4_runningOf cX4_runningOf 5 (some .int) ∈ TG := TG_ix 296 (by decide +kernel) (by decide +kernel)
theorem qm_X6_188 : Cond.methodLink RX6 188 yX4_allProfits ∈ TG := TG_ix 297 (by decide +kernel) (by decide +kernel)
theorem qi_X4_allProfits : Cond.instanceMethod yX4_allProfits ∈ TG := TG_ix 298 (by decide +kernel) (by decide +kernel)
theorem qs_X4_allProfits : Cond.selects RX4 yX4_allProfits yX4_allProfits ∈ TG := TG_ix 299 (by decide +kernel) (by decide +kernel)
theorem qc_X4_allProfits : Cond.code yX4_allProfits cX4_allProfits 4 (some .int) ∈ TG := TG_ix 300 (by decide +kernel) (by decide +kernel)
theorem qm_X4_133 : Cond.methodLink RX4 133 yX2_profitByMovements ∈ TG := TG_ix 301 (by decide +kernel) (by decide +kernel)
theorem qi_X2_profitByMovements : Cond.instanceMethod yX2_profitByMovements ∈ TG := TG_ix 302 (by decide +kernel) (by decide +kernel)
theorem qs_X2_profitByMovements : Cond.selects RX2 yX2_profitByMovements yX2_profitByMovements ∈ TG := TG_ix 303 (by decide +kernel) (by decide +kernel)
theorem qc_X2_profitByMovements : Cond.code yX2_profitByMovements cX2_profitByMovements 1 (some .int) ∈ TG := TG_ix 304 (by decide +kernel) (by decide +kernel)
theorem qm_X2_61 : Cond.methodLink RX2 61 yX2_moved ∈ TG := TG_ix 305 (by decide +kernel) (by decide +kernel)
theorem qi_X2_moved : Cond.instanceMethod yX2_moved ∈ TG := TG_ix 306 (by decide +kernel) (by decide +kernel)
theorem qs_X2_moved : Cond.selects RX2 yX2_moved yX2_moved ∈ TG := TG_ix 307 (by decide +kernel) (by decide +kernel)
theorem qc_X2_moved : Cond.code yX2_moved cX2_moved 2 (some .int) ∈ TG := TG_ix 308 (by decide +kernel) (by decide +kernel)
theorem qm_X6_191 : Cond.methodLink RX6 191 yX4_endingFirst ∈ TG := TG_ix 309 (by decide +kernel) (by decide +kernel)
theorem qi_X4_endingFirst : Cond.instanceMethod yX4_endingFirst ∈ TG := TG_ix 310 (by decide +kernel) (by decide +kernel)
theorem qs_X4_endingFirst : Cond.selects RX4 yX4_endingFirst yX4_endingFirst ∈ TG := TG_ix 311 (by decide +kernel) (by decide +kernel)
theorem qc_X4_endingFirst : Cond.code yX4_endingFirst cX4_endingFirst 5 (some .int) ∈ TG := TG_ix 312 (by decide +kernel) (by decide +kernel)
theorem qm_L_94 : Cond.methodLink RL 94 yL_cell ∈ TG := TG_ix 313 (by decide +kernel) (by decide +kernel)
theorem qt_L_cell : Cond.static yL_cell ∈ TG := TG_ix 314 (by decide +kernel) (by decide +kernel)
theorem qc_L_cell : Cond.code yL_cell cL_cell 2 (some .int) ∈ TG := TG_ix 315 (by decide +kernel) (by decide +kernel)
theorem qk_L_7 : Cond.constant RL 7 (834131401) ∈ TG := TG_ix 316 (by decide +kernel) (by decide +kernel)
theorem qm_L_44 : Cond.methodLink RL 44 yL_at ∈ TG := TG_ix 317 (by decide +kernel) (by decide +kernel)
theorem qt_L_at : Cond.static yL_at ∈ TG := TG_ix 318 (by decide +kernel) (by decide +kernel)
theorem qc_L_at : Cond.code yL_at cL_at 2 (some .int) ∈ TG := TG_ix 319 (by decide +kernel) (by decide +kernel)
theorem qm_L_90 : Cond.methodLink RL 90 yL_told ∈ TG := TG_ix 320 (by decide +kernel) (by decide +kernel)
theorem qt_L_told : Cond.static yL_told ∈ TG := TG_ix 321 (by decide +kernel) (by decide +kernel)
theorem qc_L_told : Cond.code yL_told cL_told 14 (some .boolean) ∈ TG := TG_ix 322 (by decide +kernel) (by decide +kernel)
theorem qm_L_20 : Cond.methodLink RL 20 yL_off ∈ TG := TG_ix 323 (by decide +kernel) (by decide +kernel)
theorem qt_L_off : Cond.static yL_off ∈ TG := TG_ix 324 (by decide +kernel) (by decide +kernel)
theorem qc_L_off : Cond.code yL_off cL_off 7 (some .int) ∈ TG := TG_ix 325 (by decide +kernel) (by decide +kernel)
theorem qm_L_26 : Cond.methodLink RL 26 yX6_lease ∈ TG := TG_ix 326 (by decide +kernel) (by decide +kernel)
theorem qi_X6_lease : Cond.instanceMethod yX6_lease ∈ TG := TG_ix 327 (by decide +kernel) (by decide +kernel)
theorem qs_X6_lease : Cond.selects RX6 yX6_lease yX6_lease ∈ TG := TG_ix 328 (by decide +kernel) (by decide +kernel)
theorem qc_X6_lease : Cond.code yX6_lease cX6_lease 3 (some .int) ∈ TG := TG_ix 329 (by decide +kernel) (by decide +kernel)
theorem qm_X6_66 : Cond.methodLink RX6 66 yX6_demandLease ∈ TG := TG_ix 330 (by decide +kernel) (by decide +kernel)
theorem qi_X6_demandLease : Cond.instanceMethod yX6_demandLease ∈ TG := TG_ix 332 (by decide +kernel) (by decide +kernel)
theorem qc_X6_demandLease : Cond.code yX6_demandLease cX6_demandLease 3 (some (.object "LeaseBook$Lease")) ∈ TG := TG_ix 333 (by decide +kernel) (by decide +kernel)
theorem qm_X6_292 : Cond.methodLink RX6 292 yX4_leaseAt ∈ TG := TG_ix 334 (by decide +kernel) (by decide +kernel)
theorem ql_X6_295 : Cond.classLink RX6 295 "java/lang/IndexOutOfBoundsException" ∈ TG := TG_ix 335 (by decide +kernel) (by decide +kernel)
theorem qm_X6_157 : Cond.methodLink RX6 157 yX4_leaseProperty ∈ TG := TG_ix 351 (by decide +kernel) (by decide +kernel)
theorem qm_L_30 : Cond.methodLink RL 30 yX6_profit ∈ TG := TG_ix 352 (by decide +kernel) (by decide +kernel)
theorem qi_X6_profit : Cond.instanceMethod yX6_profit ∈ TG := TG_ix 353 (by decide +kernel) (by decide +kernel)
theorem qs_X6_profit : Cond.selects RX6 yX6_profit yX6_profit ∈ TG := TG_ix 354 (by decide +kernel) (by decide +kernel)
theorem qc_X6_profit : Cond.code yX6_profit cX6_profit 4 (some .int) ∈ TG := TG_ix 355 (by decide +kernel) (by decide +kernel)
theorem qm_X6_172 : Cond.methodLink RX6 172 yX2_profitByMovements ∈ TG := TG_ix 356 (by decide +kernel) (by decide +kernel)
theorem qm_X6_176 : Cond.methodLink RX6 176 yX4_sumOfSubleases ∈ TG := TG_ix 357 (by decide +kernel) (by decide +kernel)
theorem qm_X6_179 : Cond.methodLink RX6 179 yX2_profitByHoldings ∈ TG := TG_ix 358 (by decide +kernel) (by decide +kernel)
theorem qi_X2_profitByHoldings : Cond.instanceMethod yX2_profitByHoldings ∈ TG := TG_ix 359 (by decide +kernel) (by decide +kernel)
theorem qs_X2_profitByHoldings : Cond.selects RX2 yX2_profitByHoldings yX2_profitByHoldings ∈ TG := TG_ix 360 (by decide +kernel) (by decide +kernel)
theorem qc_X2_profitByHoldings : Cond.code yX2_profitByHoldings cX2_profitByHoldings 2 (some .int) ∈ TG := TG_ix 361 (by decide +kernel) (by decide +kernel)
theorem qm_L_33 : Cond.methodLink RL 33 yX6_sublease ∈ TG := TG_ix 362 (by decide +kernel) (by decide +kernel)
end
section
/-! WORDS: the tables' words by their places (laid by wip/whole/words.py) -/
theorem qi_X6_sublease : Cond.instanceMethod yX6_sublease ∈ TG := TG_ix 363 (by decide +kernel) (by decide +kernel)
theorem qs_X6_sublease : Cond.selects RX6 yX6_sublease yX6_sublease ∈ TG := TG_ix 364 (by decide +kernel) (by decide +kernel)
theorem qc_X6_sublease : Cond.code yX6_sublease cX6_sublease 3 (some .int) ∈ TG := TG_ix 365 (by decide +kernel) (by decide +kernel)
theorem qm_X6_163 : Cond.methodLink RX6 163 yX6_demandIndex ∈ TG := TG_ix 366 (by decide +kernel) (by decide +kernel)
theorem qt_X6_demandIndex : Cond.static yX6_demandIndex ∈ TG := TG_ix 367 (by decide +kernel) (by decide +kernel)
theorem qc_X6_demandIndex : Cond.code yX6_demandIndex cX6_demandIndex 1 (Option.none : Option Jvm.ClassFile.FieldType) ∈ TG := TG_ix 368 (by decide +kernel) (by decide +kernel)
theorem qm_X6_166 : Cond.methodLink RX6 166 yX4_subleaseProperty ∈ TG := TG_ix 370 (by decide +kernel) (by decide +kernel)
theorem qi_X4_subleaseProperty : Cond.instanceMethod yX4_subleaseProperty ∈ TG := TG_ix 371 (by decide +kernel) (by decide +kernel)
theorem qs_X4_subleaseProperty : Cond.selects RX4 yX4_subleaseProperty yX4_subleaseProperty ∈ TG := TG_ix 372 (by decide +kernel) (by decide +kernel)
theorem qc_X4_subleaseProperty : Cond.code yX4_subleaseProperty cX4_subleaseProperty 4 (some .int) ∈ TG := TG_ix 373 (by decide +kernel) (by decide +kernel)
theorem qm_L_36 : Cond.methodLink RL 36 yX6_offShare ∈ TG := TG_ix 374 (by decide +kernel) (by decide +kernel)
theorem qi_X6_offShare : Cond.instanceMethod yX6_offShare ∈ TG := TG_ix 375 (by decide +kernel) (by decide +kernel)
theorem qs_X6_offShare : Cond.selects RX6 yX6_offShare yX6_offShare ∈ TG := TG_ix 376 (by decide +kernel) (by decide +kernel)
theorem qc_X6_offShare : Cond.code yX6_offShare cX6_offShare 3 (some .double) ∈ TG := TG_ix 377 (by decide +kernel) (by decide +kernel)
theorem qm_L_99 : Cond.methodLink RL 99 yL_act ∈ TG := TG_ix 378 (by decide +kernel) (by decide +kernel)
theorem qt_L_act : Cond.static yL_act ∈ TG := TG_ix 379 (by decide +kernel) (by decide +kernel)
theorem qc_L_act : Cond.code yL_act cL_act 12 (some .boolean) ∈ TG := TG_ix 380 (by decide +kernel) (by decide +kernel)
theorem qk_L_54 : Cond.constant RL 54 (100001) ∈ TG := TG_ix 381 (by decide +kernel) (by decide +kernel)
theorem qm_L_72 : Cond.methodLink RL 72 yL_add ∈ TG := TG_ix 382 (by decide +kernel) (by decide +kernel)
theorem qt_L_add : Cond.static yL_add ∈ TG := TG_ix 383 (by decide +kernel) (by decide +kernel)
theorem qc_L_add : Cond.code yL_add cL_add 7 (Option.none : Option Jvm.ClassFile.FieldType) ∈ TG := TG_ix 384 (by decide +kernel) (by decide +kernel)
theorem qm_L_40 : Cond.methodLink RL 40 yL_worth ∈ TG := TG_ix 385 (by decide +kernel) (by decide +kernel)
theorem qt_L_worth : Cond.static yL_worth ∈ TG := TG_ix 386 (by decide +kernel) (by decide +kernel)
theorem qc_L_worth : Cond.code yL_worth cL_worth 10 (some .int) ∈ TG := TG_ix 387 (by decide +kernel) (by decide +kernel)
theorem qk_L_8 : Cond.constantLong RL 8 (10000) ∈ TG := TG_ix 388 (by decide +kernel) (by decide +kernel)
theorem qk_L_10 : Cond.constantLong RL 10 (2) ∈ TG := TG_ix 389 (by decide +kernel) (by decide +kernel)
theorem qm_L_76 : Cond.methodLink RL 76 yX6_open ∈ TG := TG_ix 390 (by decide +kernel) (by decide +kernel)
theorem qi_X6_open : Cond.instanceMethod yX6_open ∈ TG := TG_ix 391 (by decide +kernel) (by decide +kernel)
theorem qs_X6_open : Cond.selects RX6 yX6_open yX6_open ∈ TG := TG_ix 392 (by decide +kernel) (by decide +kernel)
theorem qc_X6_open : Cond.code yX6_open cX6_open 5 (some .int) ∈ TG := TG_ix 393 (by decide +kernel) (by decide +kernel)
theorem qm_X6_37 : Cond.methodLink RX6 37 yX6_isMoney ∈ TG := TG_ix 394 (by decide +kernel) (by decide +kernel)
theorem qt_X6_isMoney : Cond.static yX6_isMoney ∈ TG := TG_ix 395 (by decide +kernel) (by decide +kernel)
theorem qc_X6_isMoney : Cond.code yX6_isMoney cX6_isMoney 1 (some .boolean) ∈ TG := TG_ix 396 (by decide +kernel) (by decide +kernel)
theorem qk_X6_314 : Cond.constant RX6 314 (100000) ∈ TG := TG_ix 397 (by decide +kernel) (by decide +kernel)
theorem qm_X6_41 : Cond.methodLink RX6 41 yX6_isPeriods ∈ TG := TG_ix 398 (by decide +kernel) (by decide +kernel)
theorem qt_X6_isPeriods : Cond.static yX6_isPeriods ∈ TG := TG_ix 399 (by decide +kernel) (by decide +kernel)
theorem qc_X6_isPeriods : Cond.code yX6_isPeriods cX6_isPeriods 1 (some .boolean) ∈ TG := TG_ix 400 (by decide +kernel) (by decide +kernel)
theorem qm_X6_44 : Cond.methodLink RX6 44 yX6_isRate ∈ TG := TG_ix 401 (by decide +kernel) (by decide +kernel)
theorem qt_X6_isRate : Cond.static yX6_isRate ∈ TG := TG_ix 402 (by decide +kernel) (by decide +kernel)
theorem qc_X6_isRate : Cond.code yX6_isRate cX6_isRate 1 (some .boolean) ∈ TG := TG_ix 403 (by decide +kernel) (by decide +kernel)
theorem qm_X6_55 : Cond.methodLink RX6 55 yX6_demandState ∈ TG := TG_ix 404 (by decide +kernel) (by decide +kernel)
theorem qt_X6_demandState : Cond.static yX6_demandState ∈ TG := TG_ix 405 (by decide +kernel) (by decide +kernel)
theorem qc_X6_demandState : Cond.code yX6_demandState cX6_demandState 1 (Option.none : Option Jvm.ClassFile.FieldType) ∈ TG := TG_ix 406 (by decide +kernel) (by decide +kernel)
theorem ql_X6_309 : Cond.classLink RX6 309 "java/lang/IllegalStateException" ∈ TG := TG_ix 407 (by decide +kernel) (by decide +kernel)
theorem qm_X6_58 : Cond.methodLink RX6 58 yX0_save ∈ TG := TG_ix 423 (by decide +kernel) (by decide +kernel)
theorem qi_X0_save : Cond.instanceMethod yX0_save ∈ TG := TG_ix 424 (by decide +kernel) (by decide +kernel)
theorem qs_X0_save : Cond.selects RX0 yX0_save yX0_save ∈ TG := TG_ix 425 (by decide +kernel) (by decide +kernel)
theorem qc_X0_save : Cond.code yX0_save cX0_save 3 (Option.none : Option Jvm.ClassFile.FieldType) ∈ TG := TG_ix 426 (by decide +kernel) (by decide +kernel)
theorem qm_X0_25 : Cond.methodLink RX0 25 yX0_slotAt ∈ TG := TG_ix 427 (by decide +kernel) (by decide +kernel)
theorem qi_X0_slotAt : Cond.instanceMethod yX0_slotAt ∈ TG := TG_ix 428 (by decide +kernel) (by decide +kernel)
theorem qs_X0_slotAt : Cond.selects RX0 yX0_slotAt yX0_slotAt ∈ TG := TG_ix 429 (by decide +kernel) (by decide +kernel)
theorem qc_X0_slotAt : Cond.code yX0_slotAt cX0_slotAt 3 (some (.object "LeaseBook$State")) ∈ TG := TG_ix 430 (by decide +kernel) (by decide +kernel)
theorem qm_X0_29 : Cond.methodLink RX0 29 yX4_copyFrom ∈ TG := TG_ix 431 (by decide +kernel) (by decide +kernel)
theorem qi_X4_copyFrom : Cond.instanceMethod yX4_copyFrom ∈ TG := TG_ix 432 (by decide +kernel) (by decide +kernel)
theorem qs_X4_copyFrom : Cond.selects RX4 yX4_copyFrom yX4_copyFrom ∈ TG := TG_ix 433 (by decide +kernel) (by decide +kernel)
theorem qc_X4_copyFrom : Cond.code yX4_copyFrom cX4_copyFrom 5 (Option.none : Option Jvm.ClassFile.FieldType) ∈ TG := TG_ix 434 (by decide +kernel) (by decide +kernel)
theorem qm_X4_39 : Cond.methodLink RX4 39 yX2_copyFrom ∈ TG := TG_ix 435 (by decide +kernel) (by decide +kernel)
theorem qi_X2_copyFrom : Cond.instanceMethod yX2_copyFrom ∈ TG := TG_ix 436 (by decide +kernel) (by decide +kernel)
theorem qs_X2_copyFrom : Cond.selects RX2 yX2_copyFrom yX2_copyFrom ∈ TG := TG_ix 437 (by decide +kernel) (by decide +kernel)
theorem qc_X2_copyFrom : Cond.code yX2_copyFrom cX2_copyFrom 3 (Option.none : Option Jvm.ClassFile.FieldType) ∈ TG := TG_ix 438 (by decide +kernel) (by decide +kernel)
theorem qm_X4_47 : Cond.methodLink RX4 47 yX5_copyFrom ∈ TG := TG_ix 439 (by decide +kernel) (by decide +kernel)
theorem qi_X5_copyFrom : Cond.instanceMethod yX5_copyFrom ∈ TG := TG_ix 440 (by decide +kernel) (by decide +kernel)
theorem qs_X5_copyFrom : Cond.selects RX5 yX5_copyFrom yX5_copyFrom ∈ TG := TG_ix 441 (by decide +kernel) (by decide +kernel)
theorem qc_X5_copyFrom : Cond.code yX5_copyFrom cX5_copyFrom 2 (Option.none : Option Jvm.ClassFile.FieldType) ∈ TG := TG_ix 442 (by decide +kernel) (by decide +kernel)
theorem qm_X6_62 : Cond.methodLink RX6 62 yX4_addLease ∈ TG := TG_ix 443 (by decide +kernel) (by decide +kernel)
theorem qi_X4_addLease : Cond.instanceMethod yX4_addLease ∈ TG := TG_ix 444 (by decide +kernel) (by decide +kernel)
theorem qs_X4_addLease : Cond.selects RX4 yX4_addLease yX4_addLease ∈ TG := TG_ix 445 (by decide +kernel) (by decide +kernel)
theorem qc_X4_addLease : Cond.code yX4_addLease cX4_addLease 7 (some .int) ∈ TG := TG_ix 446 (by decide +kernel) (by decide +kernel)
theorem qm_X4_50 : Cond.methodLink RX4 50 yX2_begin ∈ TG := TG_ix 447 (by decide +kernel) (by decide +kernel)
theorem qi_X2_begin : Cond.instanceMethod yX2_begin ∈ TG := TG_ix 448 (by decide +kernel) (by decide +kernel)
theorem qs_X2_begin : Cond.selects RX2 yX2_begin yX2_begin ∈ TG := TG_ix 449 (by decide +kernel) (by decide +kernel)
theorem qc_X2_begin : Cond.code yX2_begin cX2_begin 6 (Option.none : Option Jvm.ClassFile.FieldType) ∈ TG := TG_ix 450 (by decide +kernel) (by decide +kernel)
theorem qt_X6_presentWorth : Cond.static yX6_presentWorth ∈ TG := TG_ix 452 (by decide +kernel) (by decide +kernel)
theorem qc_X6_presentWorth : Cond.code yX6_presentWorth cX6_presentWorth 8 (some .int) ∈ TG := TG_ix 453 (by decide +kernel) (by decide +kernel)
theorem qk_X6_315 : Cond.constantLong RX6 315 (20000) ∈ TG := TG_ix 454 (by decide +kernel) (by decide +kernel)
theorem qk_X6_317 : Cond.constantLong RX6 317 (2) ∈ TG := TG_ix 455 (by decide +kernel) (by decide +kernel)
theorem qm_X2_35 : Cond.methodLink RX2 35 yX2_move ∈ TG := TG_ix 456 (by decide +kernel) (by decide +kernel)
theorem qi_X2_move : Cond.instanceMethod yX2_move ∈ TG := TG_ix 457 (by decide +kernel) (by decide +kernel)
theorem qs_X2_move : Cond.selects RX2 yX2_move yX2_move ∈ TG := TG_ix 458 (by decide +kernel) (by decide +kernel)
theorem qc_X2_move : Cond.code yX2_move cX2_move 3 (Option.none : Option Jvm.ClassFile.FieldType) ∈ TG := TG_ix 459 (by decide +kernel) (by decide +kernel)
theorem qm_L_79 : Cond.methodLink RL 79 yL_pass ∈ TG := TG_ix 460 (by decide +kernel) (by decide +kernel)
theorem qt_L_pass : Cond.static yL_pass ∈ TG := TG_ix 461 (by decide +kernel) (by decide +kernel)
theorem qc_L_pass : Cond.code yL_pass cL_pass 9 (Option.none : Option Jvm.ClassFile.FieldType) ∈ TG := TG_ix 462 (by decide +kernel) (by decide +kernel)
theorem qm_L_83 : Cond.methodLink RL 83 yX6_pass ∈ TG := TG_ix 463 (by decide +kernel) (by decide +kernel)
theorem qi_X6_pass : Cond.instanceMethod yX6_pass ∈ TG := TG_ix 464 (by decide +kernel) (by decide +kernel)
theorem qs_X6_pass : Cond.selects RX6 yX6_pass yX6_pass ∈ TG := TG_ix 465 (by decide +kernel) (by decide +kernel)
theorem qc_X6_pass : Cond.code yX6_pass cX6_pass 2 (some .int) ∈ TG := TG_ix 466 (by decide +kernel) (by decide +kernel)
theorem qm_X6_129 : Cond.methodLink RX6 129 yX4_passPeriods ∈ TG := TG_ix 467 (by decide +kernel) (by decide +kernel)
theorem qi_X4_passPeriods : Cond.instanceMethod yX4_passPeriods ∈ TG := TG_ix 468 (by decide +kernel) (by decide +kernel)
theorem qs_X4_passPeriods : Cond.selects RX4 yX4_passPeriods yX4_passPeriods ∈ TG := TG_ix 469 (by decide +kernel) (by decide +kernel)
theorem qc_X4_passPeriods : Cond.code yX4_passPeriods cX4_passPeriods 5 (Option.none : Option Jvm.ClassFile.FieldType) ∈ TG := TG_ix 470 (by decide +kernel) (by decide +kernel)
theorem qm_X4_101 : Cond.methodLink RX4 101 yX2_passPeriods ∈ TG := TG_ix 471 (by decide +kernel) (by decide +kernel)
theorem qi_X2_passPeriods : Cond.instanceMethod yX2_passPeriods ∈ TG := TG_ix 472 (by decide +kernel) (by decide +kernel)
theorem qs_X2_passPeriods : Cond.selects RX2 yX2_passPeriods yX2_passPeriods ∈ TG := TG_ix 473 (by decide +kernel) (by decide +kernel)
theorem qc_X2_passPeriods : Cond.code yX2_passPeriods cX2_passPeriods 5 (Option.none : Option Jvm.ClassFile.FieldType) ∈ TG := TG_ix 474 (by decide +kernel) (by decide +kernel)
theorem qm_X2_43 : Cond.methodLink RX2 43 yJ9_min_7cf53 ∈ TG := TG_ix 475 (by decide +kernel) (by decide +kernel)
theorem qt_J9_min_7cf53 : Cond.static yJ9_min_7cf53 ∈ TG := TG_ix 476 (by decide +kernel) (by decide +kernel)
theorem qc_J9_min_7cf53 : Cond.code yJ9_min_7cf53 cJ9_min_7cf53 2 (some .int) ∈ TG := TG_ix 477 (by decide +kernel) (by decide +kernel)
theorem qm_X2_39 : Cond.methodLink RX2 39 yX2_liabilityBehind ∈ TG := TG_ix 478 (by decide +kernel) (by decide +kernel)
theorem qi_X2_liabilityBehind : Cond.instanceMethod yX2_liabilityBehind ∈ TG := TG_ix 479 (by decide +kernel) (by decide +kernel)
theorem qs_X2_liabilityBehind : Cond.selects RX2 yX2_liabilityBehind yX2_liabilityBehind ∈ TG := TG_ix 480 (by decide +kernel) (by decide +kernel)
theorem qc_X2_liabilityBehind : Cond.code yX2_liabilityBehind cX2_liabilityBehind 2 (some .int) ∈ TG := TG_ix 481 (by decide +kernel) (by decide +kernel)
theorem qm_X2_49 : Cond.methodLink RX2 49 yX2_assetBehind ∈ TG := TG_ix 482 (by decide +kernel) (by decide +kernel)
theorem qi_X2_assetBehind : Cond.instanceMethod yX2_assetBehind ∈ TG := TG_ix 483 (by decide +kernel) (by decide +kernel)
end
section
/-! WORDS: the tables' words by their places (laid by wip/whole/words.py) -/
theorem qs_X2_assetBehind : Cond.selects RX2 yX2_assetBehind yX2_assetBehind ∈ TG := TG_ix 484 (by decide +kernel) (by decide +kernel)
theorem qc_X2_assetBehind : Cond.code yX2_assetBehind cX2_assetBehind 4 (some .int) ∈ TG := TG_ix 485 (by decide +kernel) (by decide +kernel)
theorem qm_X2_52 : Cond.methodLink RX2 52 yJ9_max_7cf53 ∈ TG := TG_ix 486 (by decide +kernel) (by decide +kernel)
theorem qt_J9_max_7cf53 : Cond.static yJ9_max_7cf53 ∈ TG := TG_ix 487 (by decide +kernel) (by decide +kernel)
theorem qc_J9_max_7cf53 : Cond.code yJ9_max_7cf53 cJ9_max_7cf53 2 (some .int) ∈ TG := TG_ix 488 (by decide +kernel) (by decide +kernel)
theorem qm_X4_105 : Cond.methodLink RX4 105 yX5_passPeriods ∈ TG := TG_ix 489 (by decide +kernel) (by decide +kernel)
theorem qi_X5_passPeriods : Cond.instanceMethod yX5_passPeriods ∈ TG := TG_ix 490 (by decide +kernel) (by decide +kernel)
theorem qs_X5_passPeriods : Cond.selects RX5 yX5_passPeriods yX5_passPeriods ∈ TG := TG_ix 491 (by decide +kernel) (by decide +kernel)
theorem qc_X5_passPeriods : Cond.code yX5_passPeriods cX5_passPeriods 5 (Option.none : Option Jvm.ClassFile.FieldType) ∈ TG := TG_ix 492 (by decide +kernel) (by decide +kernel)
theorem qm_X5_34 : Cond.methodLink RX5 34 yJ9_min_7cf53 ∈ TG := TG_ix 493 (by decide +kernel) (by decide +kernel)
theorem qm_X5_40 : Cond.methodLink RX5 40 yX5_receivableWith ∈ TG := TG_ix 494 (by decide +kernel) (by decide +kernel)
theorem qi_X5_receivableWith : Cond.instanceMethod yX5_receivableWith ∈ TG := TG_ix 495 (by decide +kernel) (by decide +kernel)
theorem qs_X5_receivableWith : Cond.selects RX5 yX5_receivableWith yX5_receivableWith ∈ TG := TG_ix 496 (by decide +kernel) (by decide +kernel)
theorem qc_X5_receivableWith : Cond.code yX5_receivableWith cX5_receivableWith 2 (some .int) ∈ TG := TG_ix 497 (by decide +kernel) (by decide +kernel)
theorem qm_X5_44 : Cond.methodLink RX5 44 yX2_move ∈ TG := TG_ix 499 (by decide +kernel) (by decide +kernel)
theorem qm_X5_50 : Cond.methodLink RX5 50 yJ9_max_7cf53 ∈ TG := TG_ix 500 (by decide +kernel) (by decide +kernel)
theorem qm_L_85 : Cond.methodLink RL 85 yL_changes ∈ TG := TG_ix 501 (by decide +kernel) (by decide +kernel)
theorem qt_L_changes : Cond.static yL_changes ∈ TG := TG_ix 502 (by decide +kernel) (by decide +kernel)
set_option maxRecDepth 100000 in
theorem qc_L_changes : Cond.code yL_changes cL_changes 15 (some .boolean) ∈ TG := TG_ix 503 (by rfl) (by decide +kernel)
theorem qm_L_47 : Cond.methodLink RL 47 yX6_term ∈ TG := TG_ix 504 (by decide +kernel) (by decide +kernel)
theorem qi_X6_term : Cond.instanceMethod yX6_term ∈ TG := TG_ix 505 (by decide +kernel) (by decide +kernel)
theorem qs_X6_term : Cond.selects RX6 yX6_term yX6_term ∈ TG := TG_ix 506 (by decide +kernel) (by decide +kernel)
theorem qc_X6_term : Cond.code yX6_term cX6_term 5 (some .int) ∈ TG := TG_ix 507 (by decide +kernel) (by decide +kernel)
theorem qm_X6_70 : Cond.methodLink RX6 70 yX2_runs ∈ TG := TG_ix 508 (by decide +kernel) (by decide +kernel)
theorem qm_X6_79 : Cond.methodLink RX6 79 yX2_measure ∈ TG := TG_ix 509 (by decide +kernel) (by decide +kernel)
theorem qi_X2_measure : Cond.instanceMethod yX2_measure ∈ TG := TG_ix 510 (by decide +kernel) (by decide +kernel)
theorem qs_X2_measure : Cond.selects RX2 yX2_measure yX2_measure ∈ TG := TG_ix 511 (by decide +kernel) (by decide +kernel)
theorem qc_X2_measure : Cond.code yX2_measure cX2_measure 6 (Option.none : Option Jvm.ClassFile.FieldType) ∈ TG := TG_ix 512 (by decide +kernel) (by decide +kernel)
theorem qm_X2_55 : Cond.methodLink RX2 55 yX2_assetWithLiability ∈ TG := TG_ix 513 (by decide +kernel) (by decide +kernel)
theorem qi_X2_assetWithLiability : Cond.instanceMethod yX2_assetWithLiability ∈ TG := TG_ix 514 (by decide +kernel) (by decide +kernel)
theorem qs_X2_assetWithLiability : Cond.selects RX2 yX2_assetWithLiability yX2_assetWithLiability ∈ TG := TG_ix 515 (by decide +kernel) (by decide +kernel)
theorem qc_X2_assetWithLiability : Cond.code yX2_assetWithLiability cX2_assetWithLiability 2 (some .int) ∈ TG := TG_ix 516 (by decide +kernel) (by decide +kernel)
theorem qm_X6_83 : Cond.methodLink RX6 83 yX4_cutOff ∈ TG := TG_ix 517 (by decide +kernel) (by decide +kernel)
theorem qi_X4_cutOff : Cond.instanceMethod yX4_cutOff ∈ TG := TG_ix 518 (by decide +kernel) (by decide +kernel)
theorem qs_X4_cutOff : Cond.selects RX4 yX4_cutOff yX4_cutOff ∈ TG := TG_ix 519 (by decide +kernel) (by decide +kernel)
theorem qc_X4_cutOff : Cond.code yX4_cutOff cX4_cutOff 5 (Option.none : Option Jvm.ClassFile.FieldType) ∈ TG := TG_ix 520 (by decide +kernel) (by decide +kernel)
theorem qm_X4_108 : Cond.methodLink RX4 108 yX4_lossByCutOff ∈ TG := TG_ix 521 (by decide +kernel) (by decide +kernel)
theorem qi_X4_lossByCutOff : Cond.instanceMethod yX4_lossByCutOff ∈ TG := TG_ix 522 (by decide +kernel) (by decide +kernel)
theorem qs_X4_lossByCutOff : Cond.selects RX4 yX4_lossByCutOff yX4_lossByCutOff ∈ TG := TG_ix 523 (by decide +kernel) (by decide +kernel)
theorem qc_X4_lossByCutOff : Cond.code yX4_lossByCutOff cX4_lossByCutOff 6 (some .int) ∈ TG := TG_ix 524 (by decide +kernel) (by decide +kernel)
theorem qm_X4_123 : Cond.methodLink RX4 123 yX5_lossByCutTo ∈ TG := TG_ix 525 (by decide +kernel) (by decide +kernel)
theorem qi_X5_lossByCutTo : Cond.instanceMethod yX5_lossByCutTo ∈ TG := TG_ix 526 (by decide +kernel) (by decide +kernel)
theorem qs_X5_lossByCutTo : Cond.selects RX5 yX5_lossByCutTo yX5_lossByCutTo ∈ TG := TG_ix 527 (by decide +kernel) (by decide +kernel)
theorem qc_X5_lossByCutTo : Cond.code yX5_lossByCutTo cX5_lossByCutTo 2 (some .int) ∈ TG := TG_ix 528 (by decide +kernel) (by decide +kernel)
theorem qm_X4_111 : Cond.methodLink RX4 111 yX2_move ∈ TG := TG_ix 529 (by decide +kernel) (by decide +kernel)
theorem qm_X4_118 : Cond.methodLink RX4 118 yJ9_min_7cf53 ∈ TG := TG_ix 530 (by decide +kernel) (by decide +kernel)
theorem qm_X4_70 : Cond.methodLink RX4 70 yX5_receivableWith ∈ TG := TG_ix 531 (by decide +kernel) (by decide +kernel)
theorem qm_L_50 : Cond.methodLink RL 50 yL_measure ∈ TG := TG_ix 532 (by decide +kernel) (by decide +kernel)
theorem qt_L_measure : Cond.static yL_measure ∈ TG := TG_ix 533 (by decide +kernel) (by decide +kernel)
theorem qc_L_measure : Cond.code yL_measure cL_measure 12 (some .int) ∈ TG := TG_ix 534 (by decide +kernel) (by decide +kernel)
theorem qm_L_55 : Cond.methodLink RL 55 yX6_rent ∈ TG := TG_ix 535 (by decide +kernel) (by decide +kernel)
theorem qi_X6_rent : Cond.instanceMethod yX6_rent ∈ TG := TG_ix 536 (by decide +kernel) (by decide +kernel)
theorem qs_X6_rent : Cond.selects RX6 yX6_rent yX6_rent ∈ TG := TG_ix 537 (by decide +kernel) (by decide +kernel)
theorem qc_X6_rent : Cond.code yX6_rent cX6_rent 4 (some .int) ∈ TG := TG_ix 538 (by decide +kernel) (by decide +kernel)
theorem qm_L_58 : Cond.methodLink RL 58 yL_part ∈ TG := TG_ix 539 (by decide +kernel) (by decide +kernel)
theorem qt_L_part : Cond.static yL_part ∈ TG := TG_ix 540 (by decide +kernel) (by decide +kernel)
theorem qc_L_part : Cond.code yL_part cL_part 2 (some .int) ∈ TG := TG_ix 541 (by decide +kernel) (by decide +kernel)
theorem qk_L_12 : Cond.constantLong RL 12 (1000) ∈ TG := TG_ix 542 (by decide +kernel) (by decide +kernel)
theorem qm_L_61 : Cond.methodLink RL 61 yX6_endPart ∈ TG := TG_ix 543 (by decide +kernel) (by decide +kernel)
theorem qi_X6_endPart : Cond.instanceMethod yX6_endPart ∈ TG := TG_ix 544 (by decide +kernel) (by decide +kernel)
theorem qs_X6_endPart : Cond.selects RX6 yX6_endPart yX6_endPart ∈ TG := TG_ix 545 (by decide +kernel) (by decide +kernel)
theorem qc_X6_endPart : Cond.code yX6_endPart cX6_endPart 5 (some .int) ∈ TG := TG_ix 546 (by decide +kernel) (by decide +kernel)
theorem qm_X6_96 : Cond.methodLink RX6 96 yX6_isThousandths ∈ TG := TG_ix 547 (by decide +kernel) (by decide +kernel)
theorem qt_X6_isThousandths : Cond.static yX6_isThousandths ∈ TG := TG_ix 548 (by decide +kernel) (by decide +kernel)
theorem qc_X6_isThousandths : Cond.code yX6_isThousandths cX6_isThousandths 1 (some .boolean) ∈ TG := TG_ix 549 (by decide +kernel) (by decide +kernel)
theorem qm_X6_99 : Cond.methodLink RX6 99 yX4_runningOf ∈ TG := TG_ix 550 (by decide +kernel) (by decide +kernel)
theorem qm_X6_103 : Cond.methodLink RX6 103 yX2_endThousandths ∈ TG := TG_ix 551 (by decide +kernel) (by decide +kernel)
theorem qi_X2_endThousandths : Cond.instanceMethod yX2_endThousandths ∈ TG := TG_ix 552 (by decide +kernel) (by decide +kernel)
theorem qs_X2_endThousandths : Cond.selects RX2 yX2_endThousandths yX2_endThousandths ∈ TG := TG_ix 553 (by decide +kernel) (by decide +kernel)
theorem qc_X2_endThousandths : Cond.code yX2_endThousandths cX2_endThousandths 5 (some .int) ∈ TG := TG_ix 554 (by decide +kernel) (by decide +kernel)
theorem qt_X6_thousandthsOf : Cond.static yX6_thousandthsOf ∈ TG := TG_ix 556 (by decide +kernel) (by decide +kernel)
theorem qc_X6_thousandthsOf : Cond.code yX6_thousandthsOf cX6_thousandthsOf 2 (some .int) ∈ TG := TG_ix 557 (by decide +kernel) (by decide +kernel)
theorem qk_X6_319 : Cond.constantLong RX6 319 (1000) ∈ TG := TG_ix 558 (by decide +kernel) (by decide +kernel)
theorem qk_L_64 : Cond.constant RL 64 (100000) ∈ TG := TG_ix 559 (by decide +kernel) (by decide +kernel)
theorem qm_L_65 : Cond.methodLink RL 65 yX6_impair ∈ TG := TG_ix 560 (by decide +kernel) (by decide +kernel)
theorem qi_X6_impair : Cond.instanceMethod yX6_impair ∈ TG := TG_ix 561 (by decide +kernel) (by decide +kernel)
theorem qs_X6_impair : Cond.selects RX6 yX6_impair yX6_impair ∈ TG := TG_ix 562 (by decide +kernel) (by decide +kernel)
theorem qc_X6_impair : Cond.code yX6_impair cX6_impair 4 (some .int) ∈ TG := TG_ix 563 (by decide +kernel) (by decide +kernel)
theorem qk_X6_107 : Cond.constant RX6 107 (1000000) ∈ TG := TG_ix 564 (by decide +kernel) (by decide +kernel)
theorem qm_X6_115 : Cond.methodLink RX6 115 yX2_impairBy ∈ TG := TG_ix 565 (by decide +kernel) (by decide +kernel)
theorem qi_X2_impairBy : Cond.instanceMethod yX2_impairBy ∈ TG := TG_ix 566 (by decide +kernel) (by decide +kernel)
theorem qs_X2_impairBy : Cond.selects RX2 yX2_impairBy yX2_impairBy ∈ TG := TG_ix 567 (by decide +kernel) (by decide +kernel)
theorem qc_X2_impairBy : Cond.code yX2_impairBy cX2_impairBy 2 (Option.none : Option Jvm.ClassFile.FieldType) ∈ TG := TG_ix 568 (by decide +kernel) (by decide +kernel)
theorem qm_L_68 : Cond.methodLink RL 68 yX6_sublet ∈ TG := TG_ix 569 (by decide +kernel) (by decide +kernel)
theorem qi_X6_sublet : Cond.instanceMethod yX6_sublet ∈ TG := TG_ix 570 (by decide +kernel) (by decide +kernel)
theorem qs_X6_sublet : Cond.selects RX6 yX6_sublet yX6_sublet ∈ TG := TG_ix 571 (by decide +kernel) (by decide +kernel)
theorem qc_X6_sublet : Cond.code yX6_sublet cX6_sublet 6 (some .int) ∈ TG := TG_ix 572 (by decide +kernel) (by decide +kernel)
theorem qm_X6_119 : Cond.methodLink RX6 119 yX4_canSublet ∈ TG := TG_ix 573 (by decide +kernel) (by decide +kernel)
theorem qi_X4_canSublet : Cond.instanceMethod yX4_canSublet ∈ TG := TG_ix 574 (by decide +kernel) (by decide +kernel)
theorem qs_X4_canSublet : Cond.selects RX4 yX4_canSublet yX4_canSublet ∈ TG := TG_ix 575 (by decide +kernel) (by decide +kernel)
theorem qc_X4_canSublet : Cond.code yX4_canSublet cX4_canSublet 5 (some .boolean) ∈ TG := TG_ix 576 (by decide +kernel) (by decide +kernel)
theorem qm_X6_122 : Cond.methodLink RX6 122 yX4_addSublease ∈ TG := TG_ix 577 (by decide +kernel) (by decide +kernel)
theorem qi_X4_addSublease : Cond.instanceMethod yX4_addSublease ∈ TG := TG_ix 578 (by decide +kernel) (by decide +kernel)
theorem qs_X4_addSublease : Cond.selects RX4 yX4_addSublease yX4_addSublease ∈ TG := TG_ix 579 (by decide +kernel) (by decide +kernel)
theorem qc_X4_addSublease : Cond.code yX4_addSublease cX4_addSublease 8 (some .int) ∈ TG := TG_ix 580 (by decide +kernel) (by decide +kernel)
theorem qm_X4_77 : Cond.methodLink RX4 77 yX2_subletThousandths ∈ TG := TG_ix 581 (by decide +kernel) (by decide +kernel)
theorem qi_X2_subletThousandths : Cond.instanceMethod yX2_subletThousandths ∈ TG := TG_ix 582 (by decide +kernel) (by decide +kernel)
theorem qs_X2_subletThousandths : Cond.selects RX2 yX2_subletThousandths yX2_subletThousandths ∈ TG := TG_ix 583 (by decide +kernel) (by decide +kernel)
theorem qc_X2_subletThousandths : Cond.code yX2_subletThousandths cX2_subletThousandths 4 (Option.none : Option Jvm.ClassFile.FieldType) ∈ TG := TG_ix 584 (by decide +kernel) (by decide +kernel)
theorem qk_L_98 : Cond.constant RL 98 (2147483647) ∈ TG := TG_ix 585 (by decide +kernel) (by decide +kernel)
end
section
/-! CALLS over J (laid by wip/whole/calls.py) -/
def b2i (P : Prop) [Decidable P] : Int32 := if P then nI 1 else nI 0
theorem b2i_0 {P : Prop} [Decidable P] (h : b2i P = 0) : ¬ P := by intro hp; unfold b2i at h; rw [if_pos hp] at h; exact absurd h (by decide)
theorem b2i_1 {P : Prop} [Decidable P] (h : ¬ b2i P = 0) : P := Decidable.byContradiction (fun hp => h (by unfold b2i; rw [if_neg hp]; decide))
theorem nar_b2i {P : Prop} [Decidable P] : narrow .boolean (.int (b2i P)) = .int (b2i P) := by by_cases h : P; (· unfold b2i; rw [if_pos h]; rfl); (· unfold b2i; rw [if_neg h]; rfl)
theorem b2i_t {P : Prop} [Decidable P] (h : P) : some (Value.int (b2i P)) = some (.int (nI 1)) := by unfold b2i; rw [if_pos h]
theorem b2i_f {P : Prop} [Decidable P] (h : ¬ P) : some (Value.int (b2i P)) = some (.int (nI 0)) := by unfold b2i; rw [if_neg h]
theorem kd_sums {k : Nat} (h : kd k = 3) : kd (k + 8) = 4 := by unfold kd at h ⊢; (repeat' split at h) <;> (repeat' split) <;> omega
theorem kd_st1 {k : Nat} (h : kd k = 0) : kd (k + 1) = 1 := by unfold kd at h ⊢; (repeat' split at h) <;> (repeat' split) <;> omega
theorem kd_st2 {k : Nat} (h : kd k = 0) : kd (k + 2) = 2 := by unfold kd at h ⊢; (repeat' split at h) <;> (repeat' split) <;> omega
theorem kd_ls {k i : Nat} (h : kd k = 0) (hi : i < 8) : kd (k + 3 + i) = 3 := by unfold kd at h ⊢; (repeat' split at h) <;> (repeat' split) <;> omega
theorem kd_sb {k i : Nat} (h : kd k = 0) (hi : i < 12) : kd (k + 19 + i) = 5 := by unfold kd at h ⊢; (repeat' split at h) <;> (repeat' split) <;> omega
theorem kd_sv {i : Nat} (hi : i < 6) : kd (31 * (i + 1)) = 0 := by unfold kd; (repeat' split) <;> omega
section CALLS
variable {p : Program} {l : Launch} {e : Env} {R : Room} {s : State} {m : MethodId} {args : Array Value} {below : List Frame} {meth : Method} {c : Code} {nL : Nat} {g : GC} {cells slots : Nat} {Q : State → Prop} {V : Mem} {L : LMem} {pc : Nat} {lv : List (Option Value)} {st : List Value} {cc : ByteArray} {own : String} {ret : Option FieldType}
theorem j_run (C : Cx p s args m meth c cc nL own ret g) {stk : List Value} {a : Array Value} {v : Option Value} {V' : Mem} {L' : LMem} (hr : ∀ (H : Heap) (locs : List Loc) (ls : Array Slot), HW g s V L H locs → lvO ls nL lv → va_Run p l e R s m args below meth c H locs cells slots 0 0 (F0 m pc ls stk) st (QG v (PW g V' L') (AA g) a) (AA g)) (k : J p l e R s m args below meth c nL g cells slots Q V' L' (pc + 3) lv (v.toList ++ st)) : J p l e R s m args below meth c nL g cells slots Q V L pc lv stk := by
  intro H locs ls hw hl T hT X
  obtain ⟨v1, st₀, t, T', Lc, h0, X', hL, e1, e2, ⟨⟨hv, hB⟩, hz, hk⟩, stp⟩ := hr H locs ls hw hl T hT X
  cases hv
  rw [h0] at hz hk
  obtain ⟨t2, a1, b1⟩ := k T'.heap (locs ++ Lc) ls ⟨by rw [e1]; exact hB, Nat.le_trans hw.2.1 (by rw [e1]; exact hz), fun q h1 h2 => by rw [e1, hk q (Nat.lt_of_lt_of_le h1 hw.2.1) h2]; exact hw.2.2.1 q h1 h2, fun q hq => (List.mem_append.mp hq).elim (hw.2.2.2 q) (hL q)⟩ hl T' rfl X'
  exact ⟨t2, stp t2 a1, b1⟩
theorem AtW.go {U : State} {H : Heap} {locs : List Loc} (C : Cx p s args m meth c cc nL own ret g) (hw : HW g s V L H locs) (hU : U.heap = H) (hW : s.WarmedH U.vm) : AtW g V L U := ⟨by show va_P _ _ _ U.heap; rw [hU]; exact hw.1, CW.warm C.2.2.2.2.2.2.2 hU hW hw.2⟩
theorem j_callS (C : Cx p s args m meth c cc nL own ret g) {y : MethodName} {b : ByteArray} {n d' i0 : Nat} {r : Option FieldType} {V' : Mem} {L' : LMem} {v : Option Value} {As stk : List Value} (hM : MC l y b n r d' g V L As v V' L') (hl : Cond.methodLink own i0 y ∈ TG) (ht : Cond.static y ∈ TG) (hi : Cond.initialized y.cls ∈ TG) (hc : Cond.code y b n r ∈ TG)
    (hy : y.cls ≠ "java/lang/invoke/MethodHandle" ∧ y.cls ≠ "java/lang/invoke/VarHandle" ∧ (parseMethodDescriptor y.desc).map (fun d => d.parameters.length) = some As.length) (hd : d' + 1 ≤ R.frames ∧ 8 + (n + 11) + 30 * d' ≤ R.locals ∧ cells ≤ R.cells ∧ slots ≤ R.slots) (hW : (st.map fun v => v.category).sum ≤ 8) (hdg : decode cc pc = .ok (.invokestatic i0, 3)) (hs : stk = As.reverse ++ st) (k : J p l e R s m args below meth c nL g cells slots Q V' L' (pc + 3) lv (v.toList ++ st)) : J p l e R s m args below meth c nL g cells slots Q V L pc lv stk :=
  j_run C (a := As.toArray) (fun H locs ls hw hlv => va_runS (As := As) (rest := st) ⟨C.1, C.2.1, C.2.2.1, C.2.2.2.1, C.2.2.2.2.1⟩ hM (va_cwS As.length C.2.2.2.2.1 (TG_sub (TG_c hl (TG_c ht (TG_c hi (TG_ws hc))))) rfl rfl rfl hy ⟨hd.1, hd.2.1⟩) ⟨AtW.blind, fun U hU hW => ⟨rfl, AtW.go C hw hU hW⟩⟩ rfl rfl hlv.1 hs (lv_room hW) hdg ⟨hd.2.2.1, hd.2.2.2⟩) k
theorem j_callSN (C : Cx p s args m meth c cc nL own ret g) {y : MethodName} {b : ByteArray} {n d' i0 : Nat} {r : Option FieldType} {V' : Mem} {L' : LMem} {v : Option Value} {As stk : List Value} {host : String} (hM : MC l y b n r d' g V L As v V' L') (hl : Cond.methodLinkNest own i0 y host ∈ NWs) (ht : Cond.static y ∈ TG) (hi : Cond.initialized y.cls ∈ TG) (hc : Cond.code y b n r ∈ TG)
    (hy : y.cls ≠ "java/lang/invoke/MethodHandle" ∧ y.cls ≠ "java/lang/invoke/VarHandle" ∧ (parseMethodDescriptor y.desc).map (fun d => d.parameters.length) = some As.length) (hd : d' + 1 ≤ R.frames ∧ 8 + (n + 11) + 30 * d' ≤ R.locals ∧ cells ≤ R.cells ∧ slots ≤ R.slots) (hW : (st.map fun v => v.category).sum ≤ 8) (hdg : decode cc pc = .ok (.invokestatic i0, 3)) (hs : stk = As.reverse ++ st) (k : J p l e R s m args below meth c nL g cells slots Q V' L' (pc + 3) lv (v.toList ++ st)) : J p l e R s m args below meth c nL g cells slots Q V L pc lv stk :=
  j_run C (a := As.toArray) (fun H locs ls hw hlv => va_runSN (As := As) (rest := st) ⟨C.1, C.2.1, C.2.2.1, C.2.2.2.1, C.2.2.2.2.1⟩ hM ⟨va_cnB As.length C.2.2.2.2.1 (TG_sub (TG_ws hc)) rfl rfl rfl (C.2.2.2.2.2.2.2.2.2.2.1.1 _ hl) (C.2.2.2.2.1 _ hi) hy ⟨hd.1, hd.2.1⟩, C.2.2.2.2.1 _ ht, trivial⟩ ⟨AtW.blind, fun U hU hW => ⟨rfl, AtW.go C hw hU hW⟩⟩ rfl rfl hlv.1 hs (lv_room hW) hdg ⟨hd.2.2.1, hd.2.2.2⟩) k
theorem j_callV (C : Cx p s args m meth c cc nL own ret g) {y : MethodName} {b : ByteArray} {n d' i0 k0 ci : Nat} {fs : List Value} {q : vw_C} {r : Option FieldType} {V' : Mem} {L' : LMem} {v : Option Value} {As stk : List Value} (hob : (TW g V L)[k0]? = some (ad g k0, .inr (ci, fs))) (hcl : vwCl[ci]? = some q) (hq : y.cls = q.1) (hM : MC l y b n r d' g V L (.ref (ad g k0) :: As) v V' L') (hl : Cond.methodLink own i0 y ∈ TG) (ht : Cond.instanceMethod y ∈ TG) (hse : Cond.selects q.1 y y ∈ TG) (hi : Cond.initialized q.1 ∈ TG) (hc : Cond.code y b n r ∈ TG)
    (hy : y.cls ≠ "java/lang/invoke/MethodHandle" ∧ y.cls ≠ "java/lang/invoke/VarHandle" ∧ (parseMethodDescriptor y.desc).map (fun d => d.parameters.length) = some As.length) (hd : d' + 1 ≤ R.frames ∧ 8 + (n + 11) + 30 * d' ≤ R.locals ∧ cells ≤ R.cells ∧ slots ≤ R.slots) (hW : (st.map fun v => v.category).sum ≤ 8) (hdg : decode cc pc = .ok (.invokevirtual i0, 3)) (hs : stk = As.reverse ++ .ref (ad g k0) :: st) (k : J p l e R s m args below meth c nL g cells slots Q V' L' (pc + 3) lv (v.toList ++ st)) : J p l e R s m args below meth c nL g cells slots Q V L pc lv stk :=
  j_run C (a := (Value.ref (ad g k0) :: As).toArray) (fun H locs ls hw hlv => va_runV (C := q.1) (As := As) (rest := st) ⟨C.1, C.2.1, C.2.2.1, C.2.2.2.1, C.2.2.2.2.1⟩ hM (cwV As.length C.2.2.2.2.1 (TG_sub (TG_c hl (TG_c ht (TG_c hse (TG_c hi (TG_ws hc)))))) rfl rfl rfl ⟨hq, hy⟩ ⟨hd.1, hd.2.1⟩) ⟨AtW.blind, va_recv C.2.2.2.2.2.2.2.1 hw.1 hcl hob, fun U hU hW => ⟨rfl, AtW.go C hw hU hW⟩⟩ rfl rfl hlv.1 hs (lv_room hW) hdg ⟨hd.2.2.1, hd.2.2.2⟩) k
theorem j_callS0v (C : Cx p s args m meth c cc nL own ret g) {y : MethodName} {b : ByteArray} {n d' i0 : Nat} {r : Option FieldType} {V' : Mem} {L' : LMem}    (hM : MC l y b n r d' g V L [] none V' L') (hl : Cond.methodLink own i0 y ∈ TG) (ht : Cond.static y ∈ TG) (hi : Cond.initialized y.cls ∈ TG) (hc : Cond.code y b n r ∈ TG) (hy : y.cls ≠ "java/lang/invoke/MethodHandle" ∧ y.cls ≠ "java/lang/invoke/VarHandle" ∧ (parseMethodDescriptor y.desc).map (fun d => d.parameters.length) = some 0) (hd : d' + 1 ≤ R.frames ∧ 8 + (n + 11) + 30 * d' ≤ R.locals ∧ cells ≤ R.cells ∧ slots ≤ R.slots) (hW : (st.map fun v => v.category).sum ≤ 8) (hdg : decode cc pc = .ok (.invokestatic i0, 3)) (k : J p l e R s m args below meth c nL g cells slots Q V' L' (pc + 3) lv st) : J p l e R s m args below meth c nL g cells slots Q V L pc lv (st) := j_callS C hM hl ht hi hc hy hd hW hdg rfl k
theorem j_callSN0v (C : Cx p s args m meth c cc nL own ret g) {y : MethodName} {b : ByteArray} {n d' i0 : Nat} {r : Option FieldType} {V' : Mem} {L' : LMem}   {host : String} (hM : MC l y b n r d' g V L [] none V' L') (hl : Cond.methodLinkNest own i0 y host ∈ NWs) (ht : Cond.static y ∈ TG) (hi : Cond.initialized y.cls ∈ TG) (hc : Cond.code y b n r ∈ TG) (hy : y.cls ≠ "java/lang/invoke/MethodHandle" ∧ y.cls ≠ "java/lang/invoke/VarHandle" ∧ (parseMethodDescriptor y.desc).map (fun d => d.parameters.length) = some 0) (hd : d' + 1 ≤ R.frames ∧ 8 + (n + 11) + 30 * d' ≤ R.locals ∧ cells ≤ R.cells ∧ slots ≤ R.slots) (hW : (st.map fun v => v.category).sum ≤ 8) (hdg : decode cc pc = .ok (.invokestatic i0, 3)) (k : J p l e R s m args below meth c nL g cells slots Q V' L' (pc + 3) lv st) : J p l e R s m args below meth c nL g cells slots Q V L pc lv (st) := j_callSN C hM hl ht hi hc hy hd hW hdg rfl k
theorem j_callV0v (C : Cx p s args m meth c cc nL own ret g) {y : MethodName} {b : ByteArray} {n d' i0 k0 ci : Nat} {fs : List Value} {q : vw_C} {r : Option FieldType} {V' : Mem} {L' : LMem}   (hob : (TW g V L)[k0]? = some (ad g k0, .inr (ci, fs))) (hcl : vwCl[ci]? = some q) (hq : y.cls = q.1) (hM : MC l y b n r d' g V L [.ref (ad g k0)] none V' L') (hl : Cond.methodLink own i0 y ∈ TG) (ht : Cond.instanceMethod y ∈ TG) (hse : Cond.selects q.1 y y ∈ TG) (hi : Cond.initialized q.1 ∈ TG) (hc : Cond.code y b n r ∈ TG) (hy : y.cls ≠ "java/lang/invoke/MethodHandle" ∧ y.cls ≠ "java/lang/invoke/VarHandle" ∧ (parseMethodDescriptor y.desc).map (fun d => d.parameters.length) = some 0) (hd : d' + 1 ≤ R.frames ∧ 8 + (n + 11) + 30 * d' ≤ R.locals ∧ cells ≤ R.cells ∧ slots ≤ R.slots) (hW : (st.map fun v => v.category).sum ≤ 8) (hdg : decode cc pc = .ok (.invokevirtual i0, 3)) (k : J p l e R s m args below meth c nL g cells slots Q V' L' (pc + 3) lv st) : J p l e R s m args below meth c nL g cells slots Q V L pc lv (.ref (ad g k0) :: st) := j_callV C hob hcl hq hM hl ht hse hi hc hy hd hW hdg rfl k
theorem j_callS0r (C : Cx p s args m meth c cc nL own ret g) {y : MethodName} {b : ByteArray} {n d' i0 : Nat} {r : Option FieldType} {V' : Mem} {L' : LMem}  {x : Value}  (hM : MC l y b n r d' g V L [] (some x) V' L') (hl : Cond.methodLink own i0 y ∈ TG) (ht : Cond.static y ∈ TG) (hi : Cond.initialized y.cls ∈ TG) (hc : Cond.code y b n r ∈ TG) (hy : y.cls ≠ "java/lang/invoke/MethodHandle" ∧ y.cls ≠ "java/lang/invoke/VarHandle" ∧ (parseMethodDescriptor y.desc).map (fun d => d.parameters.length) = some 0) (hd : d' + 1 ≤ R.frames ∧ 8 + (n + 11) + 30 * d' ≤ R.locals ∧ cells ≤ R.cells ∧ slots ≤ R.slots) (hW : (st.map fun v => v.category).sum ≤ 8) (hdg : decode cc pc = .ok (.invokestatic i0, 3)) (k : J p l e R s m args below meth c nL g cells slots Q V' L' (pc + 3) lv (x :: st)) : J p l e R s m args below meth c nL g cells slots Q V L pc lv (st) := j_callS C hM hl ht hi hc hy hd hW hdg rfl k
theorem j_callSN0r (C : Cx p s args m meth c cc nL own ret g) {y : MethodName} {b : ByteArray} {n d' i0 : Nat} {r : Option FieldType} {V' : Mem} {L' : LMem}  {x : Value} {host : String} (hM : MC l y b n r d' g V L [] (some x) V' L') (hl : Cond.methodLinkNest own i0 y host ∈ NWs) (ht : Cond.static y ∈ TG) (hi : Cond.initialized y.cls ∈ TG) (hc : Cond.code y b n r ∈ TG) (hy : y.cls ≠ "java/lang/invoke/MethodHandle" ∧ y.cls ≠ "java/lang/invoke/VarHandle" ∧ (parseMethodDescriptor y.desc).map (fun d => d.parameters.length) = some 0) (hd : d' + 1 ≤ R.frames ∧ 8 + (n + 11) + 30 * d' ≤ R.locals ∧ cells ≤ R.cells ∧ slots ≤ R.slots) (hW : (st.map fun v => v.category).sum ≤ 8) (hdg : decode cc pc = .ok (.invokestatic i0, 3)) (k : J p l e R s m args below meth c nL g cells slots Q V' L' (pc + 3) lv (x :: st)) : J p l e R s m args below meth c nL g cells slots Q V L pc lv (st) := j_callSN C hM hl ht hi hc hy hd hW hdg rfl k
theorem j_callV0r (C : Cx p s args m meth c cc nL own ret g) {y : MethodName} {b : ByteArray} {n d' i0 k0 ci : Nat} {fs : List Value} {q : vw_C} {r : Option FieldType} {V' : Mem} {L' : LMem}  {x : Value} (hob : (TW g V L)[k0]? = some (ad g k0, .inr (ci, fs))) (hcl : vwCl[ci]? = some q) (hq : y.cls = q.1) (hM : MC l y b n r d' g V L [.ref (ad g k0)] (some x) V' L') (hl : Cond.methodLink own i0 y ∈ TG) (ht : Cond.instanceMethod y ∈ TG) (hse : Cond.selects q.1 y y ∈ TG) (hi : Cond.initialized q.1 ∈ TG) (hc : Cond.code y b n r ∈ TG) (hy : y.cls ≠ "java/lang/invoke/MethodHandle" ∧ y.cls ≠ "java/lang/invoke/VarHandle" ∧ (parseMethodDescriptor y.desc).map (fun d => d.parameters.length) = some 0) (hd : d' + 1 ≤ R.frames ∧ 8 + (n + 11) + 30 * d' ≤ R.locals ∧ cells ≤ R.cells ∧ slots ≤ R.slots) (hW : (st.map fun v => v.category).sum ≤ 8) (hdg : decode cc pc = .ok (.invokevirtual i0, 3)) (k : J p l e R s m args below meth c nL g cells slots Q V' L' (pc + 3) lv (x :: st)) : J p l e R s m args below meth c nL g cells slots Q V L pc lv (.ref (ad g k0) :: st) := j_callV C hob hcl hq hM hl ht hse hi hc hy hd hW hdg rfl k
theorem j_callS1v (C : Cx p s args m meth c cc nL own ret g) {y : MethodName} {b : ByteArray} {n d' i0 : Nat} {r : Option FieldType} {V' : Mem} {L' : LMem} {a0 : Value}   (hM : MC l y b n r d' g V L [a0] none V' L') (hl : Cond.methodLink own i0 y ∈ TG) (ht : Cond.static y ∈ TG) (hi : Cond.initialized y.cls ∈ TG) (hc : Cond.code y b n r ∈ TG) (hy : y.cls ≠ "java/lang/invoke/MethodHandle" ∧ y.cls ≠ "java/lang/invoke/VarHandle" ∧ (parseMethodDescriptor y.desc).map (fun d => d.parameters.length) = some 1) (hd : d' + 1 ≤ R.frames ∧ 8 + (n + 11) + 30 * d' ≤ R.locals ∧ cells ≤ R.cells ∧ slots ≤ R.slots) (hW : (st.map fun v => v.category).sum ≤ 8) (hdg : decode cc pc = .ok (.invokestatic i0, 3)) (k : J p l e R s m args below meth c nL g cells slots Q V' L' (pc + 3) lv st) : J p l e R s m args below meth c nL g cells slots Q V L pc lv (a0 :: st) := j_callS C hM hl ht hi hc hy hd hW hdg rfl k
theorem j_callSN1v (C : Cx p s args m meth c cc nL own ret g) {y : MethodName} {b : ByteArray} {n d' i0 : Nat} {r : Option FieldType} {V' : Mem} {L' : LMem} {a0 : Value}  {host : String} (hM : MC l y b n r d' g V L [a0] none V' L') (hl : Cond.methodLinkNest own i0 y host ∈ NWs) (ht : Cond.static y ∈ TG) (hi : Cond.initialized y.cls ∈ TG) (hc : Cond.code y b n r ∈ TG) (hy : y.cls ≠ "java/lang/invoke/MethodHandle" ∧ y.cls ≠ "java/lang/invoke/VarHandle" ∧ (parseMethodDescriptor y.desc).map (fun d => d.parameters.length) = some 1) (hd : d' + 1 ≤ R.frames ∧ 8 + (n + 11) + 30 * d' ≤ R.locals ∧ cells ≤ R.cells ∧ slots ≤ R.slots) (hW : (st.map fun v => v.category).sum ≤ 8) (hdg : decode cc pc = .ok (.invokestatic i0, 3)) (k : J p l e R s m args below meth c nL g cells slots Q V' L' (pc + 3) lv st) : J p l e R s m args below meth c nL g cells slots Q V L pc lv (a0 :: st) := j_callSN C hM hl ht hi hc hy hd hW hdg rfl k
theorem j_callV1v (C : Cx p s args m meth c cc nL own ret g) {y : MethodName} {b : ByteArray} {n d' i0 k0 ci : Nat} {fs : List Value} {q : vw_C} {r : Option FieldType} {V' : Mem} {L' : LMem} {a0 : Value}  (hob : (TW g V L)[k0]? = some (ad g k0, .inr (ci, fs))) (hcl : vwCl[ci]? = some q) (hq : y.cls = q.1) (hM : MC l y b n r d' g V L [.ref (ad g k0), a0] none V' L') (hl : Cond.methodLink own i0 y ∈ TG) (ht : Cond.instanceMethod y ∈ TG) (hse : Cond.selects q.1 y y ∈ TG) (hi : Cond.initialized q.1 ∈ TG) (hc : Cond.code y b n r ∈ TG) (hy : y.cls ≠ "java/lang/invoke/MethodHandle" ∧ y.cls ≠ "java/lang/invoke/VarHandle" ∧ (parseMethodDescriptor y.desc).map (fun d => d.parameters.length) = some 1) (hd : d' + 1 ≤ R.frames ∧ 8 + (n + 11) + 30 * d' ≤ R.locals ∧ cells ≤ R.cells ∧ slots ≤ R.slots) (hW : (st.map fun v => v.category).sum ≤ 8) (hdg : decode cc pc = .ok (.invokevirtual i0, 3)) (k : J p l e R s m args below meth c nL g cells slots Q V' L' (pc + 3) lv st) : J p l e R s m args below meth c nL g cells slots Q V L pc lv (a0 :: .ref (ad g k0) :: st) := j_callV C hob hcl hq hM hl ht hse hi hc hy hd hW hdg rfl k
theorem j_callS1r (C : Cx p s args m meth c cc nL own ret g) {y : MethodName} {b : ByteArray} {n d' i0 : Nat} {r : Option FieldType} {V' : Mem} {L' : LMem} {a0 : Value} {x : Value}  (hM : MC l y b n r d' g V L [a0] (some x) V' L') (hl : Cond.methodLink own i0 y ∈ TG) (ht : Cond.static y ∈ TG) (hi : Cond.initialized y.cls ∈ TG) (hc : Cond.code y b n r ∈ TG) (hy : y.cls ≠ "java/lang/invoke/MethodHandle" ∧ y.cls ≠ "java/lang/invoke/VarHandle" ∧ (parseMethodDescriptor y.desc).map (fun d => d.parameters.length) = some 1) (hd : d' + 1 ≤ R.frames ∧ 8 + (n + 11) + 30 * d' ≤ R.locals ∧ cells ≤ R.cells ∧ slots ≤ R.slots) (hW : (st.map fun v => v.category).sum ≤ 8) (hdg : decode cc pc = .ok (.invokestatic i0, 3)) (k : J p l e R s m args below meth c nL g cells slots Q V' L' (pc + 3) lv (x :: st)) : J p l e R s m args below meth c nL g cells slots Q V L pc lv (a0 :: st) := j_callS C hM hl ht hi hc hy hd hW hdg rfl k
theorem j_callSN1r (C : Cx p s args m meth c cc nL own ret g) {y : MethodName} {b : ByteArray} {n d' i0 : Nat} {r : Option FieldType} {V' : Mem} {L' : LMem} {a0 : Value} {x : Value} {host : String} (hM : MC l y b n r d' g V L [a0] (some x) V' L') (hl : Cond.methodLinkNest own i0 y host ∈ NWs) (ht : Cond.static y ∈ TG) (hi : Cond.initialized y.cls ∈ TG) (hc : Cond.code y b n r ∈ TG) (hy : y.cls ≠ "java/lang/invoke/MethodHandle" ∧ y.cls ≠ "java/lang/invoke/VarHandle" ∧ (parseMethodDescriptor y.desc).map (fun d => d.parameters.length) = some 1) (hd : d' + 1 ≤ R.frames ∧ 8 + (n + 11) + 30 * d' ≤ R.locals ∧ cells ≤ R.cells ∧ slots ≤ R.slots) (hW : (st.map fun v => v.category).sum ≤ 8) (hdg : decode cc pc = .ok (.invokestatic i0, 3)) (k : J p l e R s m args below meth c nL g cells slots Q V' L' (pc + 3) lv (x :: st)) : J p l e R s m args below meth c nL g cells slots Q V L pc lv (a0 :: st) := j_callSN C hM hl ht hi hc hy hd hW hdg rfl k
theorem j_callV1r (C : Cx p s args m meth c cc nL own ret g) {y : MethodName} {b : ByteArray} {n d' i0 k0 ci : Nat} {fs : List Value} {q : vw_C} {r : Option FieldType} {V' : Mem} {L' : LMem} {a0 : Value} {x : Value} (hob : (TW g V L)[k0]? = some (ad g k0, .inr (ci, fs))) (hcl : vwCl[ci]? = some q) (hq : y.cls = q.1) (hM : MC l y b n r d' g V L [.ref (ad g k0), a0] (some x) V' L') (hl : Cond.methodLink own i0 y ∈ TG) (ht : Cond.instanceMethod y ∈ TG) (hse : Cond.selects q.1 y y ∈ TG) (hi : Cond.initialized q.1 ∈ TG) (hc : Cond.code y b n r ∈ TG) (hy : y.cls ≠ "java/lang/invoke/MethodHandle" ∧ y.cls ≠ "java/lang/invoke/VarHandle" ∧ (parseMethodDescriptor y.desc).map (fun d => d.parameters.length) = some 1) (hd : d' + 1 ≤ R.frames ∧ 8 + (n + 11) + 30 * d' ≤ R.locals ∧ cells ≤ R.cells ∧ slots ≤ R.slots) (hW : (st.map fun v => v.category).sum ≤ 8) (hdg : decode cc pc = .ok (.invokevirtual i0, 3)) (k : J p l e R s m args below meth c nL g cells slots Q V' L' (pc + 3) lv (x :: st)) : J p l e R s m args below meth c nL g cells slots Q V L pc lv (a0 :: .ref (ad g k0) :: st) := j_callV C hob hcl hq hM hl ht hse hi hc hy hd hW hdg rfl k
theorem j_callS2v (C : Cx p s args m meth c cc nL own ret g) {y : MethodName} {b : ByteArray} {n d' i0 : Nat} {r : Option FieldType} {V' : Mem} {L' : LMem} {a0 a1 : Value}   (hM : MC l y b n r d' g V L [a0, a1] none V' L') (hl : Cond.methodLink own i0 y ∈ TG) (ht : Cond.static y ∈ TG) (hi : Cond.initialized y.cls ∈ TG) (hc : Cond.code y b n r ∈ TG) (hy : y.cls ≠ "java/lang/invoke/MethodHandle" ∧ y.cls ≠ "java/lang/invoke/VarHandle" ∧ (parseMethodDescriptor y.desc).map (fun d => d.parameters.length) = some 2) (hd : d' + 1 ≤ R.frames ∧ 8 + (n + 11) + 30 * d' ≤ R.locals ∧ cells ≤ R.cells ∧ slots ≤ R.slots) (hW : (st.map fun v => v.category).sum ≤ 8) (hdg : decode cc pc = .ok (.invokestatic i0, 3)) (k : J p l e R s m args below meth c nL g cells slots Q V' L' (pc + 3) lv st) : J p l e R s m args below meth c nL g cells slots Q V L pc lv (a1 :: a0 :: st) := j_callS C hM hl ht hi hc hy hd hW hdg rfl k
theorem j_callSN2v (C : Cx p s args m meth c cc nL own ret g) {y : MethodName} {b : ByteArray} {n d' i0 : Nat} {r : Option FieldType} {V' : Mem} {L' : LMem} {a0 a1 : Value}  {host : String} (hM : MC l y b n r d' g V L [a0, a1] none V' L') (hl : Cond.methodLinkNest own i0 y host ∈ NWs) (ht : Cond.static y ∈ TG) (hi : Cond.initialized y.cls ∈ TG) (hc : Cond.code y b n r ∈ TG) (hy : y.cls ≠ "java/lang/invoke/MethodHandle" ∧ y.cls ≠ "java/lang/invoke/VarHandle" ∧ (parseMethodDescriptor y.desc).map (fun d => d.parameters.length) = some 2) (hd : d' + 1 ≤ R.frames ∧ 8 + (n + 11) + 30 * d' ≤ R.locals ∧ cells ≤ R.cells ∧ slots ≤ R.slots) (hW : (st.map fun v => v.category).sum ≤ 8) (hdg : decode cc pc = .ok (.invokestatic i0, 3)) (k : J p l e R s m args below meth c nL g cells slots Q V' L' (pc + 3) lv st) : J p l e R s m args below meth c nL g cells slots Q V L pc lv (a1 :: a0 :: st) := j_callSN C hM hl ht hi hc hy hd hW hdg rfl k
theorem j_callV2v (C : Cx p s args m meth c cc nL own ret g) {y : MethodName} {b : ByteArray} {n d' i0 k0 ci : Nat} {fs : List Value} {q : vw_C} {r : Option FieldType} {V' : Mem} {L' : LMem} {a0 a1 : Value}  (hob : (TW g V L)[k0]? = some (ad g k0, .inr (ci, fs))) (hcl : vwCl[ci]? = some q) (hq : y.cls = q.1) (hM : MC l y b n r d' g V L [.ref (ad g k0), a0, a1] none V' L') (hl : Cond.methodLink own i0 y ∈ TG) (ht : Cond.instanceMethod y ∈ TG) (hse : Cond.selects q.1 y y ∈ TG) (hi : Cond.initialized q.1 ∈ TG) (hc : Cond.code y b n r ∈ TG) (hy : y.cls ≠ "java/lang/invoke/MethodHandle" ∧ y.cls ≠ "java/lang/invoke/VarHandle" ∧ (parseMethodDescriptor y.desc).map (fun d => d.parameters.length) = some 2) (hd : d' + 1 ≤ R.frames ∧ 8 + (n + 11) + 30 * d' ≤ R.locals ∧ cells ≤ R.cells ∧ slots ≤ R.slots) (hW : (st.map fun v => v.category).sum ≤ 8) (hdg : decode cc pc = .ok (.invokevirtual i0, 3)) (k : J p l e R s m args below meth c nL g cells slots Q V' L' (pc + 3) lv st) : J p l e R s m args below meth c nL g cells slots Q V L pc lv (a1 :: a0 :: .ref (ad g k0) :: st) := j_callV C hob hcl hq hM hl ht hse hi hc hy hd hW hdg rfl k
theorem j_callS2r (C : Cx p s args m meth c cc nL own ret g) {y : MethodName} {b : ByteArray} {n d' i0 : Nat} {r : Option FieldType} {V' : Mem} {L' : LMem} {a0 a1 : Value} {x : Value}  (hM : MC l y b n r d' g V L [a0, a1] (some x) V' L') (hl : Cond.methodLink own i0 y ∈ TG) (ht : Cond.static y ∈ TG) (hi : Cond.initialized y.cls ∈ TG) (hc : Cond.code y b n r ∈ TG) (hy : y.cls ≠ "java/lang/invoke/MethodHandle" ∧ y.cls ≠ "java/lang/invoke/VarHandle" ∧ (parseMethodDescriptor y.desc).map (fun d => d.parameters.length) = some 2) (hd : d' + 1 ≤ R.frames ∧ 8 + (n + 11) + 30 * d' ≤ R.locals ∧ cells ≤ R.cells ∧ slots ≤ R.slots) (hW : (st.map fun v => v.category).sum ≤ 8) (hdg : decode cc pc = .ok (.invokestatic i0, 3)) (k : J p l e R s m args below meth c nL g cells slots Q V' L' (pc + 3) lv (x :: st)) : J p l e R s m args below meth c nL g cells slots Q V L pc lv (a1 :: a0 :: st) := j_callS C hM hl ht hi hc hy hd hW hdg rfl k
theorem j_callSN2r (C : Cx p s args m meth c cc nL own ret g) {y : MethodName} {b : ByteArray} {n d' i0 : Nat} {r : Option FieldType} {V' : Mem} {L' : LMem} {a0 a1 : Value} {x : Value} {host : String} (hM : MC l y b n r d' g V L [a0, a1] (some x) V' L') (hl : Cond.methodLinkNest own i0 y host ∈ NWs) (ht : Cond.static y ∈ TG) (hi : Cond.initialized y.cls ∈ TG) (hc : Cond.code y b n r ∈ TG) (hy : y.cls ≠ "java/lang/invoke/MethodHandle" ∧ y.cls ≠ "java/lang/invoke/VarHandle" ∧ (parseMethodDescriptor y.desc).map (fun d => d.parameters.length) = some 2) (hd : d' + 1 ≤ R.frames ∧ 8 + (n + 11) + 30 * d' ≤ R.locals ∧ cells ≤ R.cells ∧ slots ≤ R.slots) (hW : (st.map fun v => v.category).sum ≤ 8) (hdg : decode cc pc = .ok (.invokestatic i0, 3)) (k : J p l e R s m args below meth c nL g cells slots Q V' L' (pc + 3) lv (x :: st)) : J p l e R s m args below meth c nL g cells slots Q V L pc lv (a1 :: a0 :: st) := j_callSN C hM hl ht hi hc hy hd hW hdg rfl k
theorem j_callV2r (C : Cx p s args m meth c cc nL own ret g) {y : MethodName} {b : ByteArray} {n d' i0 k0 ci : Nat} {fs : List Value} {q : vw_C} {r : Option FieldType} {V' : Mem} {L' : LMem} {a0 a1 : Value} {x : Value} (hob : (TW g V L)[k0]? = some (ad g k0, .inr (ci, fs))) (hcl : vwCl[ci]? = some q) (hq : y.cls = q.1) (hM : MC l y b n r d' g V L [.ref (ad g k0), a0, a1] (some x) V' L') (hl : Cond.methodLink own i0 y ∈ TG) (ht : Cond.instanceMethod y ∈ TG) (hse : Cond.selects q.1 y y ∈ TG) (hi : Cond.initialized q.1 ∈ TG) (hc : Cond.code y b n r ∈ TG) (hy : y.cls ≠ "java/lang/invoke/MethodHandle" ∧ y.cls ≠ "java/lang/invoke/VarHandle" ∧ (parseMethodDescriptor y.desc).map (fun d => d.parameters.length) = some 2) (hd : d' + 1 ≤ R.frames ∧ 8 + (n + 11) + 30 * d' ≤ R.locals ∧ cells ≤ R.cells ∧ slots ≤ R.slots) (hW : (st.map fun v => v.category).sum ≤ 8) (hdg : decode cc pc = .ok (.invokevirtual i0, 3)) (k : J p l e R s m args below meth c nL g cells slots Q V' L' (pc + 3) lv (x :: st)) : J p l e R s m args below meth c nL g cells slots Q V L pc lv (a1 :: a0 :: .ref (ad g k0) :: st) := j_callV C hob hcl hq hM hl ht hse hi hc hy hd hW hdg rfl k
theorem j_callS3v (C : Cx p s args m meth c cc nL own ret g) {y : MethodName} {b : ByteArray} {n d' i0 : Nat} {r : Option FieldType} {V' : Mem} {L' : LMem} {a0 a1 a2 : Value}   (hM : MC l y b n r d' g V L [a0, a1, a2] none V' L') (hl : Cond.methodLink own i0 y ∈ TG) (ht : Cond.static y ∈ TG) (hi : Cond.initialized y.cls ∈ TG) (hc : Cond.code y b n r ∈ TG) (hy : y.cls ≠ "java/lang/invoke/MethodHandle" ∧ y.cls ≠ "java/lang/invoke/VarHandle" ∧ (parseMethodDescriptor y.desc).map (fun d => d.parameters.length) = some 3) (hd : d' + 1 ≤ R.frames ∧ 8 + (n + 11) + 30 * d' ≤ R.locals ∧ cells ≤ R.cells ∧ slots ≤ R.slots) (hW : (st.map fun v => v.category).sum ≤ 8) (hdg : decode cc pc = .ok (.invokestatic i0, 3)) (k : J p l e R s m args below meth c nL g cells slots Q V' L' (pc + 3) lv st) : J p l e R s m args below meth c nL g cells slots Q V L pc lv (a2 :: a1 :: a0 :: st) := j_callS C hM hl ht hi hc hy hd hW hdg rfl k
theorem j_callSN3v (C : Cx p s args m meth c cc nL own ret g) {y : MethodName} {b : ByteArray} {n d' i0 : Nat} {r : Option FieldType} {V' : Mem} {L' : LMem} {a0 a1 a2 : Value}  {host : String} (hM : MC l y b n r d' g V L [a0, a1, a2] none V' L') (hl : Cond.methodLinkNest own i0 y host ∈ NWs) (ht : Cond.static y ∈ TG) (hi : Cond.initialized y.cls ∈ TG) (hc : Cond.code y b n r ∈ TG) (hy : y.cls ≠ "java/lang/invoke/MethodHandle" ∧ y.cls ≠ "java/lang/invoke/VarHandle" ∧ (parseMethodDescriptor y.desc).map (fun d => d.parameters.length) = some 3) (hd : d' + 1 ≤ R.frames ∧ 8 + (n + 11) + 30 * d' ≤ R.locals ∧ cells ≤ R.cells ∧ slots ≤ R.slots) (hW : (st.map fun v => v.category).sum ≤ 8) (hdg : decode cc pc = .ok (.invokestatic i0, 3)) (k : J p l e R s m args below meth c nL g cells slots Q V' L' (pc + 3) lv st) : J p l e R s m args below meth c nL g cells slots Q V L pc lv (a2 :: a1 :: a0 :: st) := j_callSN C hM hl ht hi hc hy hd hW hdg rfl k
theorem j_callV3v (C : Cx p s args m meth c cc nL own ret g) {y : MethodName} {b : ByteArray} {n d' i0 k0 ci : Nat} {fs : List Value} {q : vw_C} {r : Option FieldType} {V' : Mem} {L' : LMem} {a0 a1 a2 : Value}  (hob : (TW g V L)[k0]? = some (ad g k0, .inr (ci, fs))) (hcl : vwCl[ci]? = some q) (hq : y.cls = q.1) (hM : MC l y b n r d' g V L [.ref (ad g k0), a0, a1, a2] none V' L') (hl : Cond.methodLink own i0 y ∈ TG) (ht : Cond.instanceMethod y ∈ TG) (hse : Cond.selects q.1 y y ∈ TG) (hi : Cond.initialized q.1 ∈ TG) (hc : Cond.code y b n r ∈ TG) (hy : y.cls ≠ "java/lang/invoke/MethodHandle" ∧ y.cls ≠ "java/lang/invoke/VarHandle" ∧ (parseMethodDescriptor y.desc).map (fun d => d.parameters.length) = some 3) (hd : d' + 1 ≤ R.frames ∧ 8 + (n + 11) + 30 * d' ≤ R.locals ∧ cells ≤ R.cells ∧ slots ≤ R.slots) (hW : (st.map fun v => v.category).sum ≤ 8) (hdg : decode cc pc = .ok (.invokevirtual i0, 3)) (k : J p l e R s m args below meth c nL g cells slots Q V' L' (pc + 3) lv st) : J p l e R s m args below meth c nL g cells slots Q V L pc lv (a2 :: a1 :: a0 :: .ref (ad g k0) :: st) := j_callV C hob hcl hq hM hl ht hse hi hc hy hd hW hdg rfl k
theorem j_callS3r (C : Cx p s args m meth c cc nL own ret g) {y : MethodName} {b : ByteArray} {n d' i0 : Nat} {r : Option FieldType} {V' : Mem} {L' : LMem} {a0 a1 a2 : Value} {x : Value}  (hM : MC l y b n r d' g V L [a0, a1, a2] (some x) V' L') (hl : Cond.methodLink own i0 y ∈ TG) (ht : Cond.static y ∈ TG) (hi : Cond.initialized y.cls ∈ TG) (hc : Cond.code y b n r ∈ TG) (hy : y.cls ≠ "java/lang/invoke/MethodHandle" ∧ y.cls ≠ "java/lang/invoke/VarHandle" ∧ (parseMethodDescriptor y.desc).map (fun d => d.parameters.length) = some 3) (hd : d' + 1 ≤ R.frames ∧ 8 + (n + 11) + 30 * d' ≤ R.locals ∧ cells ≤ R.cells ∧ slots ≤ R.slots) (hW : (st.map fun v => v.category).sum ≤ 8) (hdg : decode cc pc = .ok (.invokestatic i0, 3)) (k : J p l e R s m args below meth c nL g cells slots Q V' L' (pc + 3) lv (x :: st)) : J p l e R s m args below meth c nL g cells slots Q V L pc lv (a2 :: a1 :: a0 :: st) := j_callS C hM hl ht hi hc hy hd hW hdg rfl k
theorem j_callSN3r (C : Cx p s args m meth c cc nL own ret g) {y : MethodName} {b : ByteArray} {n d' i0 : Nat} {r : Option FieldType} {V' : Mem} {L' : LMem} {a0 a1 a2 : Value} {x : Value} {host : String} (hM : MC l y b n r d' g V L [a0, a1, a2] (some x) V' L') (hl : Cond.methodLinkNest own i0 y host ∈ NWs) (ht : Cond.static y ∈ TG) (hi : Cond.initialized y.cls ∈ TG) (hc : Cond.code y b n r ∈ TG) (hy : y.cls ≠ "java/lang/invoke/MethodHandle" ∧ y.cls ≠ "java/lang/invoke/VarHandle" ∧ (parseMethodDescriptor y.desc).map (fun d => d.parameters.length) = some 3) (hd : d' + 1 ≤ R.frames ∧ 8 + (n + 11) + 30 * d' ≤ R.locals ∧ cells ≤ R.cells ∧ slots ≤ R.slots) (hW : (st.map fun v => v.category).sum ≤ 8) (hdg : decode cc pc = .ok (.invokestatic i0, 3)) (k : J p l e R s m args below meth c nL g cells slots Q V' L' (pc + 3) lv (x :: st)) : J p l e R s m args below meth c nL g cells slots Q V L pc lv (a2 :: a1 :: a0 :: st) := j_callSN C hM hl ht hi hc hy hd hW hdg rfl k
theorem j_callV3r (C : Cx p s args m meth c cc nL own ret g) {y : MethodName} {b : ByteArray} {n d' i0 k0 ci : Nat} {fs : List Value} {q : vw_C} {r : Option FieldType} {V' : Mem} {L' : LMem} {a0 a1 a2 : Value} {x : Value} (hob : (TW g V L)[k0]? = some (ad g k0, .inr (ci, fs))) (hcl : vwCl[ci]? = some q) (hq : y.cls = q.1) (hM : MC l y b n r d' g V L [.ref (ad g k0), a0, a1, a2] (some x) V' L') (hl : Cond.methodLink own i0 y ∈ TG) (ht : Cond.instanceMethod y ∈ TG) (hse : Cond.selects q.1 y y ∈ TG) (hi : Cond.initialized q.1 ∈ TG) (hc : Cond.code y b n r ∈ TG) (hy : y.cls ≠ "java/lang/invoke/MethodHandle" ∧ y.cls ≠ "java/lang/invoke/VarHandle" ∧ (parseMethodDescriptor y.desc).map (fun d => d.parameters.length) = some 3) (hd : d' + 1 ≤ R.frames ∧ 8 + (n + 11) + 30 * d' ≤ R.locals ∧ cells ≤ R.cells ∧ slots ≤ R.slots) (hW : (st.map fun v => v.category).sum ≤ 8) (hdg : decode cc pc = .ok (.invokevirtual i0, 3)) (k : J p l e R s m args below meth c nL g cells slots Q V' L' (pc + 3) lv (x :: st)) : J p l e R s m args below meth c nL g cells slots Q V L pc lv (a2 :: a1 :: a0 :: .ref (ad g k0) :: st) := j_callV C hob hcl hq hM hl ht hse hi hc hy hd hW hdg rfl k
theorem j_callS4v (C : Cx p s args m meth c cc nL own ret g) {y : MethodName} {b : ByteArray} {n d' i0 : Nat} {r : Option FieldType} {V' : Mem} {L' : LMem} {a0 a1 a2 a3 : Value}   (hM : MC l y b n r d' g V L [a0, a1, a2, a3] none V' L') (hl : Cond.methodLink own i0 y ∈ TG) (ht : Cond.static y ∈ TG) (hi : Cond.initialized y.cls ∈ TG) (hc : Cond.code y b n r ∈ TG) (hy : y.cls ≠ "java/lang/invoke/MethodHandle" ∧ y.cls ≠ "java/lang/invoke/VarHandle" ∧ (parseMethodDescriptor y.desc).map (fun d => d.parameters.length) = some 4) (hd : d' + 1 ≤ R.frames ∧ 8 + (n + 11) + 30 * d' ≤ R.locals ∧ cells ≤ R.cells ∧ slots ≤ R.slots) (hW : (st.map fun v => v.category).sum ≤ 8) (hdg : decode cc pc = .ok (.invokestatic i0, 3)) (k : J p l e R s m args below meth c nL g cells slots Q V' L' (pc + 3) lv st) : J p l e R s m args below meth c nL g cells slots Q V L pc lv (a3 :: a2 :: a1 :: a0 :: st) := j_callS C hM hl ht hi hc hy hd hW hdg rfl k
theorem j_callSN4v (C : Cx p s args m meth c cc nL own ret g) {y : MethodName} {b : ByteArray} {n d' i0 : Nat} {r : Option FieldType} {V' : Mem} {L' : LMem} {a0 a1 a2 a3 : Value}  {host : String} (hM : MC l y b n r d' g V L [a0, a1, a2, a3] none V' L') (hl : Cond.methodLinkNest own i0 y host ∈ NWs) (ht : Cond.static y ∈ TG) (hi : Cond.initialized y.cls ∈ TG) (hc : Cond.code y b n r ∈ TG) (hy : y.cls ≠ "java/lang/invoke/MethodHandle" ∧ y.cls ≠ "java/lang/invoke/VarHandle" ∧ (parseMethodDescriptor y.desc).map (fun d => d.parameters.length) = some 4) (hd : d' + 1 ≤ R.frames ∧ 8 + (n + 11) + 30 * d' ≤ R.locals ∧ cells ≤ R.cells ∧ slots ≤ R.slots) (hW : (st.map fun v => v.category).sum ≤ 8) (hdg : decode cc pc = .ok (.invokestatic i0, 3)) (k : J p l e R s m args below meth c nL g cells slots Q V' L' (pc + 3) lv st) : J p l e R s m args below meth c nL g cells slots Q V L pc lv (a3 :: a2 :: a1 :: a0 :: st) := j_callSN C hM hl ht hi hc hy hd hW hdg rfl k
theorem j_callV4v (C : Cx p s args m meth c cc nL own ret g) {y : MethodName} {b : ByteArray} {n d' i0 k0 ci : Nat} {fs : List Value} {q : vw_C} {r : Option FieldType} {V' : Mem} {L' : LMem} {a0 a1 a2 a3 : Value}  (hob : (TW g V L)[k0]? = some (ad g k0, .inr (ci, fs))) (hcl : vwCl[ci]? = some q) (hq : y.cls = q.1) (hM : MC l y b n r d' g V L [.ref (ad g k0), a0, a1, a2, a3] none V' L') (hl : Cond.methodLink own i0 y ∈ TG) (ht : Cond.instanceMethod y ∈ TG) (hse : Cond.selects q.1 y y ∈ TG) (hi : Cond.initialized q.1 ∈ TG) (hc : Cond.code y b n r ∈ TG) (hy : y.cls ≠ "java/lang/invoke/MethodHandle" ∧ y.cls ≠ "java/lang/invoke/VarHandle" ∧ (parseMethodDescriptor y.desc).map (fun d => d.parameters.length) = some 4) (hd : d' + 1 ≤ R.frames ∧ 8 + (n + 11) + 30 * d' ≤ R.locals ∧ cells ≤ R.cells ∧ slots ≤ R.slots) (hW : (st.map fun v => v.category).sum ≤ 8) (hdg : decode cc pc = .ok (.invokevirtual i0, 3)) (k : J p l e R s m args below meth c nL g cells slots Q V' L' (pc + 3) lv st) : J p l e R s m args below meth c nL g cells slots Q V L pc lv (a3 :: a2 :: a1 :: a0 :: .ref (ad g k0) :: st) := j_callV C hob hcl hq hM hl ht hse hi hc hy hd hW hdg rfl k
theorem j_callS4r (C : Cx p s args m meth c cc nL own ret g) {y : MethodName} {b : ByteArray} {n d' i0 : Nat} {r : Option FieldType} {V' : Mem} {L' : LMem} {a0 a1 a2 a3 : Value} {x : Value}  (hM : MC l y b n r d' g V L [a0, a1, a2, a3] (some x) V' L') (hl : Cond.methodLink own i0 y ∈ TG) (ht : Cond.static y ∈ TG) (hi : Cond.initialized y.cls ∈ TG) (hc : Cond.code y b n r ∈ TG) (hy : y.cls ≠ "java/lang/invoke/MethodHandle" ∧ y.cls ≠ "java/lang/invoke/VarHandle" ∧ (parseMethodDescriptor y.desc).map (fun d => d.parameters.length) = some 4) (hd : d' + 1 ≤ R.frames ∧ 8 + (n + 11) + 30 * d' ≤ R.locals ∧ cells ≤ R.cells ∧ slots ≤ R.slots) (hW : (st.map fun v => v.category).sum ≤ 8) (hdg : decode cc pc = .ok (.invokestatic i0, 3)) (k : J p l e R s m args below meth c nL g cells slots Q V' L' (pc + 3) lv (x :: st)) : J p l e R s m args below meth c nL g cells slots Q V L pc lv (a3 :: a2 :: a1 :: a0 :: st) := j_callS C hM hl ht hi hc hy hd hW hdg rfl k
theorem j_callSN4r (C : Cx p s args m meth c cc nL own ret g) {y : MethodName} {b : ByteArray} {n d' i0 : Nat} {r : Option FieldType} {V' : Mem} {L' : LMem} {a0 a1 a2 a3 : Value} {x : Value} {host : String} (hM : MC l y b n r d' g V L [a0, a1, a2, a3] (some x) V' L') (hl : Cond.methodLinkNest own i0 y host ∈ NWs) (ht : Cond.static y ∈ TG) (hi : Cond.initialized y.cls ∈ TG) (hc : Cond.code y b n r ∈ TG) (hy : y.cls ≠ "java/lang/invoke/MethodHandle" ∧ y.cls ≠ "java/lang/invoke/VarHandle" ∧ (parseMethodDescriptor y.desc).map (fun d => d.parameters.length) = some 4) (hd : d' + 1 ≤ R.frames ∧ 8 + (n + 11) + 30 * d' ≤ R.locals ∧ cells ≤ R.cells ∧ slots ≤ R.slots) (hW : (st.map fun v => v.category).sum ≤ 8) (hdg : decode cc pc = .ok (.invokestatic i0, 3)) (k : J p l e R s m args below meth c nL g cells slots Q V' L' (pc + 3) lv (x :: st)) : J p l e R s m args below meth c nL g cells slots Q V L pc lv (a3 :: a2 :: a1 :: a0 :: st) := j_callSN C hM hl ht hi hc hy hd hW hdg rfl k
theorem j_callV4r (C : Cx p s args m meth c cc nL own ret g) {y : MethodName} {b : ByteArray} {n d' i0 k0 ci : Nat} {fs : List Value} {q : vw_C} {r : Option FieldType} {V' : Mem} {L' : LMem} {a0 a1 a2 a3 : Value} {x : Value} (hob : (TW g V L)[k0]? = some (ad g k0, .inr (ci, fs))) (hcl : vwCl[ci]? = some q) (hq : y.cls = q.1) (hM : MC l y b n r d' g V L [.ref (ad g k0), a0, a1, a2, a3] (some x) V' L') (hl : Cond.methodLink own i0 y ∈ TG) (ht : Cond.instanceMethod y ∈ TG) (hse : Cond.selects q.1 y y ∈ TG) (hi : Cond.initialized q.1 ∈ TG) (hc : Cond.code y b n r ∈ TG) (hy : y.cls ≠ "java/lang/invoke/MethodHandle" ∧ y.cls ≠ "java/lang/invoke/VarHandle" ∧ (parseMethodDescriptor y.desc).map (fun d => d.parameters.length) = some 4) (hd : d' + 1 ≤ R.frames ∧ 8 + (n + 11) + 30 * d' ≤ R.locals ∧ cells ≤ R.cells ∧ slots ≤ R.slots) (hW : (st.map fun v => v.category).sum ≤ 8) (hdg : decode cc pc = .ok (.invokevirtual i0, 3)) (k : J p l e R s m args below meth c nL g cells slots Q V' L' (pc + 3) lv (x :: st)) : J p l e R s m args below meth c nL g cells slots Q V L pc lv (a3 :: a2 :: a1 :: a0 :: .ref (ad g k0) :: st) := j_callV C hob hcl hq hM hl ht hse hi hc hy hd hW hdg rfl k
theorem j_callS5v (C : Cx p s args m meth c cc nL own ret g) {y : MethodName} {b : ByteArray} {n d' i0 : Nat} {r : Option FieldType} {V' : Mem} {L' : LMem} {a0 a1 a2 a3 a4 : Value}   (hM : MC l y b n r d' g V L [a0, a1, a2, a3, a4] none V' L') (hl : Cond.methodLink own i0 y ∈ TG) (ht : Cond.static y ∈ TG) (hi : Cond.initialized y.cls ∈ TG) (hc : Cond.code y b n r ∈ TG) (hy : y.cls ≠ "java/lang/invoke/MethodHandle" ∧ y.cls ≠ "java/lang/invoke/VarHandle" ∧ (parseMethodDescriptor y.desc).map (fun d => d.parameters.length) = some 5) (hd : d' + 1 ≤ R.frames ∧ 8 + (n + 11) + 30 * d' ≤ R.locals ∧ cells ≤ R.cells ∧ slots ≤ R.slots) (hW : (st.map fun v => v.category).sum ≤ 8) (hdg : decode cc pc = .ok (.invokestatic i0, 3)) (k : J p l e R s m args below meth c nL g cells slots Q V' L' (pc + 3) lv st) : J p l e R s m args below meth c nL g cells slots Q V L pc lv (a4 :: a3 :: a2 :: a1 :: a0 :: st) := j_callS C hM hl ht hi hc hy hd hW hdg rfl k
theorem j_callSN5v (C : Cx p s args m meth c cc nL own ret g) {y : MethodName} {b : ByteArray} {n d' i0 : Nat} {r : Option FieldType} {V' : Mem} {L' : LMem} {a0 a1 a2 a3 a4 : Value}  {host : String} (hM : MC l y b n r d' g V L [a0, a1, a2, a3, a4] none V' L') (hl : Cond.methodLinkNest own i0 y host ∈ NWs) (ht : Cond.static y ∈ TG) (hi : Cond.initialized y.cls ∈ TG) (hc : Cond.code y b n r ∈ TG) (hy : y.cls ≠ "java/lang/invoke/MethodHandle" ∧ y.cls ≠ "java/lang/invoke/VarHandle" ∧ (parseMethodDescriptor y.desc).map (fun d => d.parameters.length) = some 5) (hd : d' + 1 ≤ R.frames ∧ 8 + (n + 11) + 30 * d' ≤ R.locals ∧ cells ≤ R.cells ∧ slots ≤ R.slots) (hW : (st.map fun v => v.category).sum ≤ 8) (hdg : decode cc pc = .ok (.invokestatic i0, 3)) (k : J p l e R s m args below meth c nL g cells slots Q V' L' (pc + 3) lv st) : J p l e R s m args below meth c nL g cells slots Q V L pc lv (a4 :: a3 :: a2 :: a1 :: a0 :: st) := j_callSN C hM hl ht hi hc hy hd hW hdg rfl k
theorem j_callV5v (C : Cx p s args m meth c cc nL own ret g) {y : MethodName} {b : ByteArray} {n d' i0 k0 ci : Nat} {fs : List Value} {q : vw_C} {r : Option FieldType} {V' : Mem} {L' : LMem} {a0 a1 a2 a3 a4 : Value}  (hob : (TW g V L)[k0]? = some (ad g k0, .inr (ci, fs))) (hcl : vwCl[ci]? = some q) (hq : y.cls = q.1) (hM : MC l y b n r d' g V L [.ref (ad g k0), a0, a1, a2, a3, a4] none V' L') (hl : Cond.methodLink own i0 y ∈ TG) (ht : Cond.instanceMethod y ∈ TG) (hse : Cond.selects q.1 y y ∈ TG) (hi : Cond.initialized q.1 ∈ TG) (hc : Cond.code y b n r ∈ TG) (hy : y.cls ≠ "java/lang/invoke/MethodHandle" ∧ y.cls ≠ "java/lang/invoke/VarHandle" ∧ (parseMethodDescriptor y.desc).map (fun d => d.parameters.length) = some 5) (hd : d' + 1 ≤ R.frames ∧ 8 + (n + 11) + 30 * d' ≤ R.locals ∧ cells ≤ R.cells ∧ slots ≤ R.slots) (hW : (st.map fun v => v.category).sum ≤ 8) (hdg : decode cc pc = .ok (.invokevirtual i0, 3)) (k : J p l e R s m args below meth c nL g cells slots Q V' L' (pc + 3) lv st) : J p l e R s m args below meth c nL g cells slots Q V L pc lv (a4 :: a3 :: a2 :: a1 :: a0 :: .ref (ad g k0) :: st) := j_callV C hob hcl hq hM hl ht hse hi hc hy hd hW hdg rfl k
theorem j_callS5r (C : Cx p s args m meth c cc nL own ret g) {y : MethodName} {b : ByteArray} {n d' i0 : Nat} {r : Option FieldType} {V' : Mem} {L' : LMem} {a0 a1 a2 a3 a4 : Value} {x : Value}  (hM : MC l y b n r d' g V L [a0, a1, a2, a3, a4] (some x) V' L') (hl : Cond.methodLink own i0 y ∈ TG) (ht : Cond.static y ∈ TG) (hi : Cond.initialized y.cls ∈ TG) (hc : Cond.code y b n r ∈ TG) (hy : y.cls ≠ "java/lang/invoke/MethodHandle" ∧ y.cls ≠ "java/lang/invoke/VarHandle" ∧ (parseMethodDescriptor y.desc).map (fun d => d.parameters.length) = some 5) (hd : d' + 1 ≤ R.frames ∧ 8 + (n + 11) + 30 * d' ≤ R.locals ∧ cells ≤ R.cells ∧ slots ≤ R.slots) (hW : (st.map fun v => v.category).sum ≤ 8) (hdg : decode cc pc = .ok (.invokestatic i0, 3)) (k : J p l e R s m args below meth c nL g cells slots Q V' L' (pc + 3) lv (x :: st)) : J p l e R s m args below meth c nL g cells slots Q V L pc lv (a4 :: a3 :: a2 :: a1 :: a0 :: st) := j_callS C hM hl ht hi hc hy hd hW hdg rfl k
theorem j_callSN5r (C : Cx p s args m meth c cc nL own ret g) {y : MethodName} {b : ByteArray} {n d' i0 : Nat} {r : Option FieldType} {V' : Mem} {L' : LMem} {a0 a1 a2 a3 a4 : Value} {x : Value} {host : String} (hM : MC l y b n r d' g V L [a0, a1, a2, a3, a4] (some x) V' L') (hl : Cond.methodLinkNest own i0 y host ∈ NWs) (ht : Cond.static y ∈ TG) (hi : Cond.initialized y.cls ∈ TG) (hc : Cond.code y b n r ∈ TG) (hy : y.cls ≠ "java/lang/invoke/MethodHandle" ∧ y.cls ≠ "java/lang/invoke/VarHandle" ∧ (parseMethodDescriptor y.desc).map (fun d => d.parameters.length) = some 5) (hd : d' + 1 ≤ R.frames ∧ 8 + (n + 11) + 30 * d' ≤ R.locals ∧ cells ≤ R.cells ∧ slots ≤ R.slots) (hW : (st.map fun v => v.category).sum ≤ 8) (hdg : decode cc pc = .ok (.invokestatic i0, 3)) (k : J p l e R s m args below meth c nL g cells slots Q V' L' (pc + 3) lv (x :: st)) : J p l e R s m args below meth c nL g cells slots Q V L pc lv (a4 :: a3 :: a2 :: a1 :: a0 :: st) := j_callSN C hM hl ht hi hc hy hd hW hdg rfl k
theorem j_callV5r (C : Cx p s args m meth c cc nL own ret g) {y : MethodName} {b : ByteArray} {n d' i0 k0 ci : Nat} {fs : List Value} {q : vw_C} {r : Option FieldType} {V' : Mem} {L' : LMem} {a0 a1 a2 a3 a4 : Value} {x : Value} (hob : (TW g V L)[k0]? = some (ad g k0, .inr (ci, fs))) (hcl : vwCl[ci]? = some q) (hq : y.cls = q.1) (hM : MC l y b n r d' g V L [.ref (ad g k0), a0, a1, a2, a3, a4] (some x) V' L') (hl : Cond.methodLink own i0 y ∈ TG) (ht : Cond.instanceMethod y ∈ TG) (hse : Cond.selects q.1 y y ∈ TG) (hi : Cond.initialized q.1 ∈ TG) (hc : Cond.code y b n r ∈ TG) (hy : y.cls ≠ "java/lang/invoke/MethodHandle" ∧ y.cls ≠ "java/lang/invoke/VarHandle" ∧ (parseMethodDescriptor y.desc).map (fun d => d.parameters.length) = some 5) (hd : d' + 1 ≤ R.frames ∧ 8 + (n + 11) + 30 * d' ≤ R.locals ∧ cells ≤ R.cells ∧ slots ≤ R.slots) (hW : (st.map fun v => v.category).sum ≤ 8) (hdg : decode cc pc = .ok (.invokevirtual i0, 3)) (k : J p l e R s m args below meth c nL g cells slots Q V' L' (pc + 3) lv (x :: st)) : J p l e R s m args below meth c nL g cells slots Q V L pc lv (a4 :: a3 :: a2 :: a1 :: a0 :: .ref (ad g k0) :: st) := j_callV C hob hcl hq hM hl ht hse hi hc hy hd hW hdg rfl k
theorem j_callS6v (C : Cx p s args m meth c cc nL own ret g) {y : MethodName} {b : ByteArray} {n d' i0 : Nat} {r : Option FieldType} {V' : Mem} {L' : LMem} {a0 a1 a2 a3 a4 a5 : Value}   (hM : MC l y b n r d' g V L [a0, a1, a2, a3, a4, a5] none V' L') (hl : Cond.methodLink own i0 y ∈ TG) (ht : Cond.static y ∈ TG) (hi : Cond.initialized y.cls ∈ TG) (hc : Cond.code y b n r ∈ TG) (hy : y.cls ≠ "java/lang/invoke/MethodHandle" ∧ y.cls ≠ "java/lang/invoke/VarHandle" ∧ (parseMethodDescriptor y.desc).map (fun d => d.parameters.length) = some 6) (hd : d' + 1 ≤ R.frames ∧ 8 + (n + 11) + 30 * d' ≤ R.locals ∧ cells ≤ R.cells ∧ slots ≤ R.slots) (hW : (st.map fun v => v.category).sum ≤ 8) (hdg : decode cc pc = .ok (.invokestatic i0, 3)) (k : J p l e R s m args below meth c nL g cells slots Q V' L' (pc + 3) lv st) : J p l e R s m args below meth c nL g cells slots Q V L pc lv (a5 :: a4 :: a3 :: a2 :: a1 :: a0 :: st) := j_callS C hM hl ht hi hc hy hd hW hdg rfl k
theorem j_callSN6v (C : Cx p s args m meth c cc nL own ret g) {y : MethodName} {b : ByteArray} {n d' i0 : Nat} {r : Option FieldType} {V' : Mem} {L' : LMem} {a0 a1 a2 a3 a4 a5 : Value}  {host : String} (hM : MC l y b n r d' g V L [a0, a1, a2, a3, a4, a5] none V' L') (hl : Cond.methodLinkNest own i0 y host ∈ NWs) (ht : Cond.static y ∈ TG) (hi : Cond.initialized y.cls ∈ TG) (hc : Cond.code y b n r ∈ TG) (hy : y.cls ≠ "java/lang/invoke/MethodHandle" ∧ y.cls ≠ "java/lang/invoke/VarHandle" ∧ (parseMethodDescriptor y.desc).map (fun d => d.parameters.length) = some 6) (hd : d' + 1 ≤ R.frames ∧ 8 + (n + 11) + 30 * d' ≤ R.locals ∧ cells ≤ R.cells ∧ slots ≤ R.slots) (hW : (st.map fun v => v.category).sum ≤ 8) (hdg : decode cc pc = .ok (.invokestatic i0, 3)) (k : J p l e R s m args below meth c nL g cells slots Q V' L' (pc + 3) lv st) : J p l e R s m args below meth c nL g cells slots Q V L pc lv (a5 :: a4 :: a3 :: a2 :: a1 :: a0 :: st) := j_callSN C hM hl ht hi hc hy hd hW hdg rfl k
theorem j_callV6v (C : Cx p s args m meth c cc nL own ret g) {y : MethodName} {b : ByteArray} {n d' i0 k0 ci : Nat} {fs : List Value} {q : vw_C} {r : Option FieldType} {V' : Mem} {L' : LMem} {a0 a1 a2 a3 a4 a5 : Value}  (hob : (TW g V L)[k0]? = some (ad g k0, .inr (ci, fs))) (hcl : vwCl[ci]? = some q) (hq : y.cls = q.1) (hM : MC l y b n r d' g V L [.ref (ad g k0), a0, a1, a2, a3, a4, a5] none V' L') (hl : Cond.methodLink own i0 y ∈ TG) (ht : Cond.instanceMethod y ∈ TG) (hse : Cond.selects q.1 y y ∈ TG) (hi : Cond.initialized q.1 ∈ TG) (hc : Cond.code y b n r ∈ TG) (hy : y.cls ≠ "java/lang/invoke/MethodHandle" ∧ y.cls ≠ "java/lang/invoke/VarHandle" ∧ (parseMethodDescriptor y.desc).map (fun d => d.parameters.length) = some 6) (hd : d' + 1 ≤ R.frames ∧ 8 + (n + 11) + 30 * d' ≤ R.locals ∧ cells ≤ R.cells ∧ slots ≤ R.slots) (hW : (st.map fun v => v.category).sum ≤ 8) (hdg : decode cc pc = .ok (.invokevirtual i0, 3)) (k : J p l e R s m args below meth c nL g cells slots Q V' L' (pc + 3) lv st) : J p l e R s m args below meth c nL g cells slots Q V L pc lv (a5 :: a4 :: a3 :: a2 :: a1 :: a0 :: .ref (ad g k0) :: st) := j_callV C hob hcl hq hM hl ht hse hi hc hy hd hW hdg rfl k
theorem j_callS6r (C : Cx p s args m meth c cc nL own ret g) {y : MethodName} {b : ByteArray} {n d' i0 : Nat} {r : Option FieldType} {V' : Mem} {L' : LMem} {a0 a1 a2 a3 a4 a5 : Value} {x : Value}  (hM : MC l y b n r d' g V L [a0, a1, a2, a3, a4, a5] (some x) V' L') (hl : Cond.methodLink own i0 y ∈ TG) (ht : Cond.static y ∈ TG) (hi : Cond.initialized y.cls ∈ TG) (hc : Cond.code y b n r ∈ TG) (hy : y.cls ≠ "java/lang/invoke/MethodHandle" ∧ y.cls ≠ "java/lang/invoke/VarHandle" ∧ (parseMethodDescriptor y.desc).map (fun d => d.parameters.length) = some 6) (hd : d' + 1 ≤ R.frames ∧ 8 + (n + 11) + 30 * d' ≤ R.locals ∧ cells ≤ R.cells ∧ slots ≤ R.slots) (hW : (st.map fun v => v.category).sum ≤ 8) (hdg : decode cc pc = .ok (.invokestatic i0, 3)) (k : J p l e R s m args below meth c nL g cells slots Q V' L' (pc + 3) lv (x :: st)) : J p l e R s m args below meth c nL g cells slots Q V L pc lv (a5 :: a4 :: a3 :: a2 :: a1 :: a0 :: st) := j_callS C hM hl ht hi hc hy hd hW hdg rfl k
theorem j_callSN6r (C : Cx p s args m meth c cc nL own ret g) {y : MethodName} {b : ByteArray} {n d' i0 : Nat} {r : Option FieldType} {V' : Mem} {L' : LMem} {a0 a1 a2 a3 a4 a5 : Value} {x : Value} {host : String} (hM : MC l y b n r d' g V L [a0, a1, a2, a3, a4, a5] (some x) V' L') (hl : Cond.methodLinkNest own i0 y host ∈ NWs) (ht : Cond.static y ∈ TG) (hi : Cond.initialized y.cls ∈ TG) (hc : Cond.code y b n r ∈ TG) (hy : y.cls ≠ "java/lang/invoke/MethodHandle" ∧ y.cls ≠ "java/lang/invoke/VarHandle" ∧ (parseMethodDescriptor y.desc).map (fun d => d.parameters.length) = some 6) (hd : d' + 1 ≤ R.frames ∧ 8 + (n + 11) + 30 * d' ≤ R.locals ∧ cells ≤ R.cells ∧ slots ≤ R.slots) (hW : (st.map fun v => v.category).sum ≤ 8) (hdg : decode cc pc = .ok (.invokestatic i0, 3)) (k : J p l e R s m args below meth c nL g cells slots Q V' L' (pc + 3) lv (x :: st)) : J p l e R s m args below meth c nL g cells slots Q V L pc lv (a5 :: a4 :: a3 :: a2 :: a1 :: a0 :: st) := j_callSN C hM hl ht hi hc hy hd hW hdg rfl k
theorem j_callV6r (C : Cx p s args m meth c cc nL own ret g) {y : MethodName} {b : ByteArray} {n d' i0 k0 ci : Nat} {fs : List Value} {q : vw_C} {r : Option FieldType} {V' : Mem} {L' : LMem} {a0 a1 a2 a3 a4 a5 : Value} {x : Value} (hob : (TW g V L)[k0]? = some (ad g k0, .inr (ci, fs))) (hcl : vwCl[ci]? = some q) (hq : y.cls = q.1) (hM : MC l y b n r d' g V L [.ref (ad g k0), a0, a1, a2, a3, a4, a5] (some x) V' L') (hl : Cond.methodLink own i0 y ∈ TG) (ht : Cond.instanceMethod y ∈ TG) (hse : Cond.selects q.1 y y ∈ TG) (hi : Cond.initialized q.1 ∈ TG) (hc : Cond.code y b n r ∈ TG) (hy : y.cls ≠ "java/lang/invoke/MethodHandle" ∧ y.cls ≠ "java/lang/invoke/VarHandle" ∧ (parseMethodDescriptor y.desc).map (fun d => d.parameters.length) = some 6) (hd : d' + 1 ≤ R.frames ∧ 8 + (n + 11) + 30 * d' ≤ R.locals ∧ cells ≤ R.cells ∧ slots ≤ R.slots) (hW : (st.map fun v => v.category).sum ≤ 8) (hdg : decode cc pc = .ok (.invokevirtual i0, 3)) (k : J p l e R s m args below meth c nL g cells slots Q V' L' (pc + 3) lv (x :: st)) : J p l e R s m args below meth c nL g cells slots Q V L pc lv (a5 :: a4 :: a3 :: a2 :: a1 :: a0 :: .ref (ad g k0) :: st) := j_callV C hob hcl hq hM hl ht hse hi hc hy hd hW hdg rfl k
theorem j_callS7v (C : Cx p s args m meth c cc nL own ret g) {y : MethodName} {b : ByteArray} {n d' i0 : Nat} {r : Option FieldType} {V' : Mem} {L' : LMem} {a0 a1 a2 a3 a4 a5 a6 : Value}   (hM : MC l y b n r d' g V L [a0, a1, a2, a3, a4, a5, a6] none V' L') (hl : Cond.methodLink own i0 y ∈ TG) (ht : Cond.static y ∈ TG) (hi : Cond.initialized y.cls ∈ TG) (hc : Cond.code y b n r ∈ TG) (hy : y.cls ≠ "java/lang/invoke/MethodHandle" ∧ y.cls ≠ "java/lang/invoke/VarHandle" ∧ (parseMethodDescriptor y.desc).map (fun d => d.parameters.length) = some 7) (hd : d' + 1 ≤ R.frames ∧ 8 + (n + 11) + 30 * d' ≤ R.locals ∧ cells ≤ R.cells ∧ slots ≤ R.slots) (hW : (st.map fun v => v.category).sum ≤ 8) (hdg : decode cc pc = .ok (.invokestatic i0, 3)) (k : J p l e R s m args below meth c nL g cells slots Q V' L' (pc + 3) lv st) : J p l e R s m args below meth c nL g cells slots Q V L pc lv (a6 :: a5 :: a4 :: a3 :: a2 :: a1 :: a0 :: st) := j_callS C hM hl ht hi hc hy hd hW hdg rfl k
theorem j_callSN7v (C : Cx p s args m meth c cc nL own ret g) {y : MethodName} {b : ByteArray} {n d' i0 : Nat} {r : Option FieldType} {V' : Mem} {L' : LMem} {a0 a1 a2 a3 a4 a5 a6 : Value}  {host : String} (hM : MC l y b n r d' g V L [a0, a1, a2, a3, a4, a5, a6] none V' L') (hl : Cond.methodLinkNest own i0 y host ∈ NWs) (ht : Cond.static y ∈ TG) (hi : Cond.initialized y.cls ∈ TG) (hc : Cond.code y b n r ∈ TG) (hy : y.cls ≠ "java/lang/invoke/MethodHandle" ∧ y.cls ≠ "java/lang/invoke/VarHandle" ∧ (parseMethodDescriptor y.desc).map (fun d => d.parameters.length) = some 7) (hd : d' + 1 ≤ R.frames ∧ 8 + (n + 11) + 30 * d' ≤ R.locals ∧ cells ≤ R.cells ∧ slots ≤ R.slots) (hW : (st.map fun v => v.category).sum ≤ 8) (hdg : decode cc pc = .ok (.invokestatic i0, 3)) (k : J p l e R s m args below meth c nL g cells slots Q V' L' (pc + 3) lv st) : J p l e R s m args below meth c nL g cells slots Q V L pc lv (a6 :: a5 :: a4 :: a3 :: a2 :: a1 :: a0 :: st) := j_callSN C hM hl ht hi hc hy hd hW hdg rfl k
theorem j_callV7v (C : Cx p s args m meth c cc nL own ret g) {y : MethodName} {b : ByteArray} {n d' i0 k0 ci : Nat} {fs : List Value} {q : vw_C} {r : Option FieldType} {V' : Mem} {L' : LMem} {a0 a1 a2 a3 a4 a5 a6 : Value}  (hob : (TW g V L)[k0]? = some (ad g k0, .inr (ci, fs))) (hcl : vwCl[ci]? = some q) (hq : y.cls = q.1) (hM : MC l y b n r d' g V L [.ref (ad g k0), a0, a1, a2, a3, a4, a5, a6] none V' L') (hl : Cond.methodLink own i0 y ∈ TG) (ht : Cond.instanceMethod y ∈ TG) (hse : Cond.selects q.1 y y ∈ TG) (hi : Cond.initialized q.1 ∈ TG) (hc : Cond.code y b n r ∈ TG) (hy : y.cls ≠ "java/lang/invoke/MethodHandle" ∧ y.cls ≠ "java/lang/invoke/VarHandle" ∧ (parseMethodDescriptor y.desc).map (fun d => d.parameters.length) = some 7) (hd : d' + 1 ≤ R.frames ∧ 8 + (n + 11) + 30 * d' ≤ R.locals ∧ cells ≤ R.cells ∧ slots ≤ R.slots) (hW : (st.map fun v => v.category).sum ≤ 8) (hdg : decode cc pc = .ok (.invokevirtual i0, 3)) (k : J p l e R s m args below meth c nL g cells slots Q V' L' (pc + 3) lv st) : J p l e R s m args below meth c nL g cells slots Q V L pc lv (a6 :: a5 :: a4 :: a3 :: a2 :: a1 :: a0 :: .ref (ad g k0) :: st) := j_callV C hob hcl hq hM hl ht hse hi hc hy hd hW hdg rfl k
theorem j_callS7r (C : Cx p s args m meth c cc nL own ret g) {y : MethodName} {b : ByteArray} {n d' i0 : Nat} {r : Option FieldType} {V' : Mem} {L' : LMem} {a0 a1 a2 a3 a4 a5 a6 : Value} {x : Value}  (hM : MC l y b n r d' g V L [a0, a1, a2, a3, a4, a5, a6] (some x) V' L') (hl : Cond.methodLink own i0 y ∈ TG) (ht : Cond.static y ∈ TG) (hi : Cond.initialized y.cls ∈ TG) (hc : Cond.code y b n r ∈ TG) (hy : y.cls ≠ "java/lang/invoke/MethodHandle" ∧ y.cls ≠ "java/lang/invoke/VarHandle" ∧ (parseMethodDescriptor y.desc).map (fun d => d.parameters.length) = some 7) (hd : d' + 1 ≤ R.frames ∧ 8 + (n + 11) + 30 * d' ≤ R.locals ∧ cells ≤ R.cells ∧ slots ≤ R.slots) (hW : (st.map fun v => v.category).sum ≤ 8) (hdg : decode cc pc = .ok (.invokestatic i0, 3)) (k : J p l e R s m args below meth c nL g cells slots Q V' L' (pc + 3) lv (x :: st)) : J p l e R s m args below meth c nL g cells slots Q V L pc lv (a6 :: a5 :: a4 :: a3 :: a2 :: a1 :: a0 :: st) := j_callS C hM hl ht hi hc hy hd hW hdg rfl k
theorem j_callSN7r (C : Cx p s args m meth c cc nL own ret g) {y : MethodName} {b : ByteArray} {n d' i0 : Nat} {r : Option FieldType} {V' : Mem} {L' : LMem} {a0 a1 a2 a3 a4 a5 a6 : Value} {x : Value} {host : String} (hM : MC l y b n r d' g V L [a0, a1, a2, a3, a4, a5, a6] (some x) V' L') (hl : Cond.methodLinkNest own i0 y host ∈ NWs) (ht : Cond.static y ∈ TG) (hi : Cond.initialized y.cls ∈ TG) (hc : Cond.code y b n r ∈ TG) (hy : y.cls ≠ "java/lang/invoke/MethodHandle" ∧ y.cls ≠ "java/lang/invoke/VarHandle" ∧ (parseMethodDescriptor y.desc).map (fun d => d.parameters.length) = some 7) (hd : d' + 1 ≤ R.frames ∧ 8 + (n + 11) + 30 * d' ≤ R.locals ∧ cells ≤ R.cells ∧ slots ≤ R.slots) (hW : (st.map fun v => v.category).sum ≤ 8) (hdg : decode cc pc = .ok (.invokestatic i0, 3)) (k : J p l e R s m args below meth c nL g cells slots Q V' L' (pc + 3) lv (x :: st)) : J p l e R s m args below meth c nL g cells slots Q V L pc lv (a6 :: a5 :: a4 :: a3 :: a2 :: a1 :: a0 :: st) := j_callSN C hM hl ht hi hc hy hd hW hdg rfl k
theorem j_callV7r (C : Cx p s args m meth c cc nL own ret g) {y : MethodName} {b : ByteArray} {n d' i0 k0 ci : Nat} {fs : List Value} {q : vw_C} {r : Option FieldType} {V' : Mem} {L' : LMem} {a0 a1 a2 a3 a4 a5 a6 : Value} {x : Value} (hob : (TW g V L)[k0]? = some (ad g k0, .inr (ci, fs))) (hcl : vwCl[ci]? = some q) (hq : y.cls = q.1) (hM : MC l y b n r d' g V L [.ref (ad g k0), a0, a1, a2, a3, a4, a5, a6] (some x) V' L') (hl : Cond.methodLink own i0 y ∈ TG) (ht : Cond.instanceMethod y ∈ TG) (hse : Cond.selects q.1 y y ∈ TG) (hi : Cond.initialized q.1 ∈ TG) (hc : Cond.code y b n r ∈ TG) (hy : y.cls ≠ "java/lang/invoke/MethodHandle" ∧ y.cls ≠ "java/lang/invoke/VarHandle" ∧ (parseMethodDescriptor y.desc).map (fun d => d.parameters.length) = some 7) (hd : d' + 1 ≤ R.frames ∧ 8 + (n + 11) + 30 * d' ≤ R.locals ∧ cells ≤ R.cells ∧ slots ≤ R.slots) (hW : (st.map fun v => v.category).sum ≤ 8) (hdg : decode cc pc = .ok (.invokevirtual i0, 3)) (k : J p l e R s m args below meth c nL g cells slots Q V' L' (pc + 3) lv (x :: st)) : J p l e R s m args below meth c nL g cells slots Q V L pc lv (a6 :: a5 :: a4 :: a3 :: a2 :: a1 :: a0 :: .ref (ad g k0) :: st) := j_callV C hob hcl hq hM hl ht hse hi hc hy hd hW hdg rfl k
theorem j_callS8v (C : Cx p s args m meth c cc nL own ret g) {y : MethodName} {b : ByteArray} {n d' i0 : Nat} {r : Option FieldType} {V' : Mem} {L' : LMem} {a0 a1 a2 a3 a4 a5 a6 a7 : Value}   (hM : MC l y b n r d' g V L [a0, a1, a2, a3, a4, a5, a6, a7] none V' L') (hl : Cond.methodLink own i0 y ∈ TG) (ht : Cond.static y ∈ TG) (hi : Cond.initialized y.cls ∈ TG) (hc : Cond.code y b n r ∈ TG) (hy : y.cls ≠ "java/lang/invoke/MethodHandle" ∧ y.cls ≠ "java/lang/invoke/VarHandle" ∧ (parseMethodDescriptor y.desc).map (fun d => d.parameters.length) = some 8) (hd : d' + 1 ≤ R.frames ∧ 8 + (n + 11) + 30 * d' ≤ R.locals ∧ cells ≤ R.cells ∧ slots ≤ R.slots) (hW : (st.map fun v => v.category).sum ≤ 8) (hdg : decode cc pc = .ok (.invokestatic i0, 3)) (k : J p l e R s m args below meth c nL g cells slots Q V' L' (pc + 3) lv st) : J p l e R s m args below meth c nL g cells slots Q V L pc lv (a7 :: a6 :: a5 :: a4 :: a3 :: a2 :: a1 :: a0 :: st) := j_callS C hM hl ht hi hc hy hd hW hdg rfl k
theorem j_callSN8v (C : Cx p s args m meth c cc nL own ret g) {y : MethodName} {b : ByteArray} {n d' i0 : Nat} {r : Option FieldType} {V' : Mem} {L' : LMem} {a0 a1 a2 a3 a4 a5 a6 a7 : Value}  {host : String} (hM : MC l y b n r d' g V L [a0, a1, a2, a3, a4, a5, a6, a7] none V' L') (hl : Cond.methodLinkNest own i0 y host ∈ NWs) (ht : Cond.static y ∈ TG) (hi : Cond.initialized y.cls ∈ TG) (hc : Cond.code y b n r ∈ TG) (hy : y.cls ≠ "java/lang/invoke/MethodHandle" ∧ y.cls ≠ "java/lang/invoke/VarHandle" ∧ (parseMethodDescriptor y.desc).map (fun d => d.parameters.length) = some 8) (hd : d' + 1 ≤ R.frames ∧ 8 + (n + 11) + 30 * d' ≤ R.locals ∧ cells ≤ R.cells ∧ slots ≤ R.slots) (hW : (st.map fun v => v.category).sum ≤ 8) (hdg : decode cc pc = .ok (.invokestatic i0, 3)) (k : J p l e R s m args below meth c nL g cells slots Q V' L' (pc + 3) lv st) : J p l e R s m args below meth c nL g cells slots Q V L pc lv (a7 :: a6 :: a5 :: a4 :: a3 :: a2 :: a1 :: a0 :: st) := j_callSN C hM hl ht hi hc hy hd hW hdg rfl k
theorem j_callV8v (C : Cx p s args m meth c cc nL own ret g) {y : MethodName} {b : ByteArray} {n d' i0 k0 ci : Nat} {fs : List Value} {q : vw_C} {r : Option FieldType} {V' : Mem} {L' : LMem} {a0 a1 a2 a3 a4 a5 a6 a7 : Value}  (hob : (TW g V L)[k0]? = some (ad g k0, .inr (ci, fs))) (hcl : vwCl[ci]? = some q) (hq : y.cls = q.1) (hM : MC l y b n r d' g V L [.ref (ad g k0), a0, a1, a2, a3, a4, a5, a6, a7] none V' L') (hl : Cond.methodLink own i0 y ∈ TG) (ht : Cond.instanceMethod y ∈ TG) (hse : Cond.selects q.1 y y ∈ TG) (hi : Cond.initialized q.1 ∈ TG) (hc : Cond.code y b n r ∈ TG) (hy : y.cls ≠ "java/lang/invoke/MethodHandle" ∧ y.cls ≠ "java/lang/invoke/VarHandle" ∧ (parseMethodDescriptor y.desc).map (fun d => d.parameters.length) = some 8) (hd : d' + 1 ≤ R.frames ∧ 8 + (n + 11) + 30 * d' ≤ R.locals ∧ cells ≤ R.cells ∧ slots ≤ R.slots) (hW : (st.map fun v => v.category).sum ≤ 8) (hdg : decode cc pc = .ok (.invokevirtual i0, 3)) (k : J p l e R s m args below meth c nL g cells slots Q V' L' (pc + 3) lv st) : J p l e R s m args below meth c nL g cells slots Q V L pc lv (a7 :: a6 :: a5 :: a4 :: a3 :: a2 :: a1 :: a0 :: .ref (ad g k0) :: st) := j_callV C hob hcl hq hM hl ht hse hi hc hy hd hW hdg rfl k
theorem j_callS8r (C : Cx p s args m meth c cc nL own ret g) {y : MethodName} {b : ByteArray} {n d' i0 : Nat} {r : Option FieldType} {V' : Mem} {L' : LMem} {a0 a1 a2 a3 a4 a5 a6 a7 : Value} {x : Value}  (hM : MC l y b n r d' g V L [a0, a1, a2, a3, a4, a5, a6, a7] (some x) V' L') (hl : Cond.methodLink own i0 y ∈ TG) (ht : Cond.static y ∈ TG) (hi : Cond.initialized y.cls ∈ TG) (hc : Cond.code y b n r ∈ TG) (hy : y.cls ≠ "java/lang/invoke/MethodHandle" ∧ y.cls ≠ "java/lang/invoke/VarHandle" ∧ (parseMethodDescriptor y.desc).map (fun d => d.parameters.length) = some 8) (hd : d' + 1 ≤ R.frames ∧ 8 + (n + 11) + 30 * d' ≤ R.locals ∧ cells ≤ R.cells ∧ slots ≤ R.slots) (hW : (st.map fun v => v.category).sum ≤ 8) (hdg : decode cc pc = .ok (.invokestatic i0, 3)) (k : J p l e R s m args below meth c nL g cells slots Q V' L' (pc + 3) lv (x :: st)) : J p l e R s m args below meth c nL g cells slots Q V L pc lv (a7 :: a6 :: a5 :: a4 :: a3 :: a2 :: a1 :: a0 :: st) := j_callS C hM hl ht hi hc hy hd hW hdg rfl k
theorem j_callSN8r (C : Cx p s args m meth c cc nL own ret g) {y : MethodName} {b : ByteArray} {n d' i0 : Nat} {r : Option FieldType} {V' : Mem} {L' : LMem} {a0 a1 a2 a3 a4 a5 a6 a7 : Value} {x : Value} {host : String} (hM : MC l y b n r d' g V L [a0, a1, a2, a3, a4, a5, a6, a7] (some x) V' L') (hl : Cond.methodLinkNest own i0 y host ∈ NWs) (ht : Cond.static y ∈ TG) (hi : Cond.initialized y.cls ∈ TG) (hc : Cond.code y b n r ∈ TG) (hy : y.cls ≠ "java/lang/invoke/MethodHandle" ∧ y.cls ≠ "java/lang/invoke/VarHandle" ∧ (parseMethodDescriptor y.desc).map (fun d => d.parameters.length) = some 8) (hd : d' + 1 ≤ R.frames ∧ 8 + (n + 11) + 30 * d' ≤ R.locals ∧ cells ≤ R.cells ∧ slots ≤ R.slots) (hW : (st.map fun v => v.category).sum ≤ 8) (hdg : decode cc pc = .ok (.invokestatic i0, 3)) (k : J p l e R s m args below meth c nL g cells slots Q V' L' (pc + 3) lv (x :: st)) : J p l e R s m args below meth c nL g cells slots Q V L pc lv (a7 :: a6 :: a5 :: a4 :: a3 :: a2 :: a1 :: a0 :: st) := j_callSN C hM hl ht hi hc hy hd hW hdg rfl k
theorem j_callV8r (C : Cx p s args m meth c cc nL own ret g) {y : MethodName} {b : ByteArray} {n d' i0 k0 ci : Nat} {fs : List Value} {q : vw_C} {r : Option FieldType} {V' : Mem} {L' : LMem} {a0 a1 a2 a3 a4 a5 a6 a7 : Value} {x : Value} (hob : (TW g V L)[k0]? = some (ad g k0, .inr (ci, fs))) (hcl : vwCl[ci]? = some q) (hq : y.cls = q.1) (hM : MC l y b n r d' g V L [.ref (ad g k0), a0, a1, a2, a3, a4, a5, a6, a7] (some x) V' L') (hl : Cond.methodLink own i0 y ∈ TG) (ht : Cond.instanceMethod y ∈ TG) (hse : Cond.selects q.1 y y ∈ TG) (hi : Cond.initialized q.1 ∈ TG) (hc : Cond.code y b n r ∈ TG) (hy : y.cls ≠ "java/lang/invoke/MethodHandle" ∧ y.cls ≠ "java/lang/invoke/VarHandle" ∧ (parseMethodDescriptor y.desc).map (fun d => d.parameters.length) = some 8) (hd : d' + 1 ≤ R.frames ∧ 8 + (n + 11) + 30 * d' ≤ R.locals ∧ cells ≤ R.cells ∧ slots ≤ R.slots) (hW : (st.map fun v => v.category).sum ≤ 8) (hdg : decode cc pc = .ok (.invokevirtual i0, 3)) (k : J p l e R s m args below meth c nL g cells slots Q V' L' (pc + 3) lv (x :: st)) : J p l e R s m args below meth c nL g cells slots Q V L pc lv (a7 :: a6 :: a5 :: a4 :: a3 :: a2 :: a1 :: a0 :: .ref (ad g k0) :: st) := j_callV C hob hcl hq hM hl ht hse hi hc hy hd hW hdg rfl k
theorem j_ist0 (C : Cx p s args m meth c cc nL own ret g) {a0 : Option Value} {t : List (Option Value)} {k0 : Fin 4} {x : Int32} (hd : decode cc pc = .ok (.istore_n k0, 1)) (hi : (k0 : Nat) = 0) (hn : 0 < nL) (hc : cOk (a0 :: t) 0 = true) (k : J p l e R s m args below meth c nL g cells slots Q V L (pc + 1) (some (.int x) :: t) st) : J p l e R s m args below meth c nL g cells slots Q V L pc (a0 :: t) (.int x :: st) := j_istore_n C hd hi hn hc rfl k
theorem j_ast0 (C : Cx p s args m meth c cc nL own ret g) {a0 : Option Value} {t : List (Option Value)} {k0 : Fin 4} {x : Nat} (hd : decode cc pc = .ok (.astore_n k0, 1)) (hi : (k0 : Nat) = 0) (hn : 0 < nL) (hc : cOk (a0 :: t) 0 = true) (k : J p l e R s m args below meth c nL g cells slots Q V L (pc + 1) (some (.ref x) :: t) st) : J p l e R s m args below meth c nL g cells slots Q V L pc (a0 :: t) (.ref x :: st) := j_astore_n C hd hi hn hc rfl k
theorem j_nst0 (C : Cx p s args m meth c cc nL own ret g) {a0 : Option Value} {t : List (Option Value)} {k0 : Fin 4} (hd : decode cc pc = .ok (.astore_n k0, 1)) (hi : (k0 : Nat) = 0) (hn : 0 < nL) (hc : cOk (a0 :: t) 0 = true) (k : J p l e R s m args below meth c nL g cells slots Q V L (pc + 1) (some .null :: t) st) : J p l e R s m args below meth c nL g cells slots Q V L pc (a0 :: t) (.null :: st) := j_astore_nN C hd hi hn hc rfl k
theorem j_inc0 (C : Cx p s args m meth c cc nL own ret g) {t : List (Option Value)} {n : Int} {x v : Int32} (hd : decode cc pc = .ok (.iinc 0 n, 3)) (hv : x + Int32.ofInt n = v) (hn : 0 < nL) (hc : cOk (some (.int x) :: t) 0 = true) (k : J p l e R s m args below meth c nL g cells slots Q V L (pc + 3) (some (.int v) :: t) st) : J p l e R s m args below meth c nL g cells slots Q V L pc (some (.int x) :: t) st := j_iinc C hd (by simp) hv hn hc rfl k
theorem j_lst0 (C : Cx p s args m meth c cc nL own ret g) {a0 b0 : Option Value} {t : List (Option Value)} {k0 : Fin 4} {x : Int64} (hd : decode cc pc = .ok (.lstore_n k0, 1)) (hi : (k0 : Nat) = 0) (hn : 0 + 1 < nL) (hc : cOk (a0 :: b0 :: t) 0 = true) (k : J p l e R s m args below meth c nL g cells slots Q V L (pc + 1) (some (.long x) :: none :: t) st) : J p l e R s m args below meth c nL g cells slots Q V L pc (a0 :: b0 :: t) (.long x :: st) := j_lstore_n C hd hi hn hc rfl k
theorem j_dst0 (C : Cx p s args m meth c cc nL own ret g) {a0 b0 : Option Value} {t : List (Option Value)} {k0 : Fin 4} {x : UInt64} (hd : decode cc pc = .ok (.dstore_n k0, 1)) (hi : (k0 : Nat) = 0) (hn : 0 + 1 < nL) (hc : cOk (a0 :: b0 :: t) 0 = true) (k : J p l e R s m args below meth c nL g cells slots Q V L (pc + 1) (some (.double x) :: none :: t) st) : J p l e R s m args below meth c nL g cells slots Q V L pc (a0 :: b0 :: t) (.double x :: st) := j_dstore_n C hd hi hn hc rfl k
theorem j_ist1 (C : Cx p s args m meth c cc nL own ret g) {a0 a1 : Option Value} {t : List (Option Value)} {k0 : Fin 4} {x : Int32} (hd : decode cc pc = .ok (.istore_n k0, 1)) (hi : (k0 : Nat) = 1) (hn : 1 < nL) (hc : cOk (a0 :: a1 :: t) 1 = true) (k : J p l e R s m args below meth c nL g cells slots Q V L (pc + 1) (a0 :: some (.int x) :: t) st) : J p l e R s m args below meth c nL g cells slots Q V L pc (a0 :: a1 :: t) (.int x :: st) := j_istore_n C hd hi hn hc rfl k
theorem j_ast1 (C : Cx p s args m meth c cc nL own ret g) {a0 a1 : Option Value} {t : List (Option Value)} {k0 : Fin 4} {x : Nat} (hd : decode cc pc = .ok (.astore_n k0, 1)) (hi : (k0 : Nat) = 1) (hn : 1 < nL) (hc : cOk (a0 :: a1 :: t) 1 = true) (k : J p l e R s m args below meth c nL g cells slots Q V L (pc + 1) (a0 :: some (.ref x) :: t) st) : J p l e R s m args below meth c nL g cells slots Q V L pc (a0 :: a1 :: t) (.ref x :: st) := j_astore_n C hd hi hn hc rfl k
theorem j_nst1 (C : Cx p s args m meth c cc nL own ret g) {a0 a1 : Option Value} {t : List (Option Value)} {k0 : Fin 4} (hd : decode cc pc = .ok (.astore_n k0, 1)) (hi : (k0 : Nat) = 1) (hn : 1 < nL) (hc : cOk (a0 :: a1 :: t) 1 = true) (k : J p l e R s m args below meth c nL g cells slots Q V L (pc + 1) (a0 :: some .null :: t) st) : J p l e R s m args below meth c nL g cells slots Q V L pc (a0 :: a1 :: t) (.null :: st) := j_astore_nN C hd hi hn hc rfl k
theorem j_inc1 (C : Cx p s args m meth c cc nL own ret g) {a0 : Option Value} {t : List (Option Value)} {n : Int} {x v : Int32} (hd : decode cc pc = .ok (.iinc 1 n, 3)) (hv : x + Int32.ofInt n = v) (hn : 1 < nL) (hc : cOk (a0 :: some (.int x) :: t) 1 = true) (k : J p l e R s m args below meth c nL g cells slots Q V L (pc + 3) (a0 :: some (.int v) :: t) st) : J p l e R s m args below meth c nL g cells slots Q V L pc (a0 :: some (.int x) :: t) st := j_iinc C hd (by simp) hv hn hc rfl k
theorem j_lst1 (C : Cx p s args m meth c cc nL own ret g) {a0 a1 b1 : Option Value} {t : List (Option Value)} {k0 : Fin 4} {x : Int64} (hd : decode cc pc = .ok (.lstore_n k0, 1)) (hi : (k0 : Nat) = 1) (hn : 1 + 1 < nL) (hc : cOk (a0 :: a1 :: b1 :: t) 1 = true) (k : J p l e R s m args below meth c nL g cells slots Q V L (pc + 1) (a0 :: some (.long x) :: none :: t) st) : J p l e R s m args below meth c nL g cells slots Q V L pc (a0 :: a1 :: b1 :: t) (.long x :: st) := j_lstore_n C hd hi hn hc rfl k
theorem j_dst1 (C : Cx p s args m meth c cc nL own ret g) {a0 a1 b1 : Option Value} {t : List (Option Value)} {k0 : Fin 4} {x : UInt64} (hd : decode cc pc = .ok (.dstore_n k0, 1)) (hi : (k0 : Nat) = 1) (hn : 1 + 1 < nL) (hc : cOk (a0 :: a1 :: b1 :: t) 1 = true) (k : J p l e R s m args below meth c nL g cells slots Q V L (pc + 1) (a0 :: some (.double x) :: none :: t) st) : J p l e R s m args below meth c nL g cells slots Q V L pc (a0 :: a1 :: b1 :: t) (.double x :: st) := j_dstore_n C hd hi hn hc rfl k
theorem j_ist2 (C : Cx p s args m meth c cc nL own ret g) {a0 a1 a2 : Option Value} {t : List (Option Value)} {k0 : Fin 4} {x : Int32} (hd : decode cc pc = .ok (.istore_n k0, 1)) (hi : (k0 : Nat) = 2) (hn : 2 < nL) (hc : cOk (a0 :: a1 :: a2 :: t) 2 = true) (k : J p l e R s m args below meth c nL g cells slots Q V L (pc + 1) (a0 :: a1 :: some (.int x) :: t) st) : J p l e R s m args below meth c nL g cells slots Q V L pc (a0 :: a1 :: a2 :: t) (.int x :: st) := j_istore_n C hd hi hn hc rfl k
theorem j_ast2 (C : Cx p s args m meth c cc nL own ret g) {a0 a1 a2 : Option Value} {t : List (Option Value)} {k0 : Fin 4} {x : Nat} (hd : decode cc pc = .ok (.astore_n k0, 1)) (hi : (k0 : Nat) = 2) (hn : 2 < nL) (hc : cOk (a0 :: a1 :: a2 :: t) 2 = true) (k : J p l e R s m args below meth c nL g cells slots Q V L (pc + 1) (a0 :: a1 :: some (.ref x) :: t) st) : J p l e R s m args below meth c nL g cells slots Q V L pc (a0 :: a1 :: a2 :: t) (.ref x :: st) := j_astore_n C hd hi hn hc rfl k
theorem j_nst2 (C : Cx p s args m meth c cc nL own ret g) {a0 a1 a2 : Option Value} {t : List (Option Value)} {k0 : Fin 4} (hd : decode cc pc = .ok (.astore_n k0, 1)) (hi : (k0 : Nat) = 2) (hn : 2 < nL) (hc : cOk (a0 :: a1 :: a2 :: t) 2 = true) (k : J p l e R s m args below meth c nL g cells slots Q V L (pc + 1) (a0 :: a1 :: some .null :: t) st) : J p l e R s m args below meth c nL g cells slots Q V L pc (a0 :: a1 :: a2 :: t) (.null :: st) := j_astore_nN C hd hi hn hc rfl k
theorem j_inc2 (C : Cx p s args m meth c cc nL own ret g) {a0 a1 : Option Value} {t : List (Option Value)} {n : Int} {x v : Int32} (hd : decode cc pc = .ok (.iinc 2 n, 3)) (hv : x + Int32.ofInt n = v) (hn : 2 < nL) (hc : cOk (a0 :: a1 :: some (.int x) :: t) 2 = true) (k : J p l e R s m args below meth c nL g cells slots Q V L (pc + 3) (a0 :: a1 :: some (.int v) :: t) st) : J p l e R s m args below meth c nL g cells slots Q V L pc (a0 :: a1 :: some (.int x) :: t) st := j_iinc C hd (by simp) hv hn hc rfl k
theorem j_lst2 (C : Cx p s args m meth c cc nL own ret g) {a0 a1 a2 b2 : Option Value} {t : List (Option Value)} {k0 : Fin 4} {x : Int64} (hd : decode cc pc = .ok (.lstore_n k0, 1)) (hi : (k0 : Nat) = 2) (hn : 2 + 1 < nL) (hc : cOk (a0 :: a1 :: a2 :: b2 :: t) 2 = true) (k : J p l e R s m args below meth c nL g cells slots Q V L (pc + 1) (a0 :: a1 :: some (.long x) :: none :: t) st) : J p l e R s m args below meth c nL g cells slots Q V L pc (a0 :: a1 :: a2 :: b2 :: t) (.long x :: st) := j_lstore_n C hd hi hn hc rfl k
theorem j_dst2 (C : Cx p s args m meth c cc nL own ret g) {a0 a1 a2 b2 : Option Value} {t : List (Option Value)} {k0 : Fin 4} {x : UInt64} (hd : decode cc pc = .ok (.dstore_n k0, 1)) (hi : (k0 : Nat) = 2) (hn : 2 + 1 < nL) (hc : cOk (a0 :: a1 :: a2 :: b2 :: t) 2 = true) (k : J p l e R s m args below meth c nL g cells slots Q V L (pc + 1) (a0 :: a1 :: some (.double x) :: none :: t) st) : J p l e R s m args below meth c nL g cells slots Q V L pc (a0 :: a1 :: a2 :: b2 :: t) (.double x :: st) := j_dstore_n C hd hi hn hc rfl k
theorem j_ist3 (C : Cx p s args m meth c cc nL own ret g) {a0 a1 a2 a3 : Option Value} {t : List (Option Value)} {k0 : Fin 4} {x : Int32} (hd : decode cc pc = .ok (.istore_n k0, 1)) (hi : (k0 : Nat) = 3) (hn : 3 < nL) (hc : cOk (a0 :: a1 :: a2 :: a3 :: t) 3 = true) (k : J p l e R s m args below meth c nL g cells slots Q V L (pc + 1) (a0 :: a1 :: a2 :: some (.int x) :: t) st) : J p l e R s m args below meth c nL g cells slots Q V L pc (a0 :: a1 :: a2 :: a3 :: t) (.int x :: st) := j_istore_n C hd hi hn hc rfl k
theorem j_ast3 (C : Cx p s args m meth c cc nL own ret g) {a0 a1 a2 a3 : Option Value} {t : List (Option Value)} {k0 : Fin 4} {x : Nat} (hd : decode cc pc = .ok (.astore_n k0, 1)) (hi : (k0 : Nat) = 3) (hn : 3 < nL) (hc : cOk (a0 :: a1 :: a2 :: a3 :: t) 3 = true) (k : J p l e R s m args below meth c nL g cells slots Q V L (pc + 1) (a0 :: a1 :: a2 :: some (.ref x) :: t) st) : J p l e R s m args below meth c nL g cells slots Q V L pc (a0 :: a1 :: a2 :: a3 :: t) (.ref x :: st) := j_astore_n C hd hi hn hc rfl k
theorem j_nst3 (C : Cx p s args m meth c cc nL own ret g) {a0 a1 a2 a3 : Option Value} {t : List (Option Value)} {k0 : Fin 4} (hd : decode cc pc = .ok (.astore_n k0, 1)) (hi : (k0 : Nat) = 3) (hn : 3 < nL) (hc : cOk (a0 :: a1 :: a2 :: a3 :: t) 3 = true) (k : J p l e R s m args below meth c nL g cells slots Q V L (pc + 1) (a0 :: a1 :: a2 :: some .null :: t) st) : J p l e R s m args below meth c nL g cells slots Q V L pc (a0 :: a1 :: a2 :: a3 :: t) (.null :: st) := j_astore_nN C hd hi hn hc rfl k
theorem j_inc3 (C : Cx p s args m meth c cc nL own ret g) {a0 a1 a2 : Option Value} {t : List (Option Value)} {n : Int} {x v : Int32} (hd : decode cc pc = .ok (.iinc 3 n, 3)) (hv : x + Int32.ofInt n = v) (hn : 3 < nL) (hc : cOk (a0 :: a1 :: a2 :: some (.int x) :: t) 3 = true) (k : J p l e R s m args below meth c nL g cells slots Q V L (pc + 3) (a0 :: a1 :: a2 :: some (.int v) :: t) st) : J p l e R s m args below meth c nL g cells slots Q V L pc (a0 :: a1 :: a2 :: some (.int x) :: t) st := j_iinc C hd (by simp) hv hn hc rfl k
theorem j_lst3 (C : Cx p s args m meth c cc nL own ret g) {a0 a1 a2 a3 b3 : Option Value} {t : List (Option Value)} {k0 : Fin 4} {x : Int64} (hd : decode cc pc = .ok (.lstore_n k0, 1)) (hi : (k0 : Nat) = 3) (hn : 3 + 1 < nL) (hc : cOk (a0 :: a1 :: a2 :: a3 :: b3 :: t) 3 = true) (k : J p l e R s m args below meth c nL g cells slots Q V L (pc + 1) (a0 :: a1 :: a2 :: some (.long x) :: none :: t) st) : J p l e R s m args below meth c nL g cells slots Q V L pc (a0 :: a1 :: a2 :: a3 :: b3 :: t) (.long x :: st) := j_lstore_n C hd hi hn hc rfl k
theorem j_dst3 (C : Cx p s args m meth c cc nL own ret g) {a0 a1 a2 a3 b3 : Option Value} {t : List (Option Value)} {k0 : Fin 4} {x : UInt64} (hd : decode cc pc = .ok (.dstore_n k0, 1)) (hi : (k0 : Nat) = 3) (hn : 3 + 1 < nL) (hc : cOk (a0 :: a1 :: a2 :: a3 :: b3 :: t) 3 = true) (k : J p l e R s m args below meth c nL g cells slots Q V L (pc + 1) (a0 :: a1 :: a2 :: some (.double x) :: none :: t) st) : J p l e R s m args below meth c nL g cells slots Q V L pc (a0 :: a1 :: a2 :: a3 :: b3 :: t) (.double x :: st) := j_dstore_n C hd hi hn hc rfl k
theorem j_ist4 (C : Cx p s args m meth c cc nL own ret g) {a0 a1 a2 a3 a4 : Option Value} {t : List (Option Value)} {x : Int32} (hd : decode cc pc = .ok (.istore 4, 2)) (hn : 4 < nL) (hc : cOk (a0 :: a1 :: a2 :: a3 :: a4 :: t) 4 = true) (k : J p l e R s m args below meth c nL g cells slots Q V L (pc + 2) (a0 :: a1 :: a2 :: a3 :: some (.int x) :: t) st) : J p l e R s m args below meth c nL g cells slots Q V L pc (a0 :: a1 :: a2 :: a3 :: a4 :: t) (.int x :: st) := j_istore C hd hn hc rfl k
theorem j_ast4 (C : Cx p s args m meth c cc nL own ret g) {a0 a1 a2 a3 a4 : Option Value} {t : List (Option Value)} {x : Nat} (hd : decode cc pc = .ok (.astore 4, 2)) (hn : 4 < nL) (hc : cOk (a0 :: a1 :: a2 :: a3 :: a4 :: t) 4 = true) (k : J p l e R s m args below meth c nL g cells slots Q V L (pc + 2) (a0 :: a1 :: a2 :: a3 :: some (.ref x) :: t) st) : J p l e R s m args below meth c nL g cells slots Q V L pc (a0 :: a1 :: a2 :: a3 :: a4 :: t) (.ref x :: st) := j_astore C hd hn hc rfl k
theorem j_nst4 (C : Cx p s args m meth c cc nL own ret g) {a0 a1 a2 a3 a4 : Option Value} {t : List (Option Value)} (hd : decode cc pc = .ok (.astore 4, 2)) (hn : 4 < nL) (hc : cOk (a0 :: a1 :: a2 :: a3 :: a4 :: t) 4 = true) (k : J p l e R s m args below meth c nL g cells slots Q V L (pc + 2) (a0 :: a1 :: a2 :: a3 :: some .null :: t) st) : J p l e R s m args below meth c nL g cells slots Q V L pc (a0 :: a1 :: a2 :: a3 :: a4 :: t) (.null :: st) := j_astoreN C hd hn hc rfl k
theorem j_inc4 (C : Cx p s args m meth c cc nL own ret g) {a0 a1 a2 a3 : Option Value} {t : List (Option Value)} {n : Int} {x v : Int32} (hd : decode cc pc = .ok (.iinc 4 n, 3)) (hv : x + Int32.ofInt n = v) (hn : 4 < nL) (hc : cOk (a0 :: a1 :: a2 :: a3 :: some (.int x) :: t) 4 = true) (k : J p l e R s m args below meth c nL g cells slots Q V L (pc + 3) (a0 :: a1 :: a2 :: a3 :: some (.int v) :: t) st) : J p l e R s m args below meth c nL g cells slots Q V L pc (a0 :: a1 :: a2 :: a3 :: some (.int x) :: t) st := j_iinc C hd (by simp) hv hn hc rfl k
theorem j_lst4 (C : Cx p s args m meth c cc nL own ret g) {a0 a1 a2 a3 a4 b4 : Option Value} {t : List (Option Value)} {x : Int64} (hd : decode cc pc = .ok (.lstore 4, 2)) (hn : 4 + 1 < nL) (hc : cOk (a0 :: a1 :: a2 :: a3 :: a4 :: b4 :: t) 4 = true) (k : J p l e R s m args below meth c nL g cells slots Q V L (pc + 2) (a0 :: a1 :: a2 :: a3 :: some (.long x) :: none :: t) st) : J p l e R s m args below meth c nL g cells slots Q V L pc (a0 :: a1 :: a2 :: a3 :: a4 :: b4 :: t) (.long x :: st) := j_lstore C hd hn hc rfl k
theorem j_dst4 (C : Cx p s args m meth c cc nL own ret g) {a0 a1 a2 a3 a4 b4 : Option Value} {t : List (Option Value)} {x : UInt64} (hd : decode cc pc = .ok (.dstore 4, 2)) (hn : 4 + 1 < nL) (hc : cOk (a0 :: a1 :: a2 :: a3 :: a4 :: b4 :: t) 4 = true) (k : J p l e R s m args below meth c nL g cells slots Q V L (pc + 2) (a0 :: a1 :: a2 :: a3 :: some (.double x) :: none :: t) st) : J p l e R s m args below meth c nL g cells slots Q V L pc (a0 :: a1 :: a2 :: a3 :: a4 :: b4 :: t) (.double x :: st) := j_dstore C hd hn hc rfl k
theorem j_ist5 (C : Cx p s args m meth c cc nL own ret g) {a0 a1 a2 a3 a4 a5 : Option Value} {t : List (Option Value)} {x : Int32} (hd : decode cc pc = .ok (.istore 5, 2)) (hn : 5 < nL) (hc : cOk (a0 :: a1 :: a2 :: a3 :: a4 :: a5 :: t) 5 = true) (k : J p l e R s m args below meth c nL g cells slots Q V L (pc + 2) (a0 :: a1 :: a2 :: a3 :: a4 :: some (.int x) :: t) st) : J p l e R s m args below meth c nL g cells slots Q V L pc (a0 :: a1 :: a2 :: a3 :: a4 :: a5 :: t) (.int x :: st) := j_istore C hd hn hc rfl k
theorem j_ast5 (C : Cx p s args m meth c cc nL own ret g) {a0 a1 a2 a3 a4 a5 : Option Value} {t : List (Option Value)} {x : Nat} (hd : decode cc pc = .ok (.astore 5, 2)) (hn : 5 < nL) (hc : cOk (a0 :: a1 :: a2 :: a3 :: a4 :: a5 :: t) 5 = true) (k : J p l e R s m args below meth c nL g cells slots Q V L (pc + 2) (a0 :: a1 :: a2 :: a3 :: a4 :: some (.ref x) :: t) st) : J p l e R s m args below meth c nL g cells slots Q V L pc (a0 :: a1 :: a2 :: a3 :: a4 :: a5 :: t) (.ref x :: st) := j_astore C hd hn hc rfl k
theorem j_nst5 (C : Cx p s args m meth c cc nL own ret g) {a0 a1 a2 a3 a4 a5 : Option Value} {t : List (Option Value)} (hd : decode cc pc = .ok (.astore 5, 2)) (hn : 5 < nL) (hc : cOk (a0 :: a1 :: a2 :: a3 :: a4 :: a5 :: t) 5 = true) (k : J p l e R s m args below meth c nL g cells slots Q V L (pc + 2) (a0 :: a1 :: a2 :: a3 :: a4 :: some .null :: t) st) : J p l e R s m args below meth c nL g cells slots Q V L pc (a0 :: a1 :: a2 :: a3 :: a4 :: a5 :: t) (.null :: st) := j_astoreN C hd hn hc rfl k
theorem j_inc5 (C : Cx p s args m meth c cc nL own ret g) {a0 a1 a2 a3 a4 : Option Value} {t : List (Option Value)} {n : Int} {x v : Int32} (hd : decode cc pc = .ok (.iinc 5 n, 3)) (hv : x + Int32.ofInt n = v) (hn : 5 < nL) (hc : cOk (a0 :: a1 :: a2 :: a3 :: a4 :: some (.int x) :: t) 5 = true) (k : J p l e R s m args below meth c nL g cells slots Q V L (pc + 3) (a0 :: a1 :: a2 :: a3 :: a4 :: some (.int v) :: t) st) : J p l e R s m args below meth c nL g cells slots Q V L pc (a0 :: a1 :: a2 :: a3 :: a4 :: some (.int x) :: t) st := j_iinc C hd (by simp) hv hn hc rfl k
theorem j_lst5 (C : Cx p s args m meth c cc nL own ret g) {a0 a1 a2 a3 a4 a5 b5 : Option Value} {t : List (Option Value)} {x : Int64} (hd : decode cc pc = .ok (.lstore 5, 2)) (hn : 5 + 1 < nL) (hc : cOk (a0 :: a1 :: a2 :: a3 :: a4 :: a5 :: b5 :: t) 5 = true) (k : J p l e R s m args below meth c nL g cells slots Q V L (pc + 2) (a0 :: a1 :: a2 :: a3 :: a4 :: some (.long x) :: none :: t) st) : J p l e R s m args below meth c nL g cells slots Q V L pc (a0 :: a1 :: a2 :: a3 :: a4 :: a5 :: b5 :: t) (.long x :: st) := j_lstore C hd hn hc rfl k
theorem j_dst5 (C : Cx p s args m meth c cc nL own ret g) {a0 a1 a2 a3 a4 a5 b5 : Option Value} {t : List (Option Value)} {x : UInt64} (hd : decode cc pc = .ok (.dstore 5, 2)) (hn : 5 + 1 < nL) (hc : cOk (a0 :: a1 :: a2 :: a3 :: a4 :: a5 :: b5 :: t) 5 = true) (k : J p l e R s m args below meth c nL g cells slots Q V L (pc + 2) (a0 :: a1 :: a2 :: a3 :: a4 :: some (.double x) :: none :: t) st) : J p l e R s m args below meth c nL g cells slots Q V L pc (a0 :: a1 :: a2 :: a3 :: a4 :: a5 :: b5 :: t) (.double x :: st) := j_dstore C hd hn hc rfl k
theorem j_ist6 (C : Cx p s args m meth c cc nL own ret g) {a0 a1 a2 a3 a4 a5 a6 : Option Value} {t : List (Option Value)} {x : Int32} (hd : decode cc pc = .ok (.istore 6, 2)) (hn : 6 < nL) (hc : cOk (a0 :: a1 :: a2 :: a3 :: a4 :: a5 :: a6 :: t) 6 = true) (k : J p l e R s m args below meth c nL g cells slots Q V L (pc + 2) (a0 :: a1 :: a2 :: a3 :: a4 :: a5 :: some (.int x) :: t) st) : J p l e R s m args below meth c nL g cells slots Q V L pc (a0 :: a1 :: a2 :: a3 :: a4 :: a5 :: a6 :: t) (.int x :: st) := j_istore C hd hn hc rfl k
theorem j_ast6 (C : Cx p s args m meth c cc nL own ret g) {a0 a1 a2 a3 a4 a5 a6 : Option Value} {t : List (Option Value)} {x : Nat} (hd : decode cc pc = .ok (.astore 6, 2)) (hn : 6 < nL) (hc : cOk (a0 :: a1 :: a2 :: a3 :: a4 :: a5 :: a6 :: t) 6 = true) (k : J p l e R s m args below meth c nL g cells slots Q V L (pc + 2) (a0 :: a1 :: a2 :: a3 :: a4 :: a5 :: some (.ref x) :: t) st) : J p l e R s m args below meth c nL g cells slots Q V L pc (a0 :: a1 :: a2 :: a3 :: a4 :: a5 :: a6 :: t) (.ref x :: st) := j_astore C hd hn hc rfl k
theorem j_nst6 (C : Cx p s args m meth c cc nL own ret g) {a0 a1 a2 a3 a4 a5 a6 : Option Value} {t : List (Option Value)} (hd : decode cc pc = .ok (.astore 6, 2)) (hn : 6 < nL) (hc : cOk (a0 :: a1 :: a2 :: a3 :: a4 :: a5 :: a6 :: t) 6 = true) (k : J p l e R s m args below meth c nL g cells slots Q V L (pc + 2) (a0 :: a1 :: a2 :: a3 :: a4 :: a5 :: some .null :: t) st) : J p l e R s m args below meth c nL g cells slots Q V L pc (a0 :: a1 :: a2 :: a3 :: a4 :: a5 :: a6 :: t) (.null :: st) := j_astoreN C hd hn hc rfl k
theorem j_inc6 (C : Cx p s args m meth c cc nL own ret g) {a0 a1 a2 a3 a4 a5 : Option Value} {t : List (Option Value)} {n : Int} {x v : Int32} (hd : decode cc pc = .ok (.iinc 6 n, 3)) (hv : x + Int32.ofInt n = v) (hn : 6 < nL) (hc : cOk (a0 :: a1 :: a2 :: a3 :: a4 :: a5 :: some (.int x) :: t) 6 = true) (k : J p l e R s m args below meth c nL g cells slots Q V L (pc + 3) (a0 :: a1 :: a2 :: a3 :: a4 :: a5 :: some (.int v) :: t) st) : J p l e R s m args below meth c nL g cells slots Q V L pc (a0 :: a1 :: a2 :: a3 :: a4 :: a5 :: some (.int x) :: t) st := j_iinc C hd (by simp) hv hn hc rfl k
theorem j_lst6 (C : Cx p s args m meth c cc nL own ret g) {a0 a1 a2 a3 a4 a5 a6 b6 : Option Value} {t : List (Option Value)} {x : Int64} (hd : decode cc pc = .ok (.lstore 6, 2)) (hn : 6 + 1 < nL) (hc : cOk (a0 :: a1 :: a2 :: a3 :: a4 :: a5 :: a6 :: b6 :: t) 6 = true) (k : J p l e R s m args below meth c nL g cells slots Q V L (pc + 2) (a0 :: a1 :: a2 :: a3 :: a4 :: a5 :: some (.long x) :: none :: t) st) : J p l e R s m args below meth c nL g cells slots Q V L pc (a0 :: a1 :: a2 :: a3 :: a4 :: a5 :: a6 :: b6 :: t) (.long x :: st) := j_lstore C hd hn hc rfl k
theorem j_dst6 (C : Cx p s args m meth c cc nL own ret g) {a0 a1 a2 a3 a4 a5 a6 b6 : Option Value} {t : List (Option Value)} {x : UInt64} (hd : decode cc pc = .ok (.dstore 6, 2)) (hn : 6 + 1 < nL) (hc : cOk (a0 :: a1 :: a2 :: a3 :: a4 :: a5 :: a6 :: b6 :: t) 6 = true) (k : J p l e R s m args below meth c nL g cells slots Q V L (pc + 2) (a0 :: a1 :: a2 :: a3 :: a4 :: a5 :: some (.double x) :: none :: t) st) : J p l e R s m args below meth c nL g cells slots Q V L pc (a0 :: a1 :: a2 :: a3 :: a4 :: a5 :: a6 :: b6 :: t) (.double x :: st) := j_dstore C hd hn hc rfl k
theorem j_ist7 (C : Cx p s args m meth c cc nL own ret g) {a0 a1 a2 a3 a4 a5 a6 a7 : Option Value} {t : List (Option Value)} {x : Int32} (hd : decode cc pc = .ok (.istore 7, 2)) (hn : 7 < nL) (hc : cOk (a0 :: a1 :: a2 :: a3 :: a4 :: a5 :: a6 :: a7 :: t) 7 = true) (k : J p l e R s m args below meth c nL g cells slots Q V L (pc + 2) (a0 :: a1 :: a2 :: a3 :: a4 :: a5 :: a6 :: some (.int x) :: t) st) : J p l e R s m args below meth c nL g cells slots Q V L pc (a0 :: a1 :: a2 :: a3 :: a4 :: a5 :: a6 :: a7 :: t) (.int x :: st) := j_istore C hd hn hc rfl k
theorem j_ast7 (C : Cx p s args m meth c cc nL own ret g) {a0 a1 a2 a3 a4 a5 a6 a7 : Option Value} {t : List (Option Value)} {x : Nat} (hd : decode cc pc = .ok (.astore 7, 2)) (hn : 7 < nL) (hc : cOk (a0 :: a1 :: a2 :: a3 :: a4 :: a5 :: a6 :: a7 :: t) 7 = true) (k : J p l e R s m args below meth c nL g cells slots Q V L (pc + 2) (a0 :: a1 :: a2 :: a3 :: a4 :: a5 :: a6 :: some (.ref x) :: t) st) : J p l e R s m args below meth c nL g cells slots Q V L pc (a0 :: a1 :: a2 :: a3 :: a4 :: a5 :: a6 :: a7 :: t) (.ref x :: st) := j_astore C hd hn hc rfl k
theorem j_nst7 (C : Cx p s args m meth c cc nL own ret g) {a0 a1 a2 a3 a4 a5 a6 a7 : Option Value} {t : List (Option Value)} (hd : decode cc pc = .ok (.astore 7, 2)) (hn : 7 < nL) (hc : cOk (a0 :: a1 :: a2 :: a3 :: a4 :: a5 :: a6 :: a7 :: t) 7 = true) (k : J p l e R s m args below meth c nL g cells slots Q V L (pc + 2) (a0 :: a1 :: a2 :: a3 :: a4 :: a5 :: a6 :: some .null :: t) st) : J p l e R s m args below meth c nL g cells slots Q V L pc (a0 :: a1 :: a2 :: a3 :: a4 :: a5 :: a6 :: a7 :: t) (.null :: st) := j_astoreN C hd hn hc rfl k
theorem j_inc7 (C : Cx p s args m meth c cc nL own ret g) {a0 a1 a2 a3 a4 a5 a6 : Option Value} {t : List (Option Value)} {n : Int} {x v : Int32} (hd : decode cc pc = .ok (.iinc 7 n, 3)) (hv : x + Int32.ofInt n = v) (hn : 7 < nL) (hc : cOk (a0 :: a1 :: a2 :: a3 :: a4 :: a5 :: a6 :: some (.int x) :: t) 7 = true) (k : J p l e R s m args below meth c nL g cells slots Q V L (pc + 3) (a0 :: a1 :: a2 :: a3 :: a4 :: a5 :: a6 :: some (.int v) :: t) st) : J p l e R s m args below meth c nL g cells slots Q V L pc (a0 :: a1 :: a2 :: a3 :: a4 :: a5 :: a6 :: some (.int x) :: t) st := j_iinc C hd (by simp) hv hn hc rfl k
theorem j_lst7 (C : Cx p s args m meth c cc nL own ret g) {a0 a1 a2 a3 a4 a5 a6 a7 b7 : Option Value} {t : List (Option Value)} {x : Int64} (hd : decode cc pc = .ok (.lstore 7, 2)) (hn : 7 + 1 < nL) (hc : cOk (a0 :: a1 :: a2 :: a3 :: a4 :: a5 :: a6 :: a7 :: b7 :: t) 7 = true) (k : J p l e R s m args below meth c nL g cells slots Q V L (pc + 2) (a0 :: a1 :: a2 :: a3 :: a4 :: a5 :: a6 :: some (.long x) :: none :: t) st) : J p l e R s m args below meth c nL g cells slots Q V L pc (a0 :: a1 :: a2 :: a3 :: a4 :: a5 :: a6 :: a7 :: b7 :: t) (.long x :: st) := j_lstore C hd hn hc rfl k
theorem j_dst7 (C : Cx p s args m meth c cc nL own ret g) {a0 a1 a2 a3 a4 a5 a6 a7 b7 : Option Value} {t : List (Option Value)} {x : UInt64} (hd : decode cc pc = .ok (.dstore 7, 2)) (hn : 7 + 1 < nL) (hc : cOk (a0 :: a1 :: a2 :: a3 :: a4 :: a5 :: a6 :: a7 :: b7 :: t) 7 = true) (k : J p l e R s m args below meth c nL g cells slots Q V L (pc + 2) (a0 :: a1 :: a2 :: a3 :: a4 :: a5 :: a6 :: some (.double x) :: none :: t) st) : J p l e R s m args below meth c nL g cells slots Q V L pc (a0 :: a1 :: a2 :: a3 :: a4 :: a5 :: a6 :: a7 :: b7 :: t) (.double x :: st) := j_dstore C hd hn hc rfl k
theorem j_ist8 (C : Cx p s args m meth c cc nL own ret g) {a0 a1 a2 a3 a4 a5 a6 a7 a8 : Option Value} {t : List (Option Value)} {x : Int32} (hd : decode cc pc = .ok (.istore 8, 2)) (hn : 8 < nL) (hc : cOk (a0 :: a1 :: a2 :: a3 :: a4 :: a5 :: a6 :: a7 :: a8 :: t) 8 = true) (k : J p l e R s m args below meth c nL g cells slots Q V L (pc + 2) (a0 :: a1 :: a2 :: a3 :: a4 :: a5 :: a6 :: a7 :: some (.int x) :: t) st) : J p l e R s m args below meth c nL g cells slots Q V L pc (a0 :: a1 :: a2 :: a3 :: a4 :: a5 :: a6 :: a7 :: a8 :: t) (.int x :: st) := j_istore C hd hn hc rfl k
theorem j_ast8 (C : Cx p s args m meth c cc nL own ret g) {a0 a1 a2 a3 a4 a5 a6 a7 a8 : Option Value} {t : List (Option Value)} {x : Nat} (hd : decode cc pc = .ok (.astore 8, 2)) (hn : 8 < nL) (hc : cOk (a0 :: a1 :: a2 :: a3 :: a4 :: a5 :: a6 :: a7 :: a8 :: t) 8 = true) (k : J p l e R s m args below meth c nL g cells slots Q V L (pc + 2) (a0 :: a1 :: a2 :: a3 :: a4 :: a5 :: a6 :: a7 :: some (.ref x) :: t) st) : J p l e R s m args below meth c nL g cells slots Q V L pc (a0 :: a1 :: a2 :: a3 :: a4 :: a5 :: a6 :: a7 :: a8 :: t) (.ref x :: st) := j_astore C hd hn hc rfl k
theorem j_nst8 (C : Cx p s args m meth c cc nL own ret g) {a0 a1 a2 a3 a4 a5 a6 a7 a8 : Option Value} {t : List (Option Value)} (hd : decode cc pc = .ok (.astore 8, 2)) (hn : 8 < nL) (hc : cOk (a0 :: a1 :: a2 :: a3 :: a4 :: a5 :: a6 :: a7 :: a8 :: t) 8 = true) (k : J p l e R s m args below meth c nL g cells slots Q V L (pc + 2) (a0 :: a1 :: a2 :: a3 :: a4 :: a5 :: a6 :: a7 :: some .null :: t) st) : J p l e R s m args below meth c nL g cells slots Q V L pc (a0 :: a1 :: a2 :: a3 :: a4 :: a5 :: a6 :: a7 :: a8 :: t) (.null :: st) := j_astoreN C hd hn hc rfl k
theorem j_inc8 (C : Cx p s args m meth c cc nL own ret g) {a0 a1 a2 a3 a4 a5 a6 a7 : Option Value} {t : List (Option Value)} {n : Int} {x v : Int32} (hd : decode cc pc = .ok (.iinc 8 n, 3)) (hv : x + Int32.ofInt n = v) (hn : 8 < nL) (hc : cOk (a0 :: a1 :: a2 :: a3 :: a4 :: a5 :: a6 :: a7 :: some (.int x) :: t) 8 = true) (k : J p l e R s m args below meth c nL g cells slots Q V L (pc + 3) (a0 :: a1 :: a2 :: a3 :: a4 :: a5 :: a6 :: a7 :: some (.int v) :: t) st) : J p l e R s m args below meth c nL g cells slots Q V L pc (a0 :: a1 :: a2 :: a3 :: a4 :: a5 :: a6 :: a7 :: some (.int x) :: t) st := j_iinc C hd (by simp) hv hn hc rfl k
theorem j_lst8 (C : Cx p s args m meth c cc nL own ret g) {a0 a1 a2 a3 a4 a5 a6 a7 a8 b8 : Option Value} {t : List (Option Value)} {x : Int64} (hd : decode cc pc = .ok (.lstore 8, 2)) (hn : 8 + 1 < nL) (hc : cOk (a0 :: a1 :: a2 :: a3 :: a4 :: a5 :: a6 :: a7 :: a8 :: b8 :: t) 8 = true) (k : J p l e R s m args below meth c nL g cells slots Q V L (pc + 2) (a0 :: a1 :: a2 :: a3 :: a4 :: a5 :: a6 :: a7 :: some (.long x) :: none :: t) st) : J p l e R s m args below meth c nL g cells slots Q V L pc (a0 :: a1 :: a2 :: a3 :: a4 :: a5 :: a6 :: a7 :: a8 :: b8 :: t) (.long x :: st) := j_lstore C hd hn hc rfl k
theorem j_dst8 (C : Cx p s args m meth c cc nL own ret g) {a0 a1 a2 a3 a4 a5 a6 a7 a8 b8 : Option Value} {t : List (Option Value)} {x : UInt64} (hd : decode cc pc = .ok (.dstore 8, 2)) (hn : 8 + 1 < nL) (hc : cOk (a0 :: a1 :: a2 :: a3 :: a4 :: a5 :: a6 :: a7 :: a8 :: b8 :: t) 8 = true) (k : J p l e R s m args below meth c nL g cells slots Q V L (pc + 2) (a0 :: a1 :: a2 :: a3 :: a4 :: a5 :: a6 :: a7 :: some (.double x) :: none :: t) st) : J p l e R s m args below meth c nL g cells slots Q V L pc (a0 :: a1 :: a2 :: a3 :: a4 :: a5 :: a6 :: a7 :: a8 :: b8 :: t) (.double x :: st) := j_dstore C hd hn hc rfl k
theorem j_ist9 (C : Cx p s args m meth c cc nL own ret g) {a0 a1 a2 a3 a4 a5 a6 a7 a8 a9 : Option Value} {t : List (Option Value)} {x : Int32} (hd : decode cc pc = .ok (.istore 9, 2)) (hn : 9 < nL) (hc : cOk (a0 :: a1 :: a2 :: a3 :: a4 :: a5 :: a6 :: a7 :: a8 :: a9 :: t) 9 = true) (k : J p l e R s m args below meth c nL g cells slots Q V L (pc + 2) (a0 :: a1 :: a2 :: a3 :: a4 :: a5 :: a6 :: a7 :: a8 :: some (.int x) :: t) st) : J p l e R s m args below meth c nL g cells slots Q V L pc (a0 :: a1 :: a2 :: a3 :: a4 :: a5 :: a6 :: a7 :: a8 :: a9 :: t) (.int x :: st) := j_istore C hd hn hc rfl k
theorem j_ast9 (C : Cx p s args m meth c cc nL own ret g) {a0 a1 a2 a3 a4 a5 a6 a7 a8 a9 : Option Value} {t : List (Option Value)} {x : Nat} (hd : decode cc pc = .ok (.astore 9, 2)) (hn : 9 < nL) (hc : cOk (a0 :: a1 :: a2 :: a3 :: a4 :: a5 :: a6 :: a7 :: a8 :: a9 :: t) 9 = true) (k : J p l e R s m args below meth c nL g cells slots Q V L (pc + 2) (a0 :: a1 :: a2 :: a3 :: a4 :: a5 :: a6 :: a7 :: a8 :: some (.ref x) :: t) st) : J p l e R s m args below meth c nL g cells slots Q V L pc (a0 :: a1 :: a2 :: a3 :: a4 :: a5 :: a6 :: a7 :: a8 :: a9 :: t) (.ref x :: st) := j_astore C hd hn hc rfl k
theorem j_nst9 (C : Cx p s args m meth c cc nL own ret g) {a0 a1 a2 a3 a4 a5 a6 a7 a8 a9 : Option Value} {t : List (Option Value)} (hd : decode cc pc = .ok (.astore 9, 2)) (hn : 9 < nL) (hc : cOk (a0 :: a1 :: a2 :: a3 :: a4 :: a5 :: a6 :: a7 :: a8 :: a9 :: t) 9 = true) (k : J p l e R s m args below meth c nL g cells slots Q V L (pc + 2) (a0 :: a1 :: a2 :: a3 :: a4 :: a5 :: a6 :: a7 :: a8 :: some .null :: t) st) : J p l e R s m args below meth c nL g cells slots Q V L pc (a0 :: a1 :: a2 :: a3 :: a4 :: a5 :: a6 :: a7 :: a8 :: a9 :: t) (.null :: st) := j_astoreN C hd hn hc rfl k
theorem j_inc9 (C : Cx p s args m meth c cc nL own ret g) {a0 a1 a2 a3 a4 a5 a6 a7 a8 : Option Value} {t : List (Option Value)} {n : Int} {x v : Int32} (hd : decode cc pc = .ok (.iinc 9 n, 3)) (hv : x + Int32.ofInt n = v) (hn : 9 < nL) (hc : cOk (a0 :: a1 :: a2 :: a3 :: a4 :: a5 :: a6 :: a7 :: a8 :: some (.int x) :: t) 9 = true) (k : J p l e R s m args below meth c nL g cells slots Q V L (pc + 3) (a0 :: a1 :: a2 :: a3 :: a4 :: a5 :: a6 :: a7 :: a8 :: some (.int v) :: t) st) : J p l e R s m args below meth c nL g cells slots Q V L pc (a0 :: a1 :: a2 :: a3 :: a4 :: a5 :: a6 :: a7 :: a8 :: some (.int x) :: t) st := j_iinc C hd (by simp) hv hn hc rfl k
theorem j_lst9 (C : Cx p s args m meth c cc nL own ret g) {a0 a1 a2 a3 a4 a5 a6 a7 a8 a9 b9 : Option Value} {t : List (Option Value)} {x : Int64} (hd : decode cc pc = .ok (.lstore 9, 2)) (hn : 9 + 1 < nL) (hc : cOk (a0 :: a1 :: a2 :: a3 :: a4 :: a5 :: a6 :: a7 :: a8 :: a9 :: b9 :: t) 9 = true) (k : J p l e R s m args below meth c nL g cells slots Q V L (pc + 2) (a0 :: a1 :: a2 :: a3 :: a4 :: a5 :: a6 :: a7 :: a8 :: some (.long x) :: none :: t) st) : J p l e R s m args below meth c nL g cells slots Q V L pc (a0 :: a1 :: a2 :: a3 :: a4 :: a5 :: a6 :: a7 :: a8 :: a9 :: b9 :: t) (.long x :: st) := j_lstore C hd hn hc rfl k
theorem j_dst9 (C : Cx p s args m meth c cc nL own ret g) {a0 a1 a2 a3 a4 a5 a6 a7 a8 a9 b9 : Option Value} {t : List (Option Value)} {x : UInt64} (hd : decode cc pc = .ok (.dstore 9, 2)) (hn : 9 + 1 < nL) (hc : cOk (a0 :: a1 :: a2 :: a3 :: a4 :: a5 :: a6 :: a7 :: a8 :: a9 :: b9 :: t) 9 = true) (k : J p l e R s m args below meth c nL g cells slots Q V L (pc + 2) (a0 :: a1 :: a2 :: a3 :: a4 :: a5 :: a6 :: a7 :: a8 :: some (.double x) :: none :: t) st) : J p l e R s m args below meth c nL g cells slots Q V L pc (a0 :: a1 :: a2 :: a3 :: a4 :: a5 :: a6 :: a7 :: a8 :: a9 :: b9 :: t) (.double x :: st) := j_dstore C hd hn hc rfl k
theorem j_ist10 (C : Cx p s args m meth c cc nL own ret g) {a0 a1 a2 a3 a4 a5 a6 a7 a8 a9 a10 : Option Value} {t : List (Option Value)} {x : Int32} (hd : decode cc pc = .ok (.istore 10, 2)) (hn : 10 < nL) (hc : cOk (a0 :: a1 :: a2 :: a3 :: a4 :: a5 :: a6 :: a7 :: a8 :: a9 :: a10 :: t) 10 = true) (k : J p l e R s m args below meth c nL g cells slots Q V L (pc + 2) (a0 :: a1 :: a2 :: a3 :: a4 :: a5 :: a6 :: a7 :: a8 :: a9 :: some (.int x) :: t) st) : J p l e R s m args below meth c nL g cells slots Q V L pc (a0 :: a1 :: a2 :: a3 :: a4 :: a5 :: a6 :: a7 :: a8 :: a9 :: a10 :: t) (.int x :: st) := j_istore C hd hn hc rfl k
theorem j_ast10 (C : Cx p s args m meth c cc nL own ret g) {a0 a1 a2 a3 a4 a5 a6 a7 a8 a9 a10 : Option Value} {t : List (Option Value)} {x : Nat} (hd : decode cc pc = .ok (.astore 10, 2)) (hn : 10 < nL) (hc : cOk (a0 :: a1 :: a2 :: a3 :: a4 :: a5 :: a6 :: a7 :: a8 :: a9 :: a10 :: t) 10 = true) (k : J p l e R s m args below meth c nL g cells slots Q V L (pc + 2) (a0 :: a1 :: a2 :: a3 :: a4 :: a5 :: a6 :: a7 :: a8 :: a9 :: some (.ref x) :: t) st) : J p l e R s m args below meth c nL g cells slots Q V L pc (a0 :: a1 :: a2 :: a3 :: a4 :: a5 :: a6 :: a7 :: a8 :: a9 :: a10 :: t) (.ref x :: st) := j_astore C hd hn hc rfl k
theorem j_nst10 (C : Cx p s args m meth c cc nL own ret g) {a0 a1 a2 a3 a4 a5 a6 a7 a8 a9 a10 : Option Value} {t : List (Option Value)} (hd : decode cc pc = .ok (.astore 10, 2)) (hn : 10 < nL) (hc : cOk (a0 :: a1 :: a2 :: a3 :: a4 :: a5 :: a6 :: a7 :: a8 :: a9 :: a10 :: t) 10 = true) (k : J p l e R s m args below meth c nL g cells slots Q V L (pc + 2) (a0 :: a1 :: a2 :: a3 :: a4 :: a5 :: a6 :: a7 :: a8 :: a9 :: some .null :: t) st) : J p l e R s m args below meth c nL g cells slots Q V L pc (a0 :: a1 :: a2 :: a3 :: a4 :: a5 :: a6 :: a7 :: a8 :: a9 :: a10 :: t) (.null :: st) := j_astoreN C hd hn hc rfl k
theorem j_inc10 (C : Cx p s args m meth c cc nL own ret g) {a0 a1 a2 a3 a4 a5 a6 a7 a8 a9 : Option Value} {t : List (Option Value)} {n : Int} {x v : Int32} (hd : decode cc pc = .ok (.iinc 10 n, 3)) (hv : x + Int32.ofInt n = v) (hn : 10 < nL) (hc : cOk (a0 :: a1 :: a2 :: a3 :: a4 :: a5 :: a6 :: a7 :: a8 :: a9 :: some (.int x) :: t) 10 = true) (k : J p l e R s m args below meth c nL g cells slots Q V L (pc + 3) (a0 :: a1 :: a2 :: a3 :: a4 :: a5 :: a6 :: a7 :: a8 :: a9 :: some (.int v) :: t) st) : J p l e R s m args below meth c nL g cells slots Q V L pc (a0 :: a1 :: a2 :: a3 :: a4 :: a5 :: a6 :: a7 :: a8 :: a9 :: some (.int x) :: t) st := j_iinc C hd (by simp) hv hn hc rfl k
theorem j_lst10 (C : Cx p s args m meth c cc nL own ret g) {a0 a1 a2 a3 a4 a5 a6 a7 a8 a9 a10 b10 : Option Value} {t : List (Option Value)} {x : Int64} (hd : decode cc pc = .ok (.lstore 10, 2)) (hn : 10 + 1 < nL) (hc : cOk (a0 :: a1 :: a2 :: a3 :: a4 :: a5 :: a6 :: a7 :: a8 :: a9 :: a10 :: b10 :: t) 10 = true) (k : J p l e R s m args below meth c nL g cells slots Q V L (pc + 2) (a0 :: a1 :: a2 :: a3 :: a4 :: a5 :: a6 :: a7 :: a8 :: a9 :: some (.long x) :: none :: t) st) : J p l e R s m args below meth c nL g cells slots Q V L pc (a0 :: a1 :: a2 :: a3 :: a4 :: a5 :: a6 :: a7 :: a8 :: a9 :: a10 :: b10 :: t) (.long x :: st) := j_lstore C hd hn hc rfl k
theorem j_dst10 (C : Cx p s args m meth c cc nL own ret g) {a0 a1 a2 a3 a4 a5 a6 a7 a8 a9 a10 b10 : Option Value} {t : List (Option Value)} {x : UInt64} (hd : decode cc pc = .ok (.dstore 10, 2)) (hn : 10 + 1 < nL) (hc : cOk (a0 :: a1 :: a2 :: a3 :: a4 :: a5 :: a6 :: a7 :: a8 :: a9 :: a10 :: b10 :: t) 10 = true) (k : J p l e R s m args below meth c nL g cells slots Q V L (pc + 2) (a0 :: a1 :: a2 :: a3 :: a4 :: a5 :: a6 :: a7 :: a8 :: a9 :: some (.double x) :: none :: t) st) : J p l e R s m args below meth c nL g cells slots Q V L pc (a0 :: a1 :: a2 :: a3 :: a4 :: a5 :: a6 :: a7 :: a8 :: a9 :: a10 :: b10 :: t) (.double x :: st) := j_dstore C hd hn hc rfl k
theorem j_ist11 (C : Cx p s args m meth c cc nL own ret g) {a0 a1 a2 a3 a4 a5 a6 a7 a8 a9 a10 a11 : Option Value} {t : List (Option Value)} {x : Int32} (hd : decode cc pc = .ok (.istore 11, 2)) (hn : 11 < nL) (hc : cOk (a0 :: a1 :: a2 :: a3 :: a4 :: a5 :: a6 :: a7 :: a8 :: a9 :: a10 :: a11 :: t) 11 = true) (k : J p l e R s m args below meth c nL g cells slots Q V L (pc + 2) (a0 :: a1 :: a2 :: a3 :: a4 :: a5 :: a6 :: a7 :: a8 :: a9 :: a10 :: some (.int x) :: t) st) : J p l e R s m args below meth c nL g cells slots Q V L pc (a0 :: a1 :: a2 :: a3 :: a4 :: a5 :: a6 :: a7 :: a8 :: a9 :: a10 :: a11 :: t) (.int x :: st) := j_istore C hd hn hc rfl k
theorem j_ast11 (C : Cx p s args m meth c cc nL own ret g) {a0 a1 a2 a3 a4 a5 a6 a7 a8 a9 a10 a11 : Option Value} {t : List (Option Value)} {x : Nat} (hd : decode cc pc = .ok (.astore 11, 2)) (hn : 11 < nL) (hc : cOk (a0 :: a1 :: a2 :: a3 :: a4 :: a5 :: a6 :: a7 :: a8 :: a9 :: a10 :: a11 :: t) 11 = true) (k : J p l e R s m args below meth c nL g cells slots Q V L (pc + 2) (a0 :: a1 :: a2 :: a3 :: a4 :: a5 :: a6 :: a7 :: a8 :: a9 :: a10 :: some (.ref x) :: t) st) : J p l e R s m args below meth c nL g cells slots Q V L pc (a0 :: a1 :: a2 :: a3 :: a4 :: a5 :: a6 :: a7 :: a8 :: a9 :: a10 :: a11 :: t) (.ref x :: st) := j_astore C hd hn hc rfl k
theorem j_nst11 (C : Cx p s args m meth c cc nL own ret g) {a0 a1 a2 a3 a4 a5 a6 a7 a8 a9 a10 a11 : Option Value} {t : List (Option Value)} (hd : decode cc pc = .ok (.astore 11, 2)) (hn : 11 < nL) (hc : cOk (a0 :: a1 :: a2 :: a3 :: a4 :: a5 :: a6 :: a7 :: a8 :: a9 :: a10 :: a11 :: t) 11 = true) (k : J p l e R s m args below meth c nL g cells slots Q V L (pc + 2) (a0 :: a1 :: a2 :: a3 :: a4 :: a5 :: a6 :: a7 :: a8 :: a9 :: a10 :: some .null :: t) st) : J p l e R s m args below meth c nL g cells slots Q V L pc (a0 :: a1 :: a2 :: a3 :: a4 :: a5 :: a6 :: a7 :: a8 :: a9 :: a10 :: a11 :: t) (.null :: st) := j_astoreN C hd hn hc rfl k
theorem j_inc11 (C : Cx p s args m meth c cc nL own ret g) {a0 a1 a2 a3 a4 a5 a6 a7 a8 a9 a10 : Option Value} {t : List (Option Value)} {n : Int} {x v : Int32} (hd : decode cc pc = .ok (.iinc 11 n, 3)) (hv : x + Int32.ofInt n = v) (hn : 11 < nL) (hc : cOk (a0 :: a1 :: a2 :: a3 :: a4 :: a5 :: a6 :: a7 :: a8 :: a9 :: a10 :: some (.int x) :: t) 11 = true) (k : J p l e R s m args below meth c nL g cells slots Q V L (pc + 3) (a0 :: a1 :: a2 :: a3 :: a4 :: a5 :: a6 :: a7 :: a8 :: a9 :: a10 :: some (.int v) :: t) st) : J p l e R s m args below meth c nL g cells slots Q V L pc (a0 :: a1 :: a2 :: a3 :: a4 :: a5 :: a6 :: a7 :: a8 :: a9 :: a10 :: some (.int x) :: t) st := j_iinc C hd (by simp) hv hn hc rfl k
theorem j_lst11 (C : Cx p s args m meth c cc nL own ret g) {a0 a1 a2 a3 a4 a5 a6 a7 a8 a9 a10 a11 b11 : Option Value} {t : List (Option Value)} {x : Int64} (hd : decode cc pc = .ok (.lstore 11, 2)) (hn : 11 + 1 < nL) (hc : cOk (a0 :: a1 :: a2 :: a3 :: a4 :: a5 :: a6 :: a7 :: a8 :: a9 :: a10 :: a11 :: b11 :: t) 11 = true) (k : J p l e R s m args below meth c nL g cells slots Q V L (pc + 2) (a0 :: a1 :: a2 :: a3 :: a4 :: a5 :: a6 :: a7 :: a8 :: a9 :: a10 :: some (.long x) :: none :: t) st) : J p l e R s m args below meth c nL g cells slots Q V L pc (a0 :: a1 :: a2 :: a3 :: a4 :: a5 :: a6 :: a7 :: a8 :: a9 :: a10 :: a11 :: b11 :: t) (.long x :: st) := j_lstore C hd hn hc rfl k
theorem j_dst11 (C : Cx p s args m meth c cc nL own ret g) {a0 a1 a2 a3 a4 a5 a6 a7 a8 a9 a10 a11 b11 : Option Value} {t : List (Option Value)} {x : UInt64} (hd : decode cc pc = .ok (.dstore 11, 2)) (hn : 11 + 1 < nL) (hc : cOk (a0 :: a1 :: a2 :: a3 :: a4 :: a5 :: a6 :: a7 :: a8 :: a9 :: a10 :: a11 :: b11 :: t) 11 = true) (k : J p l e R s m args below meth c nL g cells slots Q V L (pc + 2) (a0 :: a1 :: a2 :: a3 :: a4 :: a5 :: a6 :: a7 :: a8 :: a9 :: a10 :: some (.double x) :: none :: t) st) : J p l e R s m args below meth c nL g cells slots Q V L pc (a0 :: a1 :: a2 :: a3 :: a4 :: a5 :: a6 :: a7 :: a8 :: a9 :: a10 :: a11 :: b11 :: t) (.double x :: st) := j_dstore C hd hn hc rfl k
theorem j_ist12 (C : Cx p s args m meth c cc nL own ret g) {a0 a1 a2 a3 a4 a5 a6 a7 a8 a9 a10 a11 a12 : Option Value} {t : List (Option Value)} {x : Int32} (hd : decode cc pc = .ok (.istore 12, 2)) (hn : 12 < nL) (hc : cOk (a0 :: a1 :: a2 :: a3 :: a4 :: a5 :: a6 :: a7 :: a8 :: a9 :: a10 :: a11 :: a12 :: t) 12 = true) (k : J p l e R s m args below meth c nL g cells slots Q V L (pc + 2) (a0 :: a1 :: a2 :: a3 :: a4 :: a5 :: a6 :: a7 :: a8 :: a9 :: a10 :: a11 :: some (.int x) :: t) st) : J p l e R s m args below meth c nL g cells slots Q V L pc (a0 :: a1 :: a2 :: a3 :: a4 :: a5 :: a6 :: a7 :: a8 :: a9 :: a10 :: a11 :: a12 :: t) (.int x :: st) := j_istore C hd hn hc rfl k
theorem j_ast12 (C : Cx p s args m meth c cc nL own ret g) {a0 a1 a2 a3 a4 a5 a6 a7 a8 a9 a10 a11 a12 : Option Value} {t : List (Option Value)} {x : Nat} (hd : decode cc pc = .ok (.astore 12, 2)) (hn : 12 < nL) (hc : cOk (a0 :: a1 :: a2 :: a3 :: a4 :: a5 :: a6 :: a7 :: a8 :: a9 :: a10 :: a11 :: a12 :: t) 12 = true) (k : J p l e R s m args below meth c nL g cells slots Q V L (pc + 2) (a0 :: a1 :: a2 :: a3 :: a4 :: a5 :: a6 :: a7 :: a8 :: a9 :: a10 :: a11 :: some (.ref x) :: t) st) : J p l e R s m args below meth c nL g cells slots Q V L pc (a0 :: a1 :: a2 :: a3 :: a4 :: a5 :: a6 :: a7 :: a8 :: a9 :: a10 :: a11 :: a12 :: t) (.ref x :: st) := j_astore C hd hn hc rfl k
theorem j_nst12 (C : Cx p s args m meth c cc nL own ret g) {a0 a1 a2 a3 a4 a5 a6 a7 a8 a9 a10 a11 a12 : Option Value} {t : List (Option Value)} (hd : decode cc pc = .ok (.astore 12, 2)) (hn : 12 < nL) (hc : cOk (a0 :: a1 :: a2 :: a3 :: a4 :: a5 :: a6 :: a7 :: a8 :: a9 :: a10 :: a11 :: a12 :: t) 12 = true) (k : J p l e R s m args below meth c nL g cells slots Q V L (pc + 2) (a0 :: a1 :: a2 :: a3 :: a4 :: a5 :: a6 :: a7 :: a8 :: a9 :: a10 :: a11 :: some .null :: t) st) : J p l e R s m args below meth c nL g cells slots Q V L pc (a0 :: a1 :: a2 :: a3 :: a4 :: a5 :: a6 :: a7 :: a8 :: a9 :: a10 :: a11 :: a12 :: t) (.null :: st) := j_astoreN C hd hn hc rfl k
theorem j_inc12 (C : Cx p s args m meth c cc nL own ret g) {a0 a1 a2 a3 a4 a5 a6 a7 a8 a9 a10 a11 : Option Value} {t : List (Option Value)} {n : Int} {x v : Int32} (hd : decode cc pc = .ok (.iinc 12 n, 3)) (hv : x + Int32.ofInt n = v) (hn : 12 < nL) (hc : cOk (a0 :: a1 :: a2 :: a3 :: a4 :: a5 :: a6 :: a7 :: a8 :: a9 :: a10 :: a11 :: some (.int x) :: t) 12 = true) (k : J p l e R s m args below meth c nL g cells slots Q V L (pc + 3) (a0 :: a1 :: a2 :: a3 :: a4 :: a5 :: a6 :: a7 :: a8 :: a9 :: a10 :: a11 :: some (.int v) :: t) st) : J p l e R s m args below meth c nL g cells slots Q V L pc (a0 :: a1 :: a2 :: a3 :: a4 :: a5 :: a6 :: a7 :: a8 :: a9 :: a10 :: a11 :: some (.int x) :: t) st := j_iinc C hd (by simp) hv hn hc rfl k
theorem j_lst12 (C : Cx p s args m meth c cc nL own ret g) {a0 a1 a2 a3 a4 a5 a6 a7 a8 a9 a10 a11 a12 b12 : Option Value} {t : List (Option Value)} {x : Int64} (hd : decode cc pc = .ok (.lstore 12, 2)) (hn : 12 + 1 < nL) (hc : cOk (a0 :: a1 :: a2 :: a3 :: a4 :: a5 :: a6 :: a7 :: a8 :: a9 :: a10 :: a11 :: a12 :: b12 :: t) 12 = true) (k : J p l e R s m args below meth c nL g cells slots Q V L (pc + 2) (a0 :: a1 :: a2 :: a3 :: a4 :: a5 :: a6 :: a7 :: a8 :: a9 :: a10 :: a11 :: some (.long x) :: none :: t) st) : J p l e R s m args below meth c nL g cells slots Q V L pc (a0 :: a1 :: a2 :: a3 :: a4 :: a5 :: a6 :: a7 :: a8 :: a9 :: a10 :: a11 :: a12 :: b12 :: t) (.long x :: st) := j_lstore C hd hn hc rfl k
theorem j_dst12 (C : Cx p s args m meth c cc nL own ret g) {a0 a1 a2 a3 a4 a5 a6 a7 a8 a9 a10 a11 a12 b12 : Option Value} {t : List (Option Value)} {x : UInt64} (hd : decode cc pc = .ok (.dstore 12, 2)) (hn : 12 + 1 < nL) (hc : cOk (a0 :: a1 :: a2 :: a3 :: a4 :: a5 :: a6 :: a7 :: a8 :: a9 :: a10 :: a11 :: a12 :: b12 :: t) 12 = true) (k : J p l e R s m args below meth c nL g cells slots Q V L (pc + 2) (a0 :: a1 :: a2 :: a3 :: a4 :: a5 :: a6 :: a7 :: a8 :: a9 :: a10 :: a11 :: some (.double x) :: none :: t) st) : J p l e R s m args below meth c nL g cells slots Q V L pc (a0 :: a1 :: a2 :: a3 :: a4 :: a5 :: a6 :: a7 :: a8 :: a9 :: a10 :: a11 :: a12 :: b12 :: t) (.double x :: st) := j_dstore C hd hn hc rfl k
theorem j_ist13 (C : Cx p s args m meth c cc nL own ret g) {a0 a1 a2 a3 a4 a5 a6 a7 a8 a9 a10 a11 a12 a13 : Option Value} {t : List (Option Value)} {x : Int32} (hd : decode cc pc = .ok (.istore 13, 2)) (hn : 13 < nL) (hc : cOk (a0 :: a1 :: a2 :: a3 :: a4 :: a5 :: a6 :: a7 :: a8 :: a9 :: a10 :: a11 :: a12 :: a13 :: t) 13 = true) (k : J p l e R s m args below meth c nL g cells slots Q V L (pc + 2) (a0 :: a1 :: a2 :: a3 :: a4 :: a5 :: a6 :: a7 :: a8 :: a9 :: a10 :: a11 :: a12 :: some (.int x) :: t) st) : J p l e R s m args below meth c nL g cells slots Q V L pc (a0 :: a1 :: a2 :: a3 :: a4 :: a5 :: a6 :: a7 :: a8 :: a9 :: a10 :: a11 :: a12 :: a13 :: t) (.int x :: st) := j_istore C hd hn hc rfl k
theorem j_ast13 (C : Cx p s args m meth c cc nL own ret g) {a0 a1 a2 a3 a4 a5 a6 a7 a8 a9 a10 a11 a12 a13 : Option Value} {t : List (Option Value)} {x : Nat} (hd : decode cc pc = .ok (.astore 13, 2)) (hn : 13 < nL) (hc : cOk (a0 :: a1 :: a2 :: a3 :: a4 :: a5 :: a6 :: a7 :: a8 :: a9 :: a10 :: a11 :: a12 :: a13 :: t) 13 = true) (k : J p l e R s m args below meth c nL g cells slots Q V L (pc + 2) (a0 :: a1 :: a2 :: a3 :: a4 :: a5 :: a6 :: a7 :: a8 :: a9 :: a10 :: a11 :: a12 :: some (.ref x) :: t) st) : J p l e R s m args below meth c nL g cells slots Q V L pc (a0 :: a1 :: a2 :: a3 :: a4 :: a5 :: a6 :: a7 :: a8 :: a9 :: a10 :: a11 :: a12 :: a13 :: t) (.ref x :: st) := j_astore C hd hn hc rfl k
theorem j_nst13 (C : Cx p s args m meth c cc nL own ret g) {a0 a1 a2 a3 a4 a5 a6 a7 a8 a9 a10 a11 a12 a13 : Option Value} {t : List (Option Value)} (hd : decode cc pc = .ok (.astore 13, 2)) (hn : 13 < nL) (hc : cOk (a0 :: a1 :: a2 :: a3 :: a4 :: a5 :: a6 :: a7 :: a8 :: a9 :: a10 :: a11 :: a12 :: a13 :: t) 13 = true) (k : J p l e R s m args below meth c nL g cells slots Q V L (pc + 2) (a0 :: a1 :: a2 :: a3 :: a4 :: a5 :: a6 :: a7 :: a8 :: a9 :: a10 :: a11 :: a12 :: some .null :: t) st) : J p l e R s m args below meth c nL g cells slots Q V L pc (a0 :: a1 :: a2 :: a3 :: a4 :: a5 :: a6 :: a7 :: a8 :: a9 :: a10 :: a11 :: a12 :: a13 :: t) (.null :: st) := j_astoreN C hd hn hc rfl k
theorem j_inc13 (C : Cx p s args m meth c cc nL own ret g) {a0 a1 a2 a3 a4 a5 a6 a7 a8 a9 a10 a11 a12 : Option Value} {t : List (Option Value)} {n : Int} {x v : Int32} (hd : decode cc pc = .ok (.iinc 13 n, 3)) (hv : x + Int32.ofInt n = v) (hn : 13 < nL) (hc : cOk (a0 :: a1 :: a2 :: a3 :: a4 :: a5 :: a6 :: a7 :: a8 :: a9 :: a10 :: a11 :: a12 :: some (.int x) :: t) 13 = true) (k : J p l e R s m args below meth c nL g cells slots Q V L (pc + 3) (a0 :: a1 :: a2 :: a3 :: a4 :: a5 :: a6 :: a7 :: a8 :: a9 :: a10 :: a11 :: a12 :: some (.int v) :: t) st) : J p l e R s m args below meth c nL g cells slots Q V L pc (a0 :: a1 :: a2 :: a3 :: a4 :: a5 :: a6 :: a7 :: a8 :: a9 :: a10 :: a11 :: a12 :: some (.int x) :: t) st := j_iinc C hd (by simp) hv hn hc rfl k
theorem j_lst13 (C : Cx p s args m meth c cc nL own ret g) {a0 a1 a2 a3 a4 a5 a6 a7 a8 a9 a10 a11 a12 a13 b13 : Option Value} {t : List (Option Value)} {x : Int64} (hd : decode cc pc = .ok (.lstore 13, 2)) (hn : 13 + 1 < nL) (hc : cOk (a0 :: a1 :: a2 :: a3 :: a4 :: a5 :: a6 :: a7 :: a8 :: a9 :: a10 :: a11 :: a12 :: a13 :: b13 :: t) 13 = true) (k : J p l e R s m args below meth c nL g cells slots Q V L (pc + 2) (a0 :: a1 :: a2 :: a3 :: a4 :: a5 :: a6 :: a7 :: a8 :: a9 :: a10 :: a11 :: a12 :: some (.long x) :: none :: t) st) : J p l e R s m args below meth c nL g cells slots Q V L pc (a0 :: a1 :: a2 :: a3 :: a4 :: a5 :: a6 :: a7 :: a8 :: a9 :: a10 :: a11 :: a12 :: a13 :: b13 :: t) (.long x :: st) := j_lstore C hd hn hc rfl k
theorem j_dst13 (C : Cx p s args m meth c cc nL own ret g) {a0 a1 a2 a3 a4 a5 a6 a7 a8 a9 a10 a11 a12 a13 b13 : Option Value} {t : List (Option Value)} {x : UInt64} (hd : decode cc pc = .ok (.dstore 13, 2)) (hn : 13 + 1 < nL) (hc : cOk (a0 :: a1 :: a2 :: a3 :: a4 :: a5 :: a6 :: a7 :: a8 :: a9 :: a10 :: a11 :: a12 :: a13 :: b13 :: t) 13 = true) (k : J p l e R s m args below meth c nL g cells slots Q V L (pc + 2) (a0 :: a1 :: a2 :: a3 :: a4 :: a5 :: a6 :: a7 :: a8 :: a9 :: a10 :: a11 :: a12 :: some (.double x) :: none :: t) st) : J p l e R s m args below meth c nL g cells slots Q V L pc (a0 :: a1 :: a2 :: a3 :: a4 :: a5 :: a6 :: a7 :: a8 :: a9 :: a10 :: a11 :: a12 :: a13 :: b13 :: t) (.double x :: st) := j_dstore C hd hn hc rfl k
theorem j_ist14 (C : Cx p s args m meth c cc nL own ret g) {a0 a1 a2 a3 a4 a5 a6 a7 a8 a9 a10 a11 a12 a13 a14 : Option Value} {t : List (Option Value)} {x : Int32} (hd : decode cc pc = .ok (.istore 14, 2)) (hn : 14 < nL) (hc : cOk (a0 :: a1 :: a2 :: a3 :: a4 :: a5 :: a6 :: a7 :: a8 :: a9 :: a10 :: a11 :: a12 :: a13 :: a14 :: t) 14 = true) (k : J p l e R s m args below meth c nL g cells slots Q V L (pc + 2) (a0 :: a1 :: a2 :: a3 :: a4 :: a5 :: a6 :: a7 :: a8 :: a9 :: a10 :: a11 :: a12 :: a13 :: some (.int x) :: t) st) : J p l e R s m args below meth c nL g cells slots Q V L pc (a0 :: a1 :: a2 :: a3 :: a4 :: a5 :: a6 :: a7 :: a8 :: a9 :: a10 :: a11 :: a12 :: a13 :: a14 :: t) (.int x :: st) := j_istore C hd hn hc rfl k
theorem j_ast14 (C : Cx p s args m meth c cc nL own ret g) {a0 a1 a2 a3 a4 a5 a6 a7 a8 a9 a10 a11 a12 a13 a14 : Option Value} {t : List (Option Value)} {x : Nat} (hd : decode cc pc = .ok (.astore 14, 2)) (hn : 14 < nL) (hc : cOk (a0 :: a1 :: a2 :: a3 :: a4 :: a5 :: a6 :: a7 :: a8 :: a9 :: a10 :: a11 :: a12 :: a13 :: a14 :: t) 14 = true) (k : J p l e R s m args below meth c nL g cells slots Q V L (pc + 2) (a0 :: a1 :: a2 :: a3 :: a4 :: a5 :: a6 :: a7 :: a8 :: a9 :: a10 :: a11 :: a12 :: a13 :: some (.ref x) :: t) st) : J p l e R s m args below meth c nL g cells slots Q V L pc (a0 :: a1 :: a2 :: a3 :: a4 :: a5 :: a6 :: a7 :: a8 :: a9 :: a10 :: a11 :: a12 :: a13 :: a14 :: t) (.ref x :: st) := j_astore C hd hn hc rfl k
theorem j_nst14 (C : Cx p s args m meth c cc nL own ret g) {a0 a1 a2 a3 a4 a5 a6 a7 a8 a9 a10 a11 a12 a13 a14 : Option Value} {t : List (Option Value)} (hd : decode cc pc = .ok (.astore 14, 2)) (hn : 14 < nL) (hc : cOk (a0 :: a1 :: a2 :: a3 :: a4 :: a5 :: a6 :: a7 :: a8 :: a9 :: a10 :: a11 :: a12 :: a13 :: a14 :: t) 14 = true) (k : J p l e R s m args below meth c nL g cells slots Q V L (pc + 2) (a0 :: a1 :: a2 :: a3 :: a4 :: a5 :: a6 :: a7 :: a8 :: a9 :: a10 :: a11 :: a12 :: a13 :: some .null :: t) st) : J p l e R s m args below meth c nL g cells slots Q V L pc (a0 :: a1 :: a2 :: a3 :: a4 :: a5 :: a6 :: a7 :: a8 :: a9 :: a10 :: a11 :: a12 :: a13 :: a14 :: t) (.null :: st) := j_astoreN C hd hn hc rfl k
theorem j_inc14 (C : Cx p s args m meth c cc nL own ret g) {a0 a1 a2 a3 a4 a5 a6 a7 a8 a9 a10 a11 a12 a13 : Option Value} {t : List (Option Value)} {n : Int} {x v : Int32} (hd : decode cc pc = .ok (.iinc 14 n, 3)) (hv : x + Int32.ofInt n = v) (hn : 14 < nL) (hc : cOk (a0 :: a1 :: a2 :: a3 :: a4 :: a5 :: a6 :: a7 :: a8 :: a9 :: a10 :: a11 :: a12 :: a13 :: some (.int x) :: t) 14 = true) (k : J p l e R s m args below meth c nL g cells slots Q V L (pc + 3) (a0 :: a1 :: a2 :: a3 :: a4 :: a5 :: a6 :: a7 :: a8 :: a9 :: a10 :: a11 :: a12 :: a13 :: some (.int v) :: t) st) : J p l e R s m args below meth c nL g cells slots Q V L pc (a0 :: a1 :: a2 :: a3 :: a4 :: a5 :: a6 :: a7 :: a8 :: a9 :: a10 :: a11 :: a12 :: a13 :: some (.int x) :: t) st := j_iinc C hd (by simp) hv hn hc rfl k
theorem j_lst14 (C : Cx p s args m meth c cc nL own ret g) {a0 a1 a2 a3 a4 a5 a6 a7 a8 a9 a10 a11 a12 a13 a14 b14 : Option Value} {t : List (Option Value)} {x : Int64} (hd : decode cc pc = .ok (.lstore 14, 2)) (hn : 14 + 1 < nL) (hc : cOk (a0 :: a1 :: a2 :: a3 :: a4 :: a5 :: a6 :: a7 :: a8 :: a9 :: a10 :: a11 :: a12 :: a13 :: a14 :: b14 :: t) 14 = true) (k : J p l e R s m args below meth c nL g cells slots Q V L (pc + 2) (a0 :: a1 :: a2 :: a3 :: a4 :: a5 :: a6 :: a7 :: a8 :: a9 :: a10 :: a11 :: a12 :: a13 :: some (.long x) :: none :: t) st) : J p l e R s m args below meth c nL g cells slots Q V L pc (a0 :: a1 :: a2 :: a3 :: a4 :: a5 :: a6 :: a7 :: a8 :: a9 :: a10 :: a11 :: a12 :: a13 :: a14 :: b14 :: t) (.long x :: st) := j_lstore C hd hn hc rfl k
theorem j_dst14 (C : Cx p s args m meth c cc nL own ret g) {a0 a1 a2 a3 a4 a5 a6 a7 a8 a9 a10 a11 a12 a13 a14 b14 : Option Value} {t : List (Option Value)} {x : UInt64} (hd : decode cc pc = .ok (.dstore 14, 2)) (hn : 14 + 1 < nL) (hc : cOk (a0 :: a1 :: a2 :: a3 :: a4 :: a5 :: a6 :: a7 :: a8 :: a9 :: a10 :: a11 :: a12 :: a13 :: a14 :: b14 :: t) 14 = true) (k : J p l e R s m args below meth c nL g cells slots Q V L (pc + 2) (a0 :: a1 :: a2 :: a3 :: a4 :: a5 :: a6 :: a7 :: a8 :: a9 :: a10 :: a11 :: a12 :: a13 :: some (.double x) :: none :: t) st) : J p l e R s m args below meth c nL g cells slots Q V L pc (a0 :: a1 :: a2 :: a3 :: a4 :: a5 :: a6 :: a7 :: a8 :: a9 :: a10 :: a11 :: a12 :: a13 :: a14 :: b14 :: t) (.double x :: st) := j_dstore C hd hn hc rfl k
/-- what is known of the locals may be forgotten -/
def leL : List (Option Value) → List (Option Value) → Prop
  | [], _ => True
  | none :: t, _ :: u => leL t u
  | none :: t, [] => leL t []
  | some v :: t, a :: u => a = some v ∧ leL t u
  | some _ :: _, [] => False
theorem leL_at : ∀ (l' l : List (Option Value)), leL l' l → ∀ (i : Nat) (v : Value), l'[i]? = some (some v) → l[i]? = some (some v)
  | [], _, _, i, v, h => by simp at h
  | none :: t, a :: u, hl, i, v, h => by cases i with | zero => simp at h | succ i => simpa using leL_at t u hl i v (by simpa using h)
  | none :: t, [], hl, i, v, h => by cases i with | zero => simp at h | succ i => have h2 := leL_at t [] hl i v (by simpa using h); simp at h2
  | some w :: t, a :: u, hl, i, v, h => by cases i with | zero => simp at h; rw [hl.1, h]; rfl | succ i => simpa using leL_at t u hl.2 i v (by simpa using h)
  | some _ :: _, [], hl, _, _, _ => hl.elim
theorem j_dr {lv' : List (Option Value)} (hle : leL lv' lv) (k : J p l e R s m args below meth c nL g cells slots Q V L pc lv' st) : J p l e R s m args below meth c nL g cells slots Q V L pc lv st := j_le (leL_at lv' lv hle) k
theorem j_iaddN (C : Cx p s args m meth c cc nL own ret g) {a b : Nat} (hd : decode cc pc = .ok (.iadd, 1)) (k : J p l e R s m args below meth c nL g cells slots Q V L (pc + 1) lv (.int (nI (a + b)) :: st)) : J p l e R s m args below meth c nL g cells slots Q V L pc lv (.int (nI b) :: .int (nI a) :: st) := j_iadd C hd (by rw [nI_add]; exact k)
theorem j_imulN (C : Cx p s args m meth c cc nL own ret g) {a b : Nat} (hd : decode cc pc = .ok (.imul, 1)) (k : J p l e R s m args below meth c nL g cells slots Q V L (pc + 1) lv (.int (nI (a * b)) :: st)) : J p l e R s m args below meth c nL g cells slots Q V L pc lv (.int (nI b) :: .int (nI a) :: st) := j_imul C hd (by rw [pk_mul]; exact k)
theorem j_incN0 (C : Cx p s args m meth c cc nL own ret g) {t : List (Option Value)} {n : Int} {x q : Nat} (hd : decode cc pc = .ok (.iinc 0 n, 3)) (hv : Int32.ofInt n = nI q) (hn : 0 < nL) (hc : cOk (some (.int (nI x)) :: t) 0 = true) (k : J p l e R s m args below meth c nL g cells slots Q V L (pc + 3) (some (.int (nI (x + q))) :: t) st) : J p l e R s m args below meth c nL g cells slots Q V L pc (some (.int (nI x)) :: t) st := j_inc0 C hd (by rw [hv, nI_add]) hn hc k
theorem j_incN1 (C : Cx p s args m meth c cc nL own ret g) {a0 : Option Value} {t : List (Option Value)} {n : Int} {x q : Nat} (hd : decode cc pc = .ok (.iinc 1 n, 3)) (hv : Int32.ofInt n = nI q) (hn : 1 < nL) (hc : cOk (a0 :: some (.int (nI x)) :: t) 1 = true) (k : J p l e R s m args below meth c nL g cells slots Q V L (pc + 3) (a0 :: some (.int (nI (x + q))) :: t) st) : J p l e R s m args below meth c nL g cells slots Q V L pc (a0 :: some (.int (nI x)) :: t) st := j_inc1 C hd (by rw [hv, nI_add]) hn hc k
theorem j_incN2 (C : Cx p s args m meth c cc nL own ret g) {a0 a1 : Option Value} {t : List (Option Value)} {n : Int} {x q : Nat} (hd : decode cc pc = .ok (.iinc 2 n, 3)) (hv : Int32.ofInt n = nI q) (hn : 2 < nL) (hc : cOk (a0 :: a1 :: some (.int (nI x)) :: t) 2 = true) (k : J p l e R s m args below meth c nL g cells slots Q V L (pc + 3) (a0 :: a1 :: some (.int (nI (x + q))) :: t) st) : J p l e R s m args below meth c nL g cells slots Q V L pc (a0 :: a1 :: some (.int (nI x)) :: t) st := j_inc2 C hd (by rw [hv, nI_add]) hn hc k
theorem j_incN3 (C : Cx p s args m meth c cc nL own ret g) {a0 a1 a2 : Option Value} {t : List (Option Value)} {n : Int} {x q : Nat} (hd : decode cc pc = .ok (.iinc 3 n, 3)) (hv : Int32.ofInt n = nI q) (hn : 3 < nL) (hc : cOk (a0 :: a1 :: a2 :: some (.int (nI x)) :: t) 3 = true) (k : J p l e R s m args below meth c nL g cells slots Q V L (pc + 3) (a0 :: a1 :: a2 :: some (.int (nI (x + q))) :: t) st) : J p l e R s m args below meth c nL g cells slots Q V L pc (a0 :: a1 :: a2 :: some (.int (nI x)) :: t) st := j_inc3 C hd (by rw [hv, nI_add]) hn hc k
theorem j_incN4 (C : Cx p s args m meth c cc nL own ret g) {a0 a1 a2 a3 : Option Value} {t : List (Option Value)} {n : Int} {x q : Nat} (hd : decode cc pc = .ok (.iinc 4 n, 3)) (hv : Int32.ofInt n = nI q) (hn : 4 < nL) (hc : cOk (a0 :: a1 :: a2 :: a3 :: some (.int (nI x)) :: t) 4 = true) (k : J p l e R s m args below meth c nL g cells slots Q V L (pc + 3) (a0 :: a1 :: a2 :: a3 :: some (.int (nI (x + q))) :: t) st) : J p l e R s m args below meth c nL g cells slots Q V L pc (a0 :: a1 :: a2 :: a3 :: some (.int (nI x)) :: t) st := j_inc4 C hd (by rw [hv, nI_add]) hn hc k
theorem j_incN5 (C : Cx p s args m meth c cc nL own ret g) {a0 a1 a2 a3 a4 : Option Value} {t : List (Option Value)} {n : Int} {x q : Nat} (hd : decode cc pc = .ok (.iinc 5 n, 3)) (hv : Int32.ofInt n = nI q) (hn : 5 < nL) (hc : cOk (a0 :: a1 :: a2 :: a3 :: a4 :: some (.int (nI x)) :: t) 5 = true) (k : J p l e R s m args below meth c nL g cells slots Q V L (pc + 3) (a0 :: a1 :: a2 :: a3 :: a4 :: some (.int (nI (x + q))) :: t) st) : J p l e R s m args below meth c nL g cells slots Q V L pc (a0 :: a1 :: a2 :: a3 :: a4 :: some (.int (nI x)) :: t) st := j_inc5 C hd (by rw [hv, nI_add]) hn hc k
theorem j_incN6 (C : Cx p s args m meth c cc nL own ret g) {a0 a1 a2 a3 a4 a5 : Option Value} {t : List (Option Value)} {n : Int} {x q : Nat} (hd : decode cc pc = .ok (.iinc 6 n, 3)) (hv : Int32.ofInt n = nI q) (hn : 6 < nL) (hc : cOk (a0 :: a1 :: a2 :: a3 :: a4 :: a5 :: some (.int (nI x)) :: t) 6 = true) (k : J p l e R s m args below meth c nL g cells slots Q V L (pc + 3) (a0 :: a1 :: a2 :: a3 :: a4 :: a5 :: some (.int (nI (x + q))) :: t) st) : J p l e R s m args below meth c nL g cells slots Q V L pc (a0 :: a1 :: a2 :: a3 :: a4 :: a5 :: some (.int (nI x)) :: t) st := j_inc6 C hd (by rw [hv, nI_add]) hn hc k
theorem j_incN7 (C : Cx p s args m meth c cc nL own ret g) {a0 a1 a2 a3 a4 a5 a6 : Option Value} {t : List (Option Value)} {n : Int} {x q : Nat} (hd : decode cc pc = .ok (.iinc 7 n, 3)) (hv : Int32.ofInt n = nI q) (hn : 7 < nL) (hc : cOk (a0 :: a1 :: a2 :: a3 :: a4 :: a5 :: a6 :: some (.int (nI x)) :: t) 7 = true) (k : J p l e R s m args below meth c nL g cells slots Q V L (pc + 3) (a0 :: a1 :: a2 :: a3 :: a4 :: a5 :: a6 :: some (.int (nI (x + q))) :: t) st) : J p l e R s m args below meth c nL g cells slots Q V L pc (a0 :: a1 :: a2 :: a3 :: a4 :: a5 :: a6 :: some (.int (nI x)) :: t) st := j_inc7 C hd (by rw [hv, nI_add]) hn hc k
theorem j_incN8 (C : Cx p s args m meth c cc nL own ret g) {a0 a1 a2 a3 a4 a5 a6 a7 : Option Value} {t : List (Option Value)} {n : Int} {x q : Nat} (hd : decode cc pc = .ok (.iinc 8 n, 3)) (hv : Int32.ofInt n = nI q) (hn : 8 < nL) (hc : cOk (a0 :: a1 :: a2 :: a3 :: a4 :: a5 :: a6 :: a7 :: some (.int (nI x)) :: t) 8 = true) (k : J p l e R s m args below meth c nL g cells slots Q V L (pc + 3) (a0 :: a1 :: a2 :: a3 :: a4 :: a5 :: a6 :: a7 :: some (.int (nI (x + q))) :: t) st) : J p l e R s m args below meth c nL g cells slots Q V L pc (a0 :: a1 :: a2 :: a3 :: a4 :: a5 :: a6 :: a7 :: some (.int (nI x)) :: t) st := j_inc8 C hd (by rw [hv, nI_add]) hn hc k
theorem j_incN9 (C : Cx p s args m meth c cc nL own ret g) {a0 a1 a2 a3 a4 a5 a6 a7 a8 : Option Value} {t : List (Option Value)} {n : Int} {x q : Nat} (hd : decode cc pc = .ok (.iinc 9 n, 3)) (hv : Int32.ofInt n = nI q) (hn : 9 < nL) (hc : cOk (a0 :: a1 :: a2 :: a3 :: a4 :: a5 :: a6 :: a7 :: a8 :: some (.int (nI x)) :: t) 9 = true) (k : J p l e R s m args below meth c nL g cells slots Q V L (pc + 3) (a0 :: a1 :: a2 :: a3 :: a4 :: a5 :: a6 :: a7 :: a8 :: some (.int (nI (x + q))) :: t) st) : J p l e R s m args below meth c nL g cells slots Q V L pc (a0 :: a1 :: a2 :: a3 :: a4 :: a5 :: a6 :: a7 :: a8 :: some (.int (nI x)) :: t) st := j_inc9 C hd (by rw [hv, nI_add]) hn hc k
theorem j_incN10 (C : Cx p s args m meth c cc nL own ret g) {a0 a1 a2 a3 a4 a5 a6 a7 a8 a9 : Option Value} {t : List (Option Value)} {n : Int} {x q : Nat} (hd : decode cc pc = .ok (.iinc 10 n, 3)) (hv : Int32.ofInt n = nI q) (hn : 10 < nL) (hc : cOk (a0 :: a1 :: a2 :: a3 :: a4 :: a5 :: a6 :: a7 :: a8 :: a9 :: some (.int (nI x)) :: t) 10 = true) (k : J p l e R s m args below meth c nL g cells slots Q V L (pc + 3) (a0 :: a1 :: a2 :: a3 :: a4 :: a5 :: a6 :: a7 :: a8 :: a9 :: some (.int (nI (x + q))) :: t) st) : J p l e R s m args below meth c nL g cells slots Q V L pc (a0 :: a1 :: a2 :: a3 :: a4 :: a5 :: a6 :: a7 :: a8 :: a9 :: some (.int (nI x)) :: t) st := j_inc10 C hd (by rw [hv, nI_add]) hn hc k
theorem j_incN11 (C : Cx p s args m meth c cc nL own ret g) {a0 a1 a2 a3 a4 a5 a6 a7 a8 a9 a10 : Option Value} {t : List (Option Value)} {n : Int} {x q : Nat} (hd : decode cc pc = .ok (.iinc 11 n, 3)) (hv : Int32.ofInt n = nI q) (hn : 11 < nL) (hc : cOk (a0 :: a1 :: a2 :: a3 :: a4 :: a5 :: a6 :: a7 :: a8 :: a9 :: a10 :: some (.int (nI x)) :: t) 11 = true) (k : J p l e R s m args below meth c nL g cells slots Q V L (pc + 3) (a0 :: a1 :: a2 :: a3 :: a4 :: a5 :: a6 :: a7 :: a8 :: a9 :: a10 :: some (.int (nI (x + q))) :: t) st) : J p l e R s m args below meth c nL g cells slots Q V L pc (a0 :: a1 :: a2 :: a3 :: a4 :: a5 :: a6 :: a7 :: a8 :: a9 :: a10 :: some (.int (nI x)) :: t) st := j_inc11 C hd (by rw [hv, nI_add]) hn hc k
theorem j_incN12 (C : Cx p s args m meth c cc nL own ret g) {a0 a1 a2 a3 a4 a5 a6 a7 a8 a9 a10 a11 : Option Value} {t : List (Option Value)} {n : Int} {x q : Nat} (hd : decode cc pc = .ok (.iinc 12 n, 3)) (hv : Int32.ofInt n = nI q) (hn : 12 < nL) (hc : cOk (a0 :: a1 :: a2 :: a3 :: a4 :: a5 :: a6 :: a7 :: a8 :: a9 :: a10 :: a11 :: some (.int (nI x)) :: t) 12 = true) (k : J p l e R s m args below meth c nL g cells slots Q V L (pc + 3) (a0 :: a1 :: a2 :: a3 :: a4 :: a5 :: a6 :: a7 :: a8 :: a9 :: a10 :: a11 :: some (.int (nI (x + q))) :: t) st) : J p l e R s m args below meth c nL g cells slots Q V L pc (a0 :: a1 :: a2 :: a3 :: a4 :: a5 :: a6 :: a7 :: a8 :: a9 :: a10 :: a11 :: some (.int (nI x)) :: t) st := j_inc12 C hd (by rw [hv, nI_add]) hn hc k
theorem j_incN13 (C : Cx p s args m meth c cc nL own ret g) {a0 a1 a2 a3 a4 a5 a6 a7 a8 a9 a10 a11 a12 : Option Value} {t : List (Option Value)} {n : Int} {x q : Nat} (hd : decode cc pc = .ok (.iinc 13 n, 3)) (hv : Int32.ofInt n = nI q) (hn : 13 < nL) (hc : cOk (a0 :: a1 :: a2 :: a3 :: a4 :: a5 :: a6 :: a7 :: a8 :: a9 :: a10 :: a11 :: a12 :: some (.int (nI x)) :: t) 13 = true) (k : J p l e R s m args below meth c nL g cells slots Q V L (pc + 3) (a0 :: a1 :: a2 :: a3 :: a4 :: a5 :: a6 :: a7 :: a8 :: a9 :: a10 :: a11 :: a12 :: some (.int (nI (x + q))) :: t) st) : J p l e R s m args below meth c nL g cells slots Q V L pc (a0 :: a1 :: a2 :: a3 :: a4 :: a5 :: a6 :: a7 :: a8 :: a9 :: a10 :: a11 :: a12 :: some (.int (nI x)) :: t) st := j_inc13 C hd (by rw [hv, nI_add]) hn hc k
theorem j_incN14 (C : Cx p s args m meth c cc nL own ret g) {a0 a1 a2 a3 a4 a5 a6 a7 a8 a9 a10 a11 a12 a13 : Option Value} {t : List (Option Value)} {n : Int} {x q : Nat} (hd : decode cc pc = .ok (.iinc 14 n, 3)) (hv : Int32.ofInt n = nI q) (hn : 14 < nL) (hc : cOk (a0 :: a1 :: a2 :: a3 :: a4 :: a5 :: a6 :: a7 :: a8 :: a9 :: a10 :: a11 :: a12 :: a13 :: some (.int (nI x)) :: t) 14 = true) (k : J p l e R s m args below meth c nL g cells slots Q V L (pc + 3) (a0 :: a1 :: a2 :: a3 :: a4 :: a5 :: a6 :: a7 :: a8 :: a9 :: a10 :: a11 :: a12 :: a13 :: some (.int (nI (x + q))) :: t) st) : J p l e R s m args below meth c nL g cells slots Q V L pc (a0 :: a1 :: a2 :: a3 :: a4 :: a5 :: a6 :: a7 :: a8 :: a9 :: a10 :: a11 :: a12 :: a13 :: some (.int (nI x)) :: t) st := j_inc14 C hd (by rw [hv, nI_add]) hn hc k
theorem j_idivN (C : Cx p s args m meth c cc nL own ret g) {a b : Nat} (hd : decode cc pc = .ok (.idiv, 1)) (ha : a < 2 ^ 31) (h0 : 0 < b) (hb : b < 2 ^ 31) (k : J p l e R s m args below meth c nL g cells slots Q V L (pc + 1) lv (.int (nI (a / b)) :: st)) : J p l e R s m args below meth c nL g cells slots Q V L pc lv (.int (nI b) :: .int (nI a) :: st) := j_idiv C hd (nI_ne0 h0 hb) (by rw [pk_div ha h0 hb]; exact k)
theorem j_isubN (C : Cx p s args m meth c cc nL own ret g) {a b : Nat} (hd : decode cc pc = .ok (.isub, 1)) (h : b ≤ a) (k : J p l e R s m args below meth c nL g cells slots Q V L (pc + 1) lv (.int (nI (a - b)) :: st)) : J p l e R s m args below meth c nL g cells slots Q V L pc lv (.int (nI b) :: .int (nI a) :: st) := j_isub C hd (by rw [pk_sub h]; exact k)
theorem j_tope {x y : Int32} (h : x = y) (k : J p l e R s m args below meth c nL g cells slots Q V L pc lv (.int y :: st)) : J p l e R s m args below meth c nL g cells slots Q V L pc lv (.int x :: st) := by rw [h]; exact k
end CALLS
end
section
/-! SPECS: what each method does, as plain functions over the memory. -/
abbrev money (x : Int32) : Prop := nI 0 ≤ x ∧ x ≤ nI 100000
abbrev termR (x : Int32) : Prop := nI 1 ≤ x ∧ x ≤ nI 60
abbrev rateR (x : Int32) : Prop := nI 0 ≤ x ∧ x ≤ nI 2000
abbrev partR (x : Int32) : Prop := nI 1 ≤ x ∧ x ≤ nI 1000
def wl (p z : Int32) : Nat → Int64
  | 0 => 0
  | n + 1 => ((wl p z n + p.toInt64) * 20000 + (10000 + z.toInt64)) / (2 * (10000 + z.toInt64))
/-- the worth of n payments p by the rate z -/
def wor (p n z : Int32) : Int32 := (wl p z n.toNatClampNeg).toInt32
def prt (v t : Int32) : Int32 := (v.toInt64 * t.toInt64 / 1000).toInt32
theorem rate_div {z : Int32} (h : rateR z) : ¬ (2 * (10000 + z.toInt64) : Int64) = 0 ∧ (nI 10000 + z).toInt64 = 10000 + z.toInt64 ∧ (0 : Int64) < 10000 + z.toInt64 := by
  obtain ⟨j, hj, rfl⟩ := nI_of2 (n := 2000) (by decide) (fun q => absurd h.1 (Int32.not_le.mpr q)) h.2
  have e1 : (nI j).toInt64 = lN j := nI_l (by omega)
  have e2 : (10000 : Int64) + lN j = lN (10000 + j) := lN_add 10000 j
  have e3 : (2 : Int64) * lN (10000 + j) = lN (2 * (10000 + j)) := lN_mul 2 _
  refine ⟨?_, ?_, ?_⟩
  · rw [e1, e2, e3]
    intro q
    have q2 : lN (2 * (10000 + j)) = lN 0 := q
    rw [lN_eq (by omega) (by omega)] at q2
    omega
  · rw [nI_add, nI_l (by omega), e1, e2]
  · rw [e1, e2]
    exact (lN_lt (a := 0) (by omega) (by omega)).mpr (by omega)
theorem clampN (x : Int32) : x.toNatClampNeg < 2 ^ 31 := by
  have h1 : x.toNatClampNeg = x.toInt.toNat := rfl
  have h2 := Int32.toInt_lt x
  omega
theorem clamp_lt {i : Nat} {x : Int32} (hi : i < 2 ^ 31) (h : ¬ x ≤ nI i) : i < x.toNatClampNeg := by
  have h1 : nI i < x := Int32.not_le.mp h
  rw [Int32.lt_iff_toInt_lt, nI_toInt hi] at h1
  have h2 : x.toNatClampNeg = x.toInt.toNat := rfl
  omega
theorem clamp_ge {i : Nat} {x : Int32} (hi : i < 2 ^ 31) (h : x ≤ nI i) : x.toNatClampNeg ≤ i := by
  rw [Int32.le_iff_toInt_le, nI_toInt hi] at h
  have h2 : x.toNatClampNeg = x.toInt.toNat := rfl
  omega
/-- copies of rows -/
def rset (V : Mem) (k : Nat) (f : Nat → Int32) : Mem := fun a => if a = k then f else V a
/-- the first n places of row k from f -/
def rcpy (V : Mem) (k : Nat) (f : Nat → Int32) (n : Nat) : Mem := fun a b => if a = k ∧ b < n then f b else V a b
theorem rcpy_0 {V : Mem} {k : Nat} {f : Nat → Int32} : rcpy V k f 0 = V := by
  funext a b
  simp [rcpy]
theorem rcpy_step {V : Mem} {k n : Nat} {f : Nat → Int32} : mset (rcpy V k f n) k n (f n) = rcpy V k f (n + 1) := by
  funext a b
  simp only [mset, rcpy]
  by_cases h1 : a = k
  · by_cases h2 : b = n
    · subst h1; subst h2; simp
    · rw [if_neg (by omega)]
      by_cases h3 : b < n
      · rw [if_pos ⟨h1, h3⟩, if_pos ⟨h1, by omega⟩]
      · rw [if_neg (by omega), if_neg (by omega)]
  · rw [if_neg (by omega), if_neg (by omega), if_neg (by omega)]
theorem rcpy_ne {V : Mem} {k n j : Nat} {f : Nat → Int32} (h : j ≠ k) : rcpy V k f n j = V j := by
  funext b
  simp [rcpy, h]
theorem i_ge {a b : Nat} (ha : a < 2 ^ 31) (hb : b < 2 ^ 31) (h : nI a ≤ nI b) : a ≤ b := (nI_leI ha hb).mp h
theorem i_lt {a b : Nat} (ha : a < 2 ^ 31) (hb : b < 2 ^ 31) (h : nI a < nI b) : a < b := (nI_ltI ha hb).mp h
theorem rateN {n : Nat} (h : n ≤ 2000) : rateR (nI n) := ⟨nI_le (by omega) (by omega), nI_le h (by omega)⟩
theorem inN {a b c : Nat} (h1 : a ≤ b) (h2 : b ≤ c) (h3 : c < 2 ^ 31) : nI a ≤ nI b ∧ nI b ≤ nI c := ⟨nI_le h1 (by omega), nI_le h2 h3⟩
end
section
/-! LEAVES: small contracts (laid by wip/whole/p10.py) -/
theorem fit_X6_init : yX6_init.cls ≠ "java/lang/invoke/MethodHandle" ∧ yX6_init.cls ≠ "java/lang/invoke/VarHandle" ∧ (parseMethodDescriptor yX6_init.desc).map (fun d => d.parameters.length) = some 0 := ⟨by decide +kernel, by decide +kernel, by decide +kernel⟩
theorem fit_X4_init : yX4_init.cls ≠ "java/lang/invoke/MethodHandle" ∧ yX4_init.cls ≠ "java/lang/invoke/VarHandle" ∧ (parseMethodDescriptor yX4_init.desc).map (fun d => d.parameters.length) = some 0 := ⟨by decide +kernel, by decide +kernel, by decide +kernel⟩
theorem fit_X2_init : yX2_init.cls ≠ "java/lang/invoke/MethodHandle" ∧ yX2_init.cls ≠ "java/lang/invoke/VarHandle" ∧ (parseMethodDescriptor yX2_init.desc).map (fun d => d.parameters.length) = some 0 := ⟨by decide +kernel, by decide +kernel, by decide +kernel⟩
theorem fit_X5_init : yX5_init.cls ≠ "java/lang/invoke/MethodHandle" ∧ yX5_init.cls ≠ "java/lang/invoke/VarHandle" ∧ (parseMethodDescriptor yX5_init.desc).map (fun d => d.parameters.length) = some 0 := ⟨by decide +kernel, by decide +kernel, by decide +kernel⟩
theorem fit_X0_init : yX0_init.cls ≠ "java/lang/invoke/MethodHandle" ∧ yX0_init.cls ≠ "java/lang/invoke/VarHandle" ∧ (parseMethodDescriptor yX0_init.desc).map (fun d => d.parameters.length) = some 0 := ⟨by decide +kernel, by decide +kernel, by decide +kernel⟩
theorem fit_X1_init : yX1_init.cls ≠ "java/lang/invoke/MethodHandle" ∧ yX1_init.cls ≠ "java/lang/invoke/VarHandle" ∧ (parseMethodDescriptor yX1_init.desc).map (fun d => d.parameters.length) = some 0 := ⟨by decide +kernel, by decide +kernel, by decide +kernel⟩
theorem fit_X3_init : yX3_init.cls ≠ "java/lang/invoke/MethodHandle" ∧ yX3_init.cls ≠ "java/lang/invoke/VarHandle" ∧ (parseMethodDescriptor yX3_init.desc).map (fun d => d.parameters.length) = some 0 := ⟨by decide +kernel, by decide +kernel, by decide +kernel⟩
theorem fit_X6_count : yX6_count.cls ≠ "java/lang/invoke/MethodHandle" ∧ yX6_count.cls ≠ "java/lang/invoke/VarHandle" ∧ (parseMethodDescriptor yX6_count.desc).map (fun d => d.parameters.length) = some 1 := ⟨by decide +kernel, by decide +kernel, by decide +kernel⟩
theorem fit_X6_isWithin : yX6_isWithin.cls ≠ "java/lang/invoke/MethodHandle" ∧ yX6_isWithin.cls ≠ "java/lang/invoke/VarHandle" ∧ (parseMethodDescriptor yX6_isWithin.desc).map (fun d => d.parameters.length) = some 3 := ⟨by decide +kernel, by decide +kernel, by decide +kernel⟩
theorem fit_X6_demandArguments : yX6_demandArguments.cls ≠ "java/lang/invoke/MethodHandle" ∧ yX6_demandArguments.cls ≠ "java/lang/invoke/VarHandle" ∧ (parseMethodDescriptor yX6_demandArguments.desc).map (fun d => d.parameters.length) = some 1 := ⟨by decide +kernel, by decide +kernel, by decide +kernel⟩
theorem fit_X4_runningLeases : yX4_runningLeases.cls ≠ "java/lang/invoke/MethodHandle" ∧ yX4_runningLeases.cls ≠ "java/lang/invoke/VarHandle" ∧ (parseMethodDescriptor yX4_runningLeases.desc).map (fun d => d.parameters.length) = some 0 := ⟨by decide +kernel, by decide +kernel, by decide +kernel⟩
theorem fit_X4_leaseAt : yX4_leaseAt.cls ≠ "java/lang/invoke/MethodHandle" ∧ yX4_leaseAt.cls ≠ "java/lang/invoke/VarHandle" ∧ (parseMethodDescriptor yX4_leaseAt.desc).map (fun d => d.parameters.length) = some 1 := ⟨by decide +kernel, by decide +kernel, by decide +kernel⟩
theorem fit_X2_runs : yX2_runs.cls ≠ "java/lang/invoke/MethodHandle" ∧ yX2_runs.cls ≠ "java/lang/invoke/VarHandle" ∧ (parseMethodDescriptor yX2_runs.desc).map (fun d => d.parameters.length) = some 0 := ⟨by decide +kernel, by decide +kernel, by decide +kernel⟩
theorem fit_X4_sumOfLeases : yX4_sumOfLeases.cls ≠ "java/lang/invoke/MethodHandle" ∧ yX4_sumOfLeases.cls ≠ "java/lang/invoke/VarHandle" ∧ (parseMethodDescriptor yX4_sumOfLeases.desc).map (fun d => d.parameters.length) = some 1 := ⟨by decide +kernel, by decide +kernel, by decide +kernel⟩
theorem fit_X4_leaseProperty : yX4_leaseProperty.cls ≠ "java/lang/invoke/MethodHandle" ∧ yX4_leaseProperty.cls ≠ "java/lang/invoke/VarHandle" ∧ (parseMethodDescriptor yX4_leaseProperty.desc).map (fun d => d.parameters.length) = some 2 := ⟨by decide +kernel, by decide +kernel, by decide +kernel⟩
theorem fit_X4_sumOfSubleases : yX4_sumOfSubleases.cls ≠ "java/lang/invoke/MethodHandle" ∧ yX4_sumOfSubleases.cls ≠ "java/lang/invoke/VarHandle" ∧ (parseMethodDescriptor yX4_sumOfSubleases.desc).map (fun d => d.parameters.length) = some 2 := ⟨by decide +kernel, by decide +kernel, by decide +kernel⟩
theorem fit_X4_subleaseAt : yX4_subleaseAt.cls ≠ "java/lang/invoke/MethodHandle" ∧ yX4_subleaseAt.cls ≠ "java/lang/invoke/VarHandle" ∧ (parseMethodDescriptor yX4_subleaseAt.desc).map (fun d => d.parameters.length) = some 1 := ⟨by decide +kernel, by decide +kernel, by decide +kernel⟩
theorem fit_X5_runsUnder : yX5_runsUnder.cls ≠ "java/lang/invoke/MethodHandle" ∧ yX5_runsUnder.cls ≠ "java/lang/invoke/VarHandle" ∧ (parseMethodDescriptor yX5_runsUnder.desc).map (fun d => d.parameters.length) = some 1 := ⟨by decide +kernel, by decide +kernel, by decide +kernel⟩
theorem fit_X5_valueOf : yX5_valueOf.cls ≠ "java/lang/invoke/MethodHandle" ∧ yX5_valueOf.cls ≠ "java/lang/invoke/VarHandle" ∧ (parseMethodDescriptor yX5_valueOf.desc).map (fun d => d.parameters.length) = some 1 := ⟨by decide +kernel, by decide +kernel, by decide +kernel⟩
theorem fit_X4_runningOf : yX4_runningOf.cls ≠ "java/lang/invoke/MethodHandle" ∧ yX4_runningOf.cls ≠ "java/lang/invoke/VarHandle" ∧ (parseMethodDescriptor yX4_runningOf.desc).map (fun d => d.parameters.length) = some 1 := ⟨by decide +kernel, by decide +kernel, by decide +kernel⟩
theorem fit_X4_allProfits : yX4_allProfits.cls ≠ "java/lang/invoke/MethodHandle" ∧ yX4_allProfits.cls ≠ "java/lang/invoke/VarHandle" ∧ (parseMethodDescriptor yX4_allProfits.desc).map (fun d => d.parameters.length) = some 0 := ⟨by decide +kernel, by decide +kernel, by decide +kernel⟩
theorem fit_X2_profitByMovements : yX2_profitByMovements.cls ≠ "java/lang/invoke/MethodHandle" ∧ yX2_profitByMovements.cls ≠ "java/lang/invoke/VarHandle" ∧ (parseMethodDescriptor yX2_profitByMovements.desc).map (fun d => d.parameters.length) = some 0 := ⟨by decide +kernel, by decide +kernel, by decide +kernel⟩
theorem fit_X2_moved : yX2_moved.cls ≠ "java/lang/invoke/MethodHandle" ∧ yX2_moved.cls ≠ "java/lang/invoke/VarHandle" ∧ (parseMethodDescriptor yX2_moved.desc).map (fun d => d.parameters.length) = some 1 := ⟨by decide +kernel, by decide +kernel, by decide +kernel⟩
theorem fit_X4_endingFirst : yX4_endingFirst.cls ≠ "java/lang/invoke/MethodHandle" ∧ yX4_endingFirst.cls ≠ "java/lang/invoke/VarHandle" ∧ (parseMethodDescriptor yX4_endingFirst.desc).map (fun d => d.parameters.length) = some 0 := ⟨by decide +kernel, by decide +kernel, by decide +kernel⟩
theorem fit_L_cell : yL_cell.cls ≠ "java/lang/invoke/MethodHandle" ∧ yL_cell.cls ≠ "java/lang/invoke/VarHandle" ∧ (parseMethodDescriptor yL_cell.desc).map (fun d => d.parameters.length) = some 2 := ⟨by decide +kernel, by decide +kernel, by decide +kernel⟩
theorem fit_L_at : yL_at.cls ≠ "java/lang/invoke/MethodHandle" ∧ yL_at.cls ≠ "java/lang/invoke/VarHandle" ∧ (parseMethodDescriptor yL_at.desc).map (fun d => d.parameters.length) = some 2 := ⟨by decide +kernel, by decide +kernel, by decide +kernel⟩
theorem fit_L_told : yL_told.cls ≠ "java/lang/invoke/MethodHandle" ∧ yL_told.cls ≠ "java/lang/invoke/VarHandle" ∧ (parseMethodDescriptor yL_told.desc).map (fun d => d.parameters.length) = some 5 := ⟨by decide +kernel, by decide +kernel, by decide +kernel⟩
theorem fit_L_off : yL_off.cls ≠ "java/lang/invoke/MethodHandle" ∧ yL_off.cls ≠ "java/lang/invoke/VarHandle" ∧ (parseMethodDescriptor yL_off.desc).map (fun d => d.parameters.length) = some 5 := ⟨by decide +kernel, by decide +kernel, by decide +kernel⟩
theorem fit_X6_lease : yX6_lease.cls ≠ "java/lang/invoke/MethodHandle" ∧ yX6_lease.cls ≠ "java/lang/invoke/VarHandle" ∧ (parseMethodDescriptor yX6_lease.desc).map (fun d => d.parameters.length) = some 2 := ⟨by decide +kernel, by decide +kernel, by decide +kernel⟩
theorem fit_X6_demandLease : yX6_demandLease.cls ≠ "java/lang/invoke/MethodHandle" ∧ yX6_demandLease.cls ≠ "java/lang/invoke/VarHandle" ∧ (parseMethodDescriptor yX6_demandLease.desc).map (fun d => d.parameters.length) = some 1 := ⟨by decide +kernel, by decide +kernel, by decide +kernel⟩
theorem fit_X6_profit : yX6_profit.cls ≠ "java/lang/invoke/MethodHandle" ∧ yX6_profit.cls ≠ "java/lang/invoke/VarHandle" ∧ (parseMethodDescriptor yX6_profit.desc).map (fun d => d.parameters.length) = some 2 := ⟨by decide +kernel, by decide +kernel, by decide +kernel⟩
theorem fit_X2_profitByHoldings : yX2_profitByHoldings.cls ≠ "java/lang/invoke/MethodHandle" ∧ yX2_profitByHoldings.cls ≠ "java/lang/invoke/VarHandle" ∧ (parseMethodDescriptor yX2_profitByHoldings.desc).map (fun d => d.parameters.length) = some 1 := ⟨by decide +kernel, by decide +kernel, by decide +kernel⟩
theorem fit_X6_sublease : yX6_sublease.cls ≠ "java/lang/invoke/MethodHandle" ∧ yX6_sublease.cls ≠ "java/lang/invoke/VarHandle" ∧ (parseMethodDescriptor yX6_sublease.desc).map (fun d => d.parameters.length) = some 2 := ⟨by decide +kernel, by decide +kernel, by decide +kernel⟩
theorem fit_X6_demandIndex : yX6_demandIndex.cls ≠ "java/lang/invoke/MethodHandle" ∧ yX6_demandIndex.cls ≠ "java/lang/invoke/VarHandle" ∧ (parseMethodDescriptor yX6_demandIndex.desc).map (fun d => d.parameters.length) = some 1 := ⟨by decide +kernel, by decide +kernel, by decide +kernel⟩
theorem fit_X4_subleaseProperty : yX4_subleaseProperty.cls ≠ "java/lang/invoke/MethodHandle" ∧ yX4_subleaseProperty.cls ≠ "java/lang/invoke/VarHandle" ∧ (parseMethodDescriptor yX4_subleaseProperty.desc).map (fun d => d.parameters.length) = some 2 := ⟨by decide +kernel, by decide +kernel, by decide +kernel⟩
theorem fit_X6_offShare : yX6_offShare.cls ≠ "java/lang/invoke/MethodHandle" ∧ yX6_offShare.cls ≠ "java/lang/invoke/VarHandle" ∧ (parseMethodDescriptor yX6_offShare.desc).map (fun d => d.parameters.length) = some 0 := ⟨by decide +kernel, by decide +kernel, by decide +kernel⟩
theorem fit_L_act : yL_act.cls ≠ "java/lang/invoke/MethodHandle" ∧ yL_act.cls ≠ "java/lang/invoke/VarHandle" ∧ (parseMethodDescriptor yL_act.desc).map (fun d => d.parameters.length) = some 8 := ⟨by decide +kernel, by decide +kernel, by decide +kernel⟩
theorem fit_L_add : yL_add.cls ≠ "java/lang/invoke/MethodHandle" ∧ yL_add.cls ≠ "java/lang/invoke/VarHandle" ∧ (parseMethodDescriptor yL_add.desc).map (fun d => d.parameters.length) = some 6 := ⟨by decide +kernel, by decide +kernel, by decide +kernel⟩
theorem fit_L_worth : yL_worth.cls ≠ "java/lang/invoke/MethodHandle" ∧ yL_worth.cls ≠ "java/lang/invoke/VarHandle" ∧ (parseMethodDescriptor yL_worth.desc).map (fun d => d.parameters.length) = some 3 := ⟨by decide +kernel, by decide +kernel, by decide +kernel⟩
theorem fit_X6_open : yX6_open.cls ≠ "java/lang/invoke/MethodHandle" ∧ yX6_open.cls ≠ "java/lang/invoke/VarHandle" ∧ (parseMethodDescriptor yX6_open.desc).map (fun d => d.parameters.length) = some 4 := ⟨by decide +kernel, by decide +kernel, by decide +kernel⟩
theorem fit_X6_isMoney : yX6_isMoney.cls ≠ "java/lang/invoke/MethodHandle" ∧ yX6_isMoney.cls ≠ "java/lang/invoke/VarHandle" ∧ (parseMethodDescriptor yX6_isMoney.desc).map (fun d => d.parameters.length) = some 1 := ⟨by decide +kernel, by decide +kernel, by decide +kernel⟩
theorem fit_X6_isPeriods : yX6_isPeriods.cls ≠ "java/lang/invoke/MethodHandle" ∧ yX6_isPeriods.cls ≠ "java/lang/invoke/VarHandle" ∧ (parseMethodDescriptor yX6_isPeriods.desc).map (fun d => d.parameters.length) = some 1 := ⟨by decide +kernel, by decide +kernel, by decide +kernel⟩
theorem fit_X6_isRate : yX6_isRate.cls ≠ "java/lang/invoke/MethodHandle" ∧ yX6_isRate.cls ≠ "java/lang/invoke/VarHandle" ∧ (parseMethodDescriptor yX6_isRate.desc).map (fun d => d.parameters.length) = some 1 := ⟨by decide +kernel, by decide +kernel, by decide +kernel⟩
theorem fit_X6_demandState : yX6_demandState.cls ≠ "java/lang/invoke/MethodHandle" ∧ yX6_demandState.cls ≠ "java/lang/invoke/VarHandle" ∧ (parseMethodDescriptor yX6_demandState.desc).map (fun d => d.parameters.length) = some 1 := ⟨by decide +kernel, by decide +kernel, by decide +kernel⟩
theorem fit_X0_save : yX0_save.cls ≠ "java/lang/invoke/MethodHandle" ∧ yX0_save.cls ≠ "java/lang/invoke/VarHandle" ∧ (parseMethodDescriptor yX0_save.desc).map (fun d => d.parameters.length) = some 1 := ⟨by decide +kernel, by decide +kernel, by decide +kernel⟩
theorem fit_X0_slotAt : yX0_slotAt.cls ≠ "java/lang/invoke/MethodHandle" ∧ yX0_slotAt.cls ≠ "java/lang/invoke/VarHandle" ∧ (parseMethodDescriptor yX0_slotAt.desc).map (fun d => d.parameters.length) = some 1 := ⟨by decide +kernel, by decide +kernel, by decide +kernel⟩
theorem fit_X4_copyFrom : yX4_copyFrom.cls ≠ "java/lang/invoke/MethodHandle" ∧ yX4_copyFrom.cls ≠ "java/lang/invoke/VarHandle" ∧ (parseMethodDescriptor yX4_copyFrom.desc).map (fun d => d.parameters.length) = some 1 := ⟨by decide +kernel, by decide +kernel, by decide +kernel⟩
theorem fit_X2_copyFrom : yX2_copyFrom.cls ≠ "java/lang/invoke/MethodHandle" ∧ yX2_copyFrom.cls ≠ "java/lang/invoke/VarHandle" ∧ (parseMethodDescriptor yX2_copyFrom.desc).map (fun d => d.parameters.length) = some 1 := ⟨by decide +kernel, by decide +kernel, by decide +kernel⟩
theorem fit_X5_copyFrom : yX5_copyFrom.cls ≠ "java/lang/invoke/MethodHandle" ∧ yX5_copyFrom.cls ≠ "java/lang/invoke/VarHandle" ∧ (parseMethodDescriptor yX5_copyFrom.desc).map (fun d => d.parameters.length) = some 1 := ⟨by decide +kernel, by decide +kernel, by decide +kernel⟩
theorem fit_X4_addLease : yX4_addLease.cls ≠ "java/lang/invoke/MethodHandle" ∧ yX4_addLease.cls ≠ "java/lang/invoke/VarHandle" ∧ (parseMethodDescriptor yX4_addLease.desc).map (fun d => d.parameters.length) = some 4 := ⟨by decide +kernel, by decide +kernel, by decide +kernel⟩
theorem fit_X2_begin : yX2_begin.cls ≠ "java/lang/invoke/MethodHandle" ∧ yX2_begin.cls ≠ "java/lang/invoke/VarHandle" ∧ (parseMethodDescriptor yX2_begin.desc).map (fun d => d.parameters.length) = some 4 := ⟨by decide +kernel, by decide +kernel, by decide +kernel⟩
theorem fit_X6_presentWorth : yX6_presentWorth.cls ≠ "java/lang/invoke/MethodHandle" ∧ yX6_presentWorth.cls ≠ "java/lang/invoke/VarHandle" ∧ (parseMethodDescriptor yX6_presentWorth.desc).map (fun d => d.parameters.length) = some 3 := ⟨by decide +kernel, by decide +kernel, by decide +kernel⟩
theorem fit_X2_move : yX2_move.cls ≠ "java/lang/invoke/MethodHandle" ∧ yX2_move.cls ≠ "java/lang/invoke/VarHandle" ∧ (parseMethodDescriptor yX2_move.desc).map (fun d => d.parameters.length) = some 2 := ⟨by decide +kernel, by decide +kernel, by decide +kernel⟩
theorem fit_L_pass : yL_pass.cls ≠ "java/lang/invoke/MethodHandle" ∧ yL_pass.cls ≠ "java/lang/invoke/VarHandle" ∧ (parseMethodDescriptor yL_pass.desc).map (fun d => d.parameters.length) = some 5 := ⟨by decide +kernel, by decide +kernel, by decide +kernel⟩
theorem fit_X6_pass : yX6_pass.cls ≠ "java/lang/invoke/MethodHandle" ∧ yX6_pass.cls ≠ "java/lang/invoke/VarHandle" ∧ (parseMethodDescriptor yX6_pass.desc).map (fun d => d.parameters.length) = some 1 := ⟨by decide +kernel, by decide +kernel, by decide +kernel⟩
theorem fit_X4_passPeriods : yX4_passPeriods.cls ≠ "java/lang/invoke/MethodHandle" ∧ yX4_passPeriods.cls ≠ "java/lang/invoke/VarHandle" ∧ (parseMethodDescriptor yX4_passPeriods.desc).map (fun d => d.parameters.length) = some 1 := ⟨by decide +kernel, by decide +kernel, by decide +kernel⟩
theorem fit_X2_passPeriods : yX2_passPeriods.cls ≠ "java/lang/invoke/MethodHandle" ∧ yX2_passPeriods.cls ≠ "java/lang/invoke/VarHandle" ∧ (parseMethodDescriptor yX2_passPeriods.desc).map (fun d => d.parameters.length) = some 1 := ⟨by decide +kernel, by decide +kernel, by decide +kernel⟩
theorem fit_X2_liabilityBehind : yX2_liabilityBehind.cls ≠ "java/lang/invoke/MethodHandle" ∧ yX2_liabilityBehind.cls ≠ "java/lang/invoke/VarHandle" ∧ (parseMethodDescriptor yX2_liabilityBehind.desc).map (fun d => d.parameters.length) = some 1 := ⟨by decide +kernel, by decide +kernel, by decide +kernel⟩
theorem fit_X2_assetBehind : yX2_assetBehind.cls ≠ "java/lang/invoke/MethodHandle" ∧ yX2_assetBehind.cls ≠ "java/lang/invoke/VarHandle" ∧ (parseMethodDescriptor yX2_assetBehind.desc).map (fun d => d.parameters.length) = some 1 := ⟨by decide +kernel, by decide +kernel, by decide +kernel⟩
theorem fit_X5_passPeriods : yX5_passPeriods.cls ≠ "java/lang/invoke/MethodHandle" ∧ yX5_passPeriods.cls ≠ "java/lang/invoke/VarHandle" ∧ (parseMethodDescriptor yX5_passPeriods.desc).map (fun d => d.parameters.length) = some 2 := ⟨by decide +kernel, by decide +kernel, by decide +kernel⟩
theorem fit_X5_receivableWith : yX5_receivableWith.cls ≠ "java/lang/invoke/MethodHandle" ∧ yX5_receivableWith.cls ≠ "java/lang/invoke/VarHandle" ∧ (parseMethodDescriptor yX5_receivableWith.desc).map (fun d => d.parameters.length) = some 1 := ⟨by decide +kernel, by decide +kernel, by decide +kernel⟩
theorem fit_L_changes : yL_changes.cls ≠ "java/lang/invoke/MethodHandle" ∧ yL_changes.cls ≠ "java/lang/invoke/VarHandle" ∧ (parseMethodDescriptor yL_changes.desc).map (fun d => d.parameters.length) = some 8 := ⟨by decide +kernel, by decide +kernel, by decide +kernel⟩
theorem fit_X6_term : yX6_term.cls ≠ "java/lang/invoke/MethodHandle" ∧ yX6_term.cls ≠ "java/lang/invoke/VarHandle" ∧ (parseMethodDescriptor yX6_term.desc).map (fun d => d.parameters.length) = some 3 := ⟨by decide +kernel, by decide +kernel, by decide +kernel⟩
theorem fit_X2_measure : yX2_measure.cls ≠ "java/lang/invoke/MethodHandle" ∧ yX2_measure.cls ≠ "java/lang/invoke/VarHandle" ∧ (parseMethodDescriptor yX2_measure.desc).map (fun d => d.parameters.length) = some 3 := ⟨by decide +kernel, by decide +kernel, by decide +kernel⟩
theorem fit_X2_assetWithLiability : yX2_assetWithLiability.cls ≠ "java/lang/invoke/MethodHandle" ∧ yX2_assetWithLiability.cls ≠ "java/lang/invoke/VarHandle" ∧ (parseMethodDescriptor yX2_assetWithLiability.desc).map (fun d => d.parameters.length) = some 1 := ⟨by decide +kernel, by decide +kernel, by decide +kernel⟩
theorem fit_X4_cutOff : yX4_cutOff.cls ≠ "java/lang/invoke/MethodHandle" ∧ yX4_cutOff.cls ≠ "java/lang/invoke/VarHandle" ∧ (parseMethodDescriptor yX4_cutOff.desc).map (fun d => d.parameters.length) = some 2 := ⟨by decide +kernel, by decide +kernel, by decide +kernel⟩
theorem fit_X4_lossByCutOff : yX4_lossByCutOff.cls ≠ "java/lang/invoke/MethodHandle" ∧ yX4_lossByCutOff.cls ≠ "java/lang/invoke/VarHandle" ∧ (parseMethodDescriptor yX4_lossByCutOff.desc).map (fun d => d.parameters.length) = some 2 := ⟨by decide +kernel, by decide +kernel, by decide +kernel⟩
theorem fit_X5_lossByCutTo : yX5_lossByCutTo.cls ≠ "java/lang/invoke/MethodHandle" ∧ yX5_lossByCutTo.cls ≠ "java/lang/invoke/VarHandle" ∧ (parseMethodDescriptor yX5_lossByCutTo.desc).map (fun d => d.parameters.length) = some 1 := ⟨by decide +kernel, by decide +kernel, by decide +kernel⟩
theorem fit_L_measure : yL_measure.cls ≠ "java/lang/invoke/MethodHandle" ∧ yL_measure.cls ≠ "java/lang/invoke/VarHandle" ∧ (parseMethodDescriptor yL_measure.desc).map (fun d => d.parameters.length) = some 8 := ⟨by decide +kernel, by decide +kernel, by decide +kernel⟩
theorem fit_X6_rent : yX6_rent.cls ≠ "java/lang/invoke/MethodHandle" ∧ yX6_rent.cls ≠ "java/lang/invoke/VarHandle" ∧ (parseMethodDescriptor yX6_rent.desc).map (fun d => d.parameters.length) = some 2 := ⟨by decide +kernel, by decide +kernel, by decide +kernel⟩
theorem fit_L_part : yL_part.cls ≠ "java/lang/invoke/MethodHandle" ∧ yL_part.cls ≠ "java/lang/invoke/VarHandle" ∧ (parseMethodDescriptor yL_part.desc).map (fun d => d.parameters.length) = some 2 := ⟨by decide +kernel, by decide +kernel, by decide +kernel⟩
theorem fit_X6_endPart : yX6_endPart.cls ≠ "java/lang/invoke/MethodHandle" ∧ yX6_endPart.cls ≠ "java/lang/invoke/VarHandle" ∧ (parseMethodDescriptor yX6_endPart.desc).map (fun d => d.parameters.length) = some 3 := ⟨by decide +kernel, by decide +kernel, by decide +kernel⟩
theorem fit_X6_isThousandths : yX6_isThousandths.cls ≠ "java/lang/invoke/MethodHandle" ∧ yX6_isThousandths.cls ≠ "java/lang/invoke/VarHandle" ∧ (parseMethodDescriptor yX6_isThousandths.desc).map (fun d => d.parameters.length) = some 1 := ⟨by decide +kernel, by decide +kernel, by decide +kernel⟩
theorem fit_X2_endThousandths : yX2_endThousandths.cls ≠ "java/lang/invoke/MethodHandle" ∧ yX2_endThousandths.cls ≠ "java/lang/invoke/VarHandle" ∧ (parseMethodDescriptor yX2_endThousandths.desc).map (fun d => d.parameters.length) = some 2 := ⟨by decide +kernel, by decide +kernel, by decide +kernel⟩
theorem fit_X6_thousandthsOf : yX6_thousandthsOf.cls ≠ "java/lang/invoke/MethodHandle" ∧ yX6_thousandthsOf.cls ≠ "java/lang/invoke/VarHandle" ∧ (parseMethodDescriptor yX6_thousandthsOf.desc).map (fun d => d.parameters.length) = some 2 := ⟨by decide +kernel, by decide +kernel, by decide +kernel⟩
theorem fit_X6_impair : yX6_impair.cls ≠ "java/lang/invoke/MethodHandle" ∧ yX6_impair.cls ≠ "java/lang/invoke/VarHandle" ∧ (parseMethodDescriptor yX6_impair.desc).map (fun d => d.parameters.length) = some 2 := ⟨by decide +kernel, by decide +kernel, by decide +kernel⟩
theorem fit_X2_impairBy : yX2_impairBy.cls ≠ "java/lang/invoke/MethodHandle" ∧ yX2_impairBy.cls ≠ "java/lang/invoke/VarHandle" ∧ (parseMethodDescriptor yX2_impairBy.desc).map (fun d => d.parameters.length) = some 1 := ⟨by decide +kernel, by decide +kernel, by decide +kernel⟩
theorem fit_X6_sublet : yX6_sublet.cls ≠ "java/lang/invoke/MethodHandle" ∧ yX6_sublet.cls ≠ "java/lang/invoke/VarHandle" ∧ (parseMethodDescriptor yX6_sublet.desc).map (fun d => d.parameters.length) = some 4 := ⟨by decide +kernel, by decide +kernel, by decide +kernel⟩
theorem fit_X4_canSublet : yX4_canSublet.cls ≠ "java/lang/invoke/MethodHandle" ∧ yX4_canSublet.cls ≠ "java/lang/invoke/VarHandle" ∧ (parseMethodDescriptor yX4_canSublet.desc).map (fun d => d.parameters.length) = some 3 := ⟨by decide +kernel, by decide +kernel, by decide +kernel⟩
theorem fit_X4_addSublease : yX4_addSublease.cls ≠ "java/lang/invoke/MethodHandle" ∧ yX4_addSublease.cls ≠ "java/lang/invoke/VarHandle" ∧ (parseMethodDescriptor yX4_addSublease.desc).map (fun d => d.parameters.length) = some 5 := ⟨by decide +kernel, by decide +kernel, by decide +kernel⟩
theorem fit_X2_subletThousandths : yX2_subletThousandths.cls ≠ "java/lang/invoke/MethodHandle" ∧ yX2_subletThousandths.cls ≠ "java/lang/invoke/VarHandle" ∧ (parseMethodDescriptor yX2_subletThousandths.desc).map (fun d => d.parameters.length) = some 2 := ⟨by decide +kernel, by decide +kernel, by decide +kernel⟩
set_option maxHeartbeats 4000000 in
theorem c_X6_isWithin {l : Launch} {g : GC} {V : Mem} {L : LMem} {a b c : Int32} : MC l yX6_isWithin cX6_isWithin 3 (some .boolean) 0 g V L [.int a, .int b, .int c] (some (.int (b2i (b ≤ a ∧ a ≤ c)))) V L := by
  refine MC.of [some (.int a), some (.int b), some (.int c)] (by decide +kernel) rfl (Nat.le_of_ble_eq_true rfl) (fun p e s m args below meth c C => ?_)
  refine j_iload_n C dX6_isWithin_0 rfl rfl ?_
  refine j_iload_n C dX6_isWithin_1 rfl rfl ?_
  refine j_icmp_lt (tgt := 14) C dX6_isWithin_2 (by decide) (fun h2 => ?_) (fun h2 => ?_)
  · refine j_iconst (v := (nI 0)) C dX6_isWithin_14 (by decide) ?_
    exact j_zret C dX6_isWithin_15 (by first | rfl | exact nar_b2i) (by first | (refine b2i_t ?_; simp_all; done) | (refine b2i_f ?_; simp_all; done) | (refine b2i_t ?_; simp only [Int32.lt_iff_toInt_lt, Int32.le_iff_toInt_le] at *; omega) | (refine b2i_f ?_; simp only [Int32.lt_iff_toInt_lt, Int32.le_iff_toInt_le] at *; omega)) (by rfl) (by rfl)
  · refine j_iload_n C dX6_isWithin_5 rfl rfl ?_
    refine j_iload_n C dX6_isWithin_6 rfl rfl ?_
    refine j_icmp_gt (tgt := 14) C dX6_isWithin_7 (by decide) (fun h7 => ?_) (fun h7 => ?_)
    · refine j_iconst (v := (nI 0)) C dX6_isWithin_14 (by decide) ?_
      exact j_zret C dX6_isWithin_15 (by first | rfl | exact nar_b2i) (by first | (refine b2i_t ?_; simp_all; done) | (refine b2i_f ?_; simp_all; done) | (refine b2i_t ?_; simp only [Int32.lt_iff_toInt_lt, Int32.le_iff_toInt_le] at *; omega) | (refine b2i_f ?_; simp only [Int32.lt_iff_toInt_lt, Int32.le_iff_toInt_le] at *; omega)) (by rfl) (by rfl)
    · refine j_iconst (v := (nI 1)) C dX6_isWithin_10 (by decide) ?_
      refine j_goto (tgt := 15) C dX6_isWithin_11 (by decide) ?_
      exact j_zret C dX6_isWithin_15 (by first | rfl | exact nar_b2i) (by first | (refine b2i_t ?_; simp_all; done) | (refine b2i_f ?_; simp_all; done) | (refine b2i_t ?_; simp only [Int32.lt_iff_toInt_lt, Int32.le_iff_toInt_le] at *; omega) | (refine b2i_f ?_; simp only [Int32.lt_iff_toInt_lt, Int32.le_iff_toInt_le] at *; omega)) (by rfl) (by rfl)
set_option maxHeartbeats 4000000 in
theorem c_X2_runs {l : Launch} {g : GC} {V : Mem} {L : LMem} {k : Nat} (hk : kd k = 3) : MC l yX2_runs cX2_runs 1 (some .boolean) 0 g V L [.ref (ad g k)] (some (.int (b2i (0 < V k 1)))) V L := by
  refine MC.of [some (.ref (ad g k))] (by decide +kernel) rfl (Nat.le_of_ble_eq_true rfl) (fun p e s m args below meth c C => ?_)
  refine j_aload_n C dX2_runs_0 rfl rfl ?_
  refine jg_Lease_periods C (by first | assumption | exact kd_sums (by assumption) | exact kd_st1 (by assumption) | exact kd_st2 (by assumption) | exact kd_ls (by first | assumption | rfl) (by assumption) | exact kd_sb (by first | assumption | rfl) (by assumption) | exact kd_sv (by assumption) | rfl) qf_X2_19 dX2_runs_1 ?_
  refine j_if_le (tgt := 11) C dX2_runs_4 (by decide) (fun h4 => ?_) (fun h4 => ?_)
  · refine j_iconst (v := (nI 0)) C dX2_runs_11 (by decide) ?_
    exact j_zret C dX2_runs_12 (by first | rfl | exact nar_b2i) (by first | (refine b2i_t ?_; simp_all; done) | (refine b2i_f ?_; simp_all; done) | (refine b2i_t ?_; simp only [Int32.lt_iff_toInt_lt, Int32.le_iff_toInt_le] at *; omega) | (refine b2i_f ?_; simp only [Int32.lt_iff_toInt_lt, Int32.le_iff_toInt_le] at *; omega)) (by rfl) (by rfl)
  · refine j_iconst (v := (nI 1)) C dX2_runs_7 (by decide) ?_
    refine j_goto (tgt := 12) C dX2_runs_8 (by decide) ?_
    exact j_zret C dX2_runs_12 (by first | rfl | exact nar_b2i) (by first | (refine b2i_t ?_; simp_all; done) | (refine b2i_f ?_; simp_all; done) | (refine b2i_t ?_; simp only [Int32.lt_iff_toInt_lt, Int32.le_iff_toInt_le] at *; omega) | (refine b2i_f ?_; simp only [Int32.lt_iff_toInt_lt, Int32.le_iff_toInt_le] at *; omega)) (by rfl) (by rfl)
end
