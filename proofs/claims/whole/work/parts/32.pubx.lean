/-! THE CLASS: where its public methods throw (laid by wip/whole/p32.py) -/
theorem b2i_z {P : Prop} [Decidable P] (h : ¬ P) : b2i P = 0 := by unfold b2i; rw [if_neg h]; rfl
theorem xa1_xIA : ∀ w ∈ (vx_atS RX6 308 xIA nms).filter goodWord, w ∈ lw_tbl := by decide +kernel
theorem xa2_xIA : ∀ w ∈ (vx_atS RX6 308 xIA nms).filter (fun w => !goodWord w), w ∈ xW xIA := by decide +kernel
theorem xa3_xIA : ∀ w ∈ Cond.classLink RX6 304 xIA :: Cond.initialized xIA :: vx_atS RX6 308 xIA nms, vx_ot w = true := by decide +kernel
theorem xa4_xIA : Bundle.fit xIA = true := by decide +kernel
theorem xa5_xIA : (xIA, xIA) ∈ CSs := by simp [CSs]
theorem xa1_xIS : ∀ w ∈ (vx_atS RX6 313 xIS nms).filter goodWord, w ∈ lw_tbl := by decide +kernel
theorem xa2_xIS : ∀ w ∈ (vx_atS RX6 313 xIS nms).filter (fun w => !goodWord w), w ∈ xW xIS := by decide +kernel
theorem xa3_xIS : ∀ w ∈ Cond.classLink RX6 309 xIS :: Cond.initialized xIS :: vx_atS RX6 313 xIS nms, vx_ot w = true := by decide +kernel
theorem xa4_xIS : Bundle.fit xIS = true := by decide +kernel
theorem xa5_xIS : (xIS, xIS) ∈ CSs := by simp [CSs]
theorem xa1_xIO : ∀ w ∈ (vx_atS RX6 299 xIO nms).filter goodWord, w ∈ lw_tbl := by decide +kernel
theorem xa2_xIO : ∀ w ∈ (vx_atS RX6 299 xIO nms).filter (fun w => !goodWord w), w ∈ xW xIO := by decide +kernel
theorem xa3_xIO : ∀ w ∈ Cond.classLink RX6 295 xIO :: Cond.initialized xIO :: vx_atS RX6 299 xIO nms, vx_ot w = true := by decide +kernel
theorem xa4_xIO : Bundle.fit xIO = true := by decide +kernel
theorem xa5_xIO : (xIO, xIO) ∈ CSs := by simp [CSs]
theorem st_306 : (306, "the argument or the buffer does not fit") ∈ STs := by simp [STs]
theorem st_297 : (297, "there is no such lease") ∈ STs := by simp [STs]
theorem st_302 : (302, "there is no such sublease") ∈ STs := by simp [STs]
theorem st_311 : (311, "the register does not allow this now") ∈ STs := by simp [STs]
set_option maxHeartbeats 4000000 in
theorem x_X6_demandArguments {l : Launch} {g : GC} {V : Mem} {L : LMem} (hf : l.stackTraces = false) {x : Int32} (hx : x = 0) : TC l yX6_demandArguments cX6_demandArguments 1 (Option.none : Option Jvm.ClassFile.FieldType) 6 g V L [.int x] xIA V L := by
  refine TC.of [some (.int x)] (by decide +kernel) rfl (Nat.le_of_ble_eq_true rfl) (fun p e s m args below meth c C ht => ?_)
  refine j_iload_n C dX6_demandArguments_0 rfl rfl ?_
  refine j_if_ne (tgt := 15) C dX6_demandArguments_1 (by decide) (fun h1 => (by exact absurd hx h1)) (fun h1 => ?_)
  exact j_throwSW C ht hf ql_X6_304 qn_java_lang_IllegalArgumentException st_306 xa5_xIA xa4_xIA xa1_xIA xa2_xIA xa3_xIA dX6_demandArguments_4 dX6_demandArguments_7 dX6_demandArguments_8 dX6_demandArguments_11 dX6_demandArguments_14 ⟨Nat.le_of_ble_eq_true rfl, Nat.le_of_ble_eq_true rfl, Nat.le_of_ble_eq_true rfl, Nat.le_of_ble_eq_true rfl⟩
set_option maxHeartbeats 4000000 in
theorem x_X6_demandState {l : Launch} {g : GC} {V : Mem} {L : LMem} (hf : l.stackTraces = false) {x : Int32} (hx : x = 0) : TC l yX6_demandState cX6_demandState 1 (Option.none : Option Jvm.ClassFile.FieldType) 6 g V L [.int x] xIS V L := by
  refine TC.of [some (.int x)] (by decide +kernel) rfl (Nat.le_of_ble_eq_true rfl) (fun p e s m args below meth c C ht => ?_)
  refine j_iload_n C dX6_demandState_0 rfl rfl ?_
  refine j_if_ne (tgt := 15) C dX6_demandState_1 (by decide) (fun h1 => (by exact absurd hx h1)) (fun h1 => ?_)
  exact j_throwSW C ht hf ql_X6_309 qn_java_lang_IllegalStateException st_311 xa5_xIS xa4_xIS xa1_xIS xa2_xIS xa3_xIS dX6_demandState_4 dX6_demandState_7 dX6_demandState_8 dX6_demandState_11 dX6_demandState_14 ⟨Nat.le_of_ble_eq_true rfl, Nat.le_of_ble_eq_true rfl, Nat.le_of_ble_eq_true rfl, Nat.le_of_ble_eq_true rfl⟩
set_option maxHeartbeats 4000000 in
theorem x_X6_demandIndex {l : Launch} {g : GC} {V : Mem} {L : LMem} (hf : l.stackTraces = false) {x : Int32} (hx : x = 0) : TC l yX6_demandIndex cX6_demandIndex 1 (Option.none : Option Jvm.ClassFile.FieldType) 6 g V L [.int x] xIO V L := by
  refine TC.of [some (.int x)] (by decide +kernel) rfl (Nat.le_of_ble_eq_true rfl) (fun p e s m args below meth c C ht => ?_)
  refine j_iload_n C dX6_demandIndex_0 rfl rfl ?_
  refine j_if_ne (tgt := 15) C dX6_demandIndex_1 (by decide) (fun h1 => (by exact absurd hx h1)) (fun h1 => ?_)
  exact j_throwSW C ht hf ql_X6_295 qn_java_lang_IndexOutOfBoundsException st_302 xa5_xIO xa4_xIO xa1_xIO xa2_xIO xa3_xIO dX6_demandIndex_4 dX6_demandIndex_7 dX6_demandIndex_8 dX6_demandIndex_11 dX6_demandIndex_14 ⟨Nat.le_of_ble_eq_true rfl, Nat.le_of_ble_eq_true rfl, Nat.le_of_ble_eq_true rfl, Nat.le_of_ble_eq_true rfl⟩
set_option maxHeartbeats 4000000 in
theorem x_X6_demandLease {l : Launch} {g : GC} {V : Mem} {L : LMem} (hf : l.stackTraces = false) {x : Int32} (hx : ¬ (nI 0 ≤ x ∧ x < V 0 2)) : TC l yX6_demandLease cX6_demandLease 3 (some (.object "LeaseBook$Lease")) 7 g V L [.ref (ad g 223), .int x] xIO V L := by
  refine TC.of [some (.ref (ad g 223)), some (.int x), none] (by decide +kernel) rfl (Nat.le_of_ble_eq_true rfl) (fun p e s m args below meth c C ht => ?_)
  refine j_aload_n C dX6_demandLease_0 rfl rfl ?_
  refine jg_LeaseBook_now C (by first | assumption | exact kd_sums (by assumption) | exact kd_st1 (by assumption) | exact kd_st2 (by assumption) | exact kd_ls (by first | assumption | exact kdL (by omega) | exact kdQ (by omega) | rfl) (by assumption) | exact kd_sb (by first | assumption | exact kdL (by omega) | exact kdQ (by omega) | rfl) (by assumption) | exact kd_sv (by assumption) | exact kdL (by omega) | exact kdQ (by omega) | rfl) qf_X6_12 dX6_demandLease_1 ?_
  refine j_iload_n C dX6_demandLease_4 rfl rfl ?_
  refine j_callV1r C (oa_X4 (by first | assumption | exact kd_sums (by assumption) | exact kd_st1 (by assumption) | exact kd_st2 (by assumption) | exact kd_ls (by first | assumption | exact kdL (by omega) | exact kdQ (by omega) | rfl) (by assumption) | exact kd_sb (by first | assumption | exact kdL (by omega) | exact kdQ (by omega) | rfl) (by assumption) | exact kd_sv (by assumption) | exact kdL (by omega) | exact kdQ (by omega) | rfl)) rfl rfl (c_X4_leaseAt_null rfl hx) qm_X6_292 qi_X4_leaseAt qs_X4_leaseAt qn_X4 qc_X4_leaseAt fit_X4_leaseAt ⟨Nat.le_of_ble_eq_true rfl, Nat.le_of_ble_eq_true rfl, Nat.le_of_ble_eq_true rfl, Nat.le_of_ble_eq_true rfl⟩ (Nat.le_of_ble_eq_true rfl) dX6_demandLease_5 ?_
  refine j_nst2 C dX6_demandLease_8 rfl (Nat.le_of_ble_eq_true rfl) rfl ?_
  refine j_aload_nN C dX6_demandLease_9 rfl rfl ?_
  refine j_ifnonnullN C dX6_demandLease_10 ?_
  exact j_throwSW C ht hf ql_X6_295 qn_java_lang_IndexOutOfBoundsException st_297 xa5_xIO xa4_xIO xa1_xIO xa2_xIO xa3_xIO dX6_demandLease_13 dX6_demandLease_16 dX6_demandLease_17 dX6_demandLease_20 dX6_demandLease_23 ⟨Nat.le_of_ble_eq_true rfl, Nat.le_of_ble_eq_true rfl, Nat.le_of_ble_eq_true rfl, Nat.le_of_ble_eq_true rfl⟩
set_option maxHeartbeats 4000000 in
theorem x_X6_open_IA {l : Launch} {g : GC} {V : Mem} {L : LMem} (hf : l.stackTraces = false) {p1 n r c0 : Int32} (hbad : ¬ (money p1 ∧ termR n ∧ rateR r ∧ money c0)) : TC l yX6_open cX6_open 5 (some .int) 8 g V L [.ref (ad g 223), .int p1, .int n, .int r, .int c0] xIA V L := by
  refine TC.of [some (.ref (ad g 223)), some (.int p1), some (.int n), some (.int r), some (.int c0)] (by decide +kernel) rfl (Nat.le_of_ble_eq_true rfl) (fun p e s m args below meth c C ht => ?_)
  refine j_iload_n C dX6_open_0 rfl rfl ?_
  refine j_callS1r C (c_X6_isMoney) qm_X6_37 qt_X6_isMoney qn_X6 qc_X6_isMoney fit_X6_isMoney ⟨Nat.le_of_ble_eq_true rfl, Nat.le_of_ble_eq_true rfl, Nat.le_of_ble_eq_true rfl, Nat.le_of_ble_eq_true rfl⟩ (Nat.le_of_ble_eq_true rfl) dX6_open_1 ?_
  refine j_if_eq (tgt := 33) C dX6_open_4 (by decide) (fun h4 => ?_) (fun h4 => ?_)
  · replace h4 := b2i_0 h4
    refine j_iconst (v := (nI 0)) C dX6_open_33 (by decide) ?_
    exact j_xcallS C (x_X6_demandArguments hf (by first | rfl | exact b2i_z (by assumption))) qm_X6_47 qt_X6_demandArguments qn_X6 qc_X6_demandArguments fit_X6_demandArguments ⟨Nat.le_of_ble_eq_true rfl, Nat.le_of_ble_eq_true rfl, Nat.le_of_ble_eq_true rfl, Nat.le_of_ble_eq_true rfl⟩ (Nat.le_of_ble_eq_true rfl) dX6_open_34 rfl (j_xout C ht)
  · replace h4 := b2i_1 h4
    refine j_iload_n C dX6_open_7 rfl rfl ?_
    refine j_callS1r C (c_X6_isPeriods) qm_X6_41 qt_X6_isPeriods qn_X6 qc_X6_isPeriods fit_X6_isPeriods ⟨Nat.le_of_ble_eq_true rfl, Nat.le_of_ble_eq_true rfl, Nat.le_of_ble_eq_true rfl, Nat.le_of_ble_eq_true rfl⟩ (Nat.le_of_ble_eq_true rfl) dX6_open_8 ?_
    refine j_if_eq (tgt := 33) C dX6_open_11 (by decide) (fun h11 => ?_) (fun h11 => ?_)
    · replace h11 := b2i_0 h11
      refine j_iconst (v := (nI 0)) C dX6_open_33 (by decide) ?_
      exact j_xcallS C (x_X6_demandArguments hf (by first | rfl | exact b2i_z (by assumption))) qm_X6_47 qt_X6_demandArguments qn_X6 qc_X6_demandArguments fit_X6_demandArguments ⟨Nat.le_of_ble_eq_true rfl, Nat.le_of_ble_eq_true rfl, Nat.le_of_ble_eq_true rfl, Nat.le_of_ble_eq_true rfl⟩ (Nat.le_of_ble_eq_true rfl) dX6_open_34 rfl (j_xout C ht)
    · replace h11 := b2i_1 h11
      refine j_iload_n C dX6_open_14 rfl rfl ?_
      refine j_callS1r C (c_X6_isRate) qm_X6_44 qt_X6_isRate qn_X6 qc_X6_isRate fit_X6_isRate ⟨Nat.le_of_ble_eq_true rfl, Nat.le_of_ble_eq_true rfl, Nat.le_of_ble_eq_true rfl, Nat.le_of_ble_eq_true rfl⟩ (Nat.le_of_ble_eq_true rfl) dX6_open_15 ?_
      refine j_if_eq (tgt := 33) C dX6_open_18 (by decide) (fun h18 => ?_) (fun h18 => ?_)
      · replace h18 := b2i_0 h18
        refine j_iconst (v := (nI 0)) C dX6_open_33 (by decide) ?_
        exact j_xcallS C (x_X6_demandArguments hf (by first | rfl | exact b2i_z (by assumption))) qm_X6_47 qt_X6_demandArguments qn_X6 qc_X6_demandArguments fit_X6_demandArguments ⟨Nat.le_of_ble_eq_true rfl, Nat.le_of_ble_eq_true rfl, Nat.le_of_ble_eq_true rfl, Nat.le_of_ble_eq_true rfl⟩ (Nat.le_of_ble_eq_true rfl) dX6_open_34 rfl (j_xout C ht)
      · replace h18 := b2i_1 h18
        refine j_iload C dX6_open_21 rfl ?_
        refine j_callS1r C (c_X6_isMoney) qm_X6_37 qt_X6_isMoney qn_X6 qc_X6_isMoney fit_X6_isMoney ⟨Nat.le_of_ble_eq_true rfl, Nat.le_of_ble_eq_true rfl, Nat.le_of_ble_eq_true rfl, Nat.le_of_ble_eq_true rfl⟩ (Nat.le_of_ble_eq_true rfl) dX6_open_23 ?_
        refine j_if_eq (tgt := 33) C dX6_open_26 (by decide) (fun h26 => ?_) (fun h26 => ?_)
        · replace h26 := b2i_0 h26
          refine j_iconst (v := (nI 0)) C dX6_open_33 (by decide) ?_
          exact j_xcallS C (x_X6_demandArguments hf (by first | rfl | exact b2i_z (by assumption))) qm_X6_47 qt_X6_demandArguments qn_X6 qc_X6_demandArguments fit_X6_demandArguments ⟨Nat.le_of_ble_eq_true rfl, Nat.le_of_ble_eq_true rfl, Nat.le_of_ble_eq_true rfl, Nat.le_of_ble_eq_true rfl⟩ (Nat.le_of_ble_eq_true rfl) dX6_open_34 rfl (j_xout C ht)
        · replace h26 := b2i_1 h26
          exfalso
          first | exact hbad ⟨by assumption, by assumption, by assumption, by assumption⟩ | exact hbad ⟨by assumption, by assumption, by assumption⟩ | exact hbad ⟨by assumption, by assumption⟩ | exact hbad (by assumption) | exact absurd (by assumption) hbad
set_option maxHeartbeats 4000000 in
theorem x_X6_term_IO {l : Launch} {g : GC} {V : Mem} {L : LMem} (hf : l.stackTraces = false) {x : Int32} (hbad : ¬ (nI 0 ≤ x ∧ x < V 0 2)) {n r : Int32}  : TC l yX6_term cX6_term 5 (some .int) 8 g V L [.ref (ad g 223), .int x, .int n, .int r] xIO V L := by
  refine TC.of [some (.ref (ad g 223)), some (.int x), some (.int n), some (.int r), none] (by decide +kernel) rfl (Nat.le_of_ble_eq_true rfl) (fun p e s m args below meth c C ht => ?_)
  refine j_aload_n C dX6_term_0 rfl rfl ?_
  refine j_iload_n C dX6_term_1 rfl rfl ?_
  exact j_xcallV C (oa_X6 (by first | assumption | exact kd_sums (by assumption) | exact kd_st1 (by assumption) | exact kd_st2 (by assumption) | exact kd_ls (by first | assumption | exact kdL (by omega) | exact kdQ (by omega) | rfl) (by assumption) | exact kd_sb (by first | assumption | exact kdL (by omega) | exact kdQ (by omega) | rfl) (by assumption) | exact kd_sv (by assumption) | exact kdL (by omega) | exact kdQ (by omega) | rfl)) rfl rfl (x_X6_demandLease hf hbad) qm_X6_66 qi_X6_demandLease qs_X6_demandLease qn_X6 qc_X6_demandLease fit_X6_demandLease ⟨Nat.le_of_ble_eq_true rfl, Nat.le_of_ble_eq_true rfl, Nat.le_of_ble_eq_true rfl, Nat.le_of_ble_eq_true rfl⟩ (Nat.le_of_ble_eq_true rfl) dX6_term_2 rfl (j_xout C ht)
set_option maxHeartbeats 4000000 in
theorem x_X6_term_IA {l : Launch} {g : GC} {V : Mem} {L : LMem} (hf : l.stackTraces = false) {k nl : Nat} (hI : LC nl V) (hk : k < nl) {n r : Int32} (hbad : ¬ (termR n ∧ rateR r)) : TC l yX6_term cX6_term 5 (some .int) 8 g V L [.ref (ad g 223), .int (nI k), .int n, .int r] xIA V L := by
  refine TC.of [some (.ref (ad g 223)), some (.int (nI k)), some (.int n), some (.int r), none] (by decide +kernel) rfl (Nat.le_of_ble_eq_true rfl) (fun p e s m args below meth c C ht => ?_)
  refine j_aload_n C dX6_term_0 rfl rfl ?_
  refine j_iload_n C dX6_term_1 rfl rfl ?_
  refine j_callV1r C (oa_X6 (by first | assumption | exact kd_sums (by assumption) | exact kd_st1 (by assumption) | exact kd_st2 (by assumption) | exact kd_ls (by first | assumption | exact kdL (by omega) | exact kdQ (by omega) | rfl) (by assumption) | exact kd_sb (by first | assumption | exact kdL (by omega) | exact kdQ (by omega) | rfl) (by assumption) | exact kd_sv (by assumption) | exact kdL (by omega) | exact kdQ (by omega) | rfl)) rfl rfl (c_X6_demandLease hI hk) qm_X6_66 qi_X6_demandLease qs_X6_demandLease qn_X6 qc_X6_demandLease fit_X6_demandLease ⟨Nat.le_of_ble_eq_true rfl, Nat.le_of_ble_eq_true rfl, Nat.le_of_ble_eq_true rfl, Nat.le_of_ble_eq_true rfl⟩ (Nat.le_of_ble_eq_true rfl) dX6_term_2 ?_
  refine j_ast4 C dX6_term_5 (Nat.le_of_ble_eq_true rfl) rfl ?_
  refine j_iload_n C dX6_term_7 rfl rfl ?_
  refine j_callS1r C (c_X6_isPeriods) qm_X6_41 qt_X6_isPeriods qn_X6 qc_X6_isPeriods fit_X6_isPeriods ⟨Nat.le_of_ble_eq_true rfl, Nat.le_of_ble_eq_true rfl, Nat.le_of_ble_eq_true rfl, Nat.le_of_ble_eq_true rfl⟩ (Nat.le_of_ble_eq_true rfl) dX6_term_8 ?_
  refine j_if_eq (tgt := 25) C dX6_term_11 (by decide) (fun h11 => ?_) (fun h11 => ?_)
  · replace h11 := b2i_0 h11
    refine j_iconst (v := (nI 0)) C dX6_term_25 (by decide) ?_
    exact j_xcallS C (x_X6_demandArguments hf (by first | rfl | exact b2i_z (by assumption))) qm_X6_47 qt_X6_demandArguments qn_X6 qc_X6_demandArguments fit_X6_demandArguments ⟨Nat.le_of_ble_eq_true rfl, Nat.le_of_ble_eq_true rfl, Nat.le_of_ble_eq_true rfl, Nat.le_of_ble_eq_true rfl⟩ (Nat.le_of_ble_eq_true rfl) dX6_term_26 rfl (j_xout C ht)
  · replace h11 := b2i_1 h11
    refine j_iload_n C dX6_term_14 rfl rfl ?_
    refine j_callS1r C (c_X6_isRate) qm_X6_44 qt_X6_isRate qn_X6 qc_X6_isRate fit_X6_isRate ⟨Nat.le_of_ble_eq_true rfl, Nat.le_of_ble_eq_true rfl, Nat.le_of_ble_eq_true rfl, Nat.le_of_ble_eq_true rfl⟩ (Nat.le_of_ble_eq_true rfl) dX6_term_15 ?_
    refine j_if_eq (tgt := 25) C dX6_term_18 (by decide) (fun h18 => ?_) (fun h18 => ?_)
    · replace h18 := b2i_0 h18
      refine j_iconst (v := (nI 0)) C dX6_term_25 (by decide) ?_
      exact j_xcallS C (x_X6_demandArguments hf (by first | rfl | exact b2i_z (by assumption))) qm_X6_47 qt_X6_demandArguments qn_X6 qc_X6_demandArguments fit_X6_demandArguments ⟨Nat.le_of_ble_eq_true rfl, Nat.le_of_ble_eq_true rfl, Nat.le_of_ble_eq_true rfl, Nat.le_of_ble_eq_true rfl⟩ (Nat.le_of_ble_eq_true rfl) dX6_term_26 rfl (j_xout C ht)
    · replace h18 := b2i_1 h18
      exfalso
      first | exact hbad ⟨by assumption, by assumption, by assumption, by assumption⟩ | exact hbad ⟨by assumption, by assumption, by assumption⟩ | exact hbad ⟨by assumption, by assumption⟩ | exact hbad (by assumption) | exact absurd (by assumption) hbad
set_option maxHeartbeats 4000000 in
theorem x_X6_rent_IO {l : Launch} {g : GC} {V : Mem} {L : LMem} (hf : l.stackTraces = false) {x : Int32} (hbad : ¬ (nI 0 ≤ x ∧ x < V 0 2)) {p1 : Int32}  : TC l yX6_rent cX6_rent 4 (some .int) 8 g V L [.ref (ad g 223), .int x, .int p1] xIO V L := by
  refine TC.of [some (.ref (ad g 223)), some (.int x), some (.int p1), none] (by decide +kernel) rfl (Nat.le_of_ble_eq_true rfl) (fun p e s m args below meth c C ht => ?_)
  refine j_aload_n C dX6_rent_0 rfl rfl ?_
  refine j_iload_n C dX6_rent_1 rfl rfl ?_
  exact j_xcallV C (oa_X6 (by first | assumption | exact kd_sums (by assumption) | exact kd_st1 (by assumption) | exact kd_st2 (by assumption) | exact kd_ls (by first | assumption | exact kdL (by omega) | exact kdQ (by omega) | rfl) (by assumption) | exact kd_sb (by first | assumption | exact kdL (by omega) | exact kdQ (by omega) | rfl) (by assumption) | exact kd_sv (by assumption) | exact kdL (by omega) | exact kdQ (by omega) | rfl)) rfl rfl (x_X6_demandLease hf hbad) qm_X6_66 qi_X6_demandLease qs_X6_demandLease qn_X6 qc_X6_demandLease fit_X6_demandLease ⟨Nat.le_of_ble_eq_true rfl, Nat.le_of_ble_eq_true rfl, Nat.le_of_ble_eq_true rfl, Nat.le_of_ble_eq_true rfl⟩ (Nat.le_of_ble_eq_true rfl) dX6_rent_2 rfl (j_xout C ht)
set_option maxHeartbeats 4000000 in
theorem x_X6_rent_IA {l : Launch} {g : GC} {V : Mem} {L : LMem} (hf : l.stackTraces = false) {k nl : Nat} (hI : LC nl V) (hk : k < nl) {p1 : Int32} (hbad : ¬ (money p1)) : TC l yX6_rent cX6_rent 4 (some .int) 8 g V L [.ref (ad g 223), .int (nI k), .int p1] xIA V L := by
  refine TC.of [some (.ref (ad g 223)), some (.int (nI k)), some (.int p1), none] (by decide +kernel) rfl (Nat.le_of_ble_eq_true rfl) (fun p e s m args below meth c C ht => ?_)
  refine j_aload_n C dX6_rent_0 rfl rfl ?_
  refine j_iload_n C dX6_rent_1 rfl rfl ?_
  refine j_callV1r C (oa_X6 (by first | assumption | exact kd_sums (by assumption) | exact kd_st1 (by assumption) | exact kd_st2 (by assumption) | exact kd_ls (by first | assumption | exact kdL (by omega) | exact kdQ (by omega) | rfl) (by assumption) | exact kd_sb (by first | assumption | exact kdL (by omega) | exact kdQ (by omega) | rfl) (by assumption) | exact kd_sv (by assumption) | exact kdL (by omega) | exact kdQ (by omega) | rfl)) rfl rfl (c_X6_demandLease hI hk) qm_X6_66 qi_X6_demandLease qs_X6_demandLease qn_X6 qc_X6_demandLease fit_X6_demandLease ⟨Nat.le_of_ble_eq_true rfl, Nat.le_of_ble_eq_true rfl, Nat.le_of_ble_eq_true rfl, Nat.le_of_ble_eq_true rfl⟩ (Nat.le_of_ble_eq_true rfl) dX6_rent_2 ?_
  refine j_ast3 C dX6_rent_5 rfl (Nat.le_of_ble_eq_true rfl) rfl ?_
  refine j_iload_n C dX6_rent_6 rfl rfl ?_
  refine j_callS1r C (c_X6_isMoney) qm_X6_37 qt_X6_isMoney qn_X6 qc_X6_isMoney fit_X6_isMoney ⟨Nat.le_of_ble_eq_true rfl, Nat.le_of_ble_eq_true rfl, Nat.le_of_ble_eq_true rfl, Nat.le_of_ble_eq_true rfl⟩ (Nat.le_of_ble_eq_true rfl) dX6_rent_7 ?_
  exact j_xcallS C (x_X6_demandArguments hf (by first | rfl | exact b2i_z (by assumption))) qm_X6_47 qt_X6_demandArguments qn_X6 qc_X6_demandArguments fit_X6_demandArguments ⟨Nat.le_of_ble_eq_true rfl, Nat.le_of_ble_eq_true rfl, Nat.le_of_ble_eq_true rfl, Nat.le_of_ble_eq_true rfl⟩ (Nat.le_of_ble_eq_true rfl) dX6_rent_10 rfl (j_xout C ht)
set_option maxHeartbeats 4000000 in
theorem x_X6_endPart_IO {l : Launch} {g : GC} {V : Mem} {L : LMem} (hf : l.stackTraces = false) {x : Int32} (hbad : ¬ (nI 0 ≤ x ∧ x < V 0 2)) {t fee : Int32}  : TC l yX6_endPart cX6_endPart 5 (some .int) 8 g V L [.ref (ad g 223), .int x, .int t, .int fee] xIO V L := by
  refine TC.of [some (.ref (ad g 223)), some (.int x), some (.int t), some (.int fee), none] (by decide +kernel) rfl (Nat.le_of_ble_eq_true rfl) (fun p e s m args below meth c C ht => ?_)
  refine j_aload_n C dX6_endPart_0 rfl rfl ?_
  refine j_iload_n C dX6_endPart_1 rfl rfl ?_
  exact j_xcallV C (oa_X6 (by first | assumption | exact kd_sums (by assumption) | exact kd_st1 (by assumption) | exact kd_st2 (by assumption) | exact kd_ls (by first | assumption | exact kdL (by omega) | exact kdQ (by omega) | rfl) (by assumption) | exact kd_sb (by first | assumption | exact kdL (by omega) | exact kdQ (by omega) | rfl) (by assumption) | exact kd_sv (by assumption) | exact kdL (by omega) | exact kdQ (by omega) | rfl)) rfl rfl (x_X6_demandLease hf hbad) qm_X6_66 qi_X6_demandLease qs_X6_demandLease qn_X6 qc_X6_demandLease fit_X6_demandLease ⟨Nat.le_of_ble_eq_true rfl, Nat.le_of_ble_eq_true rfl, Nat.le_of_ble_eq_true rfl, Nat.le_of_ble_eq_true rfl⟩ (Nat.le_of_ble_eq_true rfl) dX6_endPart_2 rfl (j_xout C ht)
set_option maxHeartbeats 4000000 in
theorem x_X6_endPart_IA {l : Launch} {g : GC} {V : Mem} {L : LMem} (hf : l.stackTraces = false) {k nl : Nat} (hI : LC nl V) (hk : k < nl) {t fee : Int32} (hbad : ¬ (partR t ∧ money fee)) : TC l yX6_endPart cX6_endPart 5 (some .int) 8 g V L [.ref (ad g 223), .int (nI k), .int t, .int fee] xIA V L := by
  refine TC.of [some (.ref (ad g 223)), some (.int (nI k)), some (.int t), some (.int fee), none] (by decide +kernel) rfl (Nat.le_of_ble_eq_true rfl) (fun p e s m args below meth c C ht => ?_)
  refine j_aload_n C dX6_endPart_0 rfl rfl ?_
  refine j_iload_n C dX6_endPart_1 rfl rfl ?_
  refine j_callV1r C (oa_X6 (by first | assumption | exact kd_sums (by assumption) | exact kd_st1 (by assumption) | exact kd_st2 (by assumption) | exact kd_ls (by first | assumption | exact kdL (by omega) | exact kdQ (by omega) | rfl) (by assumption) | exact kd_sb (by first | assumption | exact kdL (by omega) | exact kdQ (by omega) | rfl) (by assumption) | exact kd_sv (by assumption) | exact kdL (by omega) | exact kdQ (by omega) | rfl)) rfl rfl (c_X6_demandLease hI hk) qm_X6_66 qi_X6_demandLease qs_X6_demandLease qn_X6 qc_X6_demandLease fit_X6_demandLease ⟨Nat.le_of_ble_eq_true rfl, Nat.le_of_ble_eq_true rfl, Nat.le_of_ble_eq_true rfl, Nat.le_of_ble_eq_true rfl⟩ (Nat.le_of_ble_eq_true rfl) dX6_endPart_2 ?_
  refine j_ast4 C dX6_endPart_5 (Nat.le_of_ble_eq_true rfl) rfl ?_
  refine j_iload_n C dX6_endPart_7 rfl rfl ?_
  refine j_callS1r C (c_X6_isThousandths) qm_X6_96 qt_X6_isThousandths qn_X6 qc_X6_isThousandths fit_X6_isThousandths ⟨Nat.le_of_ble_eq_true rfl, Nat.le_of_ble_eq_true rfl, Nat.le_of_ble_eq_true rfl, Nat.le_of_ble_eq_true rfl⟩ (Nat.le_of_ble_eq_true rfl) dX6_endPart_8 ?_
  refine j_if_eq (tgt := 25) C dX6_endPart_11 (by decide) (fun h11 => ?_) (fun h11 => ?_)
  · replace h11 := b2i_0 h11
    refine j_iconst (v := (nI 0)) C dX6_endPart_25 (by decide) ?_
    exact j_xcallS C (x_X6_demandArguments hf (by first | rfl | exact b2i_z (by assumption))) qm_X6_47 qt_X6_demandArguments qn_X6 qc_X6_demandArguments fit_X6_demandArguments ⟨Nat.le_of_ble_eq_true rfl, Nat.le_of_ble_eq_true rfl, Nat.le_of_ble_eq_true rfl, Nat.le_of_ble_eq_true rfl⟩ (Nat.le_of_ble_eq_true rfl) dX6_endPart_26 rfl (j_xout C ht)
  · replace h11 := b2i_1 h11
    refine j_iload_n C dX6_endPart_14 rfl rfl ?_
    refine j_callS1r C (c_X6_isMoney) qm_X6_37 qt_X6_isMoney qn_X6 qc_X6_isMoney fit_X6_isMoney ⟨Nat.le_of_ble_eq_true rfl, Nat.le_of_ble_eq_true rfl, Nat.le_of_ble_eq_true rfl, Nat.le_of_ble_eq_true rfl⟩ (Nat.le_of_ble_eq_true rfl) dX6_endPart_15 ?_
    refine j_if_eq (tgt := 25) C dX6_endPart_18 (by decide) (fun h18 => ?_) (fun h18 => ?_)
    · replace h18 := b2i_0 h18
      refine j_iconst (v := (nI 0)) C dX6_endPart_25 (by decide) ?_
      exact j_xcallS C (x_X6_demandArguments hf (by first | rfl | exact b2i_z (by assumption))) qm_X6_47 qt_X6_demandArguments qn_X6 qc_X6_demandArguments fit_X6_demandArguments ⟨Nat.le_of_ble_eq_true rfl, Nat.le_of_ble_eq_true rfl, Nat.le_of_ble_eq_true rfl, Nat.le_of_ble_eq_true rfl⟩ (Nat.le_of_ble_eq_true rfl) dX6_endPart_26 rfl (j_xout C ht)
    · replace h18 := b2i_1 h18
      exfalso
      first | exact hbad ⟨by assumption, by assumption, by assumption, by assumption⟩ | exact hbad ⟨by assumption, by assumption, by assumption⟩ | exact hbad ⟨by assumption, by assumption⟩ | exact hbad (by assumption) | exact absurd (by assumption) hbad
set_option maxHeartbeats 4000000 in
theorem x_X6_impair_IO {l : Launch} {g : GC} {V : Mem} {L : LMem} (hf : l.stackTraces = false) {x : Int32} (hbad : ¬ (nI 0 ≤ x ∧ x < V 0 2)) {a1 : Int32}  : TC l yX6_impair cX6_impair 4 (some .int) 8 g V L [.ref (ad g 223), .int x, .int a1] xIO V L := by
  refine TC.of [some (.ref (ad g 223)), some (.int x), some (.int a1), none] (by decide +kernel) rfl (Nat.le_of_ble_eq_true rfl) (fun p e s m args below meth c C ht => ?_)
  refine j_aload_n C dX6_impair_0 rfl rfl ?_
  refine j_iload_n C dX6_impair_1 rfl rfl ?_
  exact j_xcallV C (oa_X6 (by first | assumption | exact kd_sums (by assumption) | exact kd_st1 (by assumption) | exact kd_st2 (by assumption) | exact kd_ls (by first | assumption | exact kdL (by omega) | exact kdQ (by omega) | rfl) (by assumption) | exact kd_sb (by first | assumption | exact kdL (by omega) | exact kdQ (by omega) | rfl) (by assumption) | exact kd_sv (by assumption) | exact kdL (by omega) | exact kdQ (by omega) | rfl)) rfl rfl (x_X6_demandLease hf hbad) qm_X6_66 qi_X6_demandLease qs_X6_demandLease qn_X6 qc_X6_demandLease fit_X6_demandLease ⟨Nat.le_of_ble_eq_true rfl, Nat.le_of_ble_eq_true rfl, Nat.le_of_ble_eq_true rfl, Nat.le_of_ble_eq_true rfl⟩ (Nat.le_of_ble_eq_true rfl) dX6_impair_2 rfl (j_xout C ht)
set_option maxHeartbeats 4000000 in
theorem x_X6_impair_IA {l : Launch} {g : GC} {V : Mem} {L : LMem} (hf : l.stackTraces = false) {k nl : Nat} (hI : LC nl V) (hk : k < nl) {a1 : Int32} (hbad : ¬ (nI 1 ≤ a1 ∧ a1 ≤ nI 1000000)) : TC l yX6_impair cX6_impair 4 (some .int) 8 g V L [.ref (ad g 223), .int (nI k), .int a1] xIA V L := by
  refine TC.of [some (.ref (ad g 223)), some (.int (nI k)), some (.int a1), none] (by decide +kernel) rfl (Nat.le_of_ble_eq_true rfl) (fun p e s m args below meth c C ht => ?_)
  refine j_aload_n C dX6_impair_0 rfl rfl ?_
  refine j_iload_n C dX6_impair_1 rfl rfl ?_
  refine j_callV1r C (oa_X6 (by first | assumption | exact kd_sums (by assumption) | exact kd_st1 (by assumption) | exact kd_st2 (by assumption) | exact kd_ls (by first | assumption | exact kdL (by omega) | exact kdQ (by omega) | rfl) (by assumption) | exact kd_sb (by first | assumption | exact kdL (by omega) | exact kdQ (by omega) | rfl) (by assumption) | exact kd_sv (by assumption) | exact kdL (by omega) | exact kdQ (by omega) | rfl)) rfl rfl (c_X6_demandLease hI hk) qm_X6_66 qi_X6_demandLease qs_X6_demandLease qn_X6 qc_X6_demandLease fit_X6_demandLease ⟨Nat.le_of_ble_eq_true rfl, Nat.le_of_ble_eq_true rfl, Nat.le_of_ble_eq_true rfl, Nat.le_of_ble_eq_true rfl⟩ (Nat.le_of_ble_eq_true rfl) dX6_impair_2 ?_
  refine j_ast3 C dX6_impair_5 rfl (Nat.le_of_ble_eq_true rfl) rfl ?_
  refine j_iload_n C dX6_impair_6 rfl rfl ?_
  refine j_iconst (v := (nI 1)) C dX6_impair_7 (by decide) ?_
  refine j_ldc (v := nI 1000000) C qk_X6_107 dX6_impair_8 ?_
  refine j_callS3r C (c_X6_isWithin) qm_X6_108 qt_X6_isWithin qn_X6 qc_X6_isWithin fit_X6_isWithin ⟨Nat.le_of_ble_eq_true rfl, Nat.le_of_ble_eq_true rfl, Nat.le_of_ble_eq_true rfl, Nat.le_of_ble_eq_true rfl⟩ (Nat.le_of_ble_eq_true rfl) dX6_impair_10 ?_
  exact j_xcallS C (x_X6_demandArguments hf (by first | rfl | exact b2i_z (by assumption))) qm_X6_47 qt_X6_demandArguments qn_X6 qc_X6_demandArguments fit_X6_demandArguments ⟨Nat.le_of_ble_eq_true rfl, Nat.le_of_ble_eq_true rfl, Nat.le_of_ble_eq_true rfl, Nat.le_of_ble_eq_true rfl⟩ (Nat.le_of_ble_eq_true rfl) dX6_impair_13 rfl (j_xout C ht)
set_option maxHeartbeats 4000000 in
theorem x_X6_sublet_IO {l : Launch} {g : GC} {V : Mem} {L : LMem} (hf : l.stackTraces = false) {x : Int32} (hbad : ¬ (nI 0 ≤ x ∧ x < V 0 2)) {t rc n : Int32}  : TC l yX6_sublet cX6_sublet 6 (some .int) 8 g V L [.ref (ad g 223), .int x, .int t, .int rc, .int n] xIO V L := by
  refine TC.of [some (.ref (ad g 223)), some (.int x), some (.int t), some (.int rc), some (.int n), none] (by decide +kernel) rfl (Nat.le_of_ble_eq_true rfl) (fun p e s m args below meth c C ht => ?_)
  refine j_aload_n C dX6_sublet_0 rfl rfl ?_
  refine j_iload_n C dX6_sublet_1 rfl rfl ?_
  exact j_xcallV C (oa_X6 (by first | assumption | exact kd_sums (by assumption) | exact kd_st1 (by assumption) | exact kd_st2 (by assumption) | exact kd_ls (by first | assumption | exact kdL (by omega) | exact kdQ (by omega) | rfl) (by assumption) | exact kd_sb (by first | assumption | exact kdL (by omega) | exact kdQ (by omega) | rfl) (by assumption) | exact kd_sv (by assumption) | exact kdL (by omega) | exact kdQ (by omega) | rfl)) rfl rfl (x_X6_demandLease hf hbad) qm_X6_66 qi_X6_demandLease qs_X6_demandLease qn_X6 qc_X6_demandLease fit_X6_demandLease ⟨Nat.le_of_ble_eq_true rfl, Nat.le_of_ble_eq_true rfl, Nat.le_of_ble_eq_true rfl, Nat.le_of_ble_eq_true rfl⟩ (Nat.le_of_ble_eq_true rfl) dX6_sublet_2 rfl (j_xout C ht)
set_option maxHeartbeats 4000000 in
theorem x_X6_sublet_IA {l : Launch} {g : GC} {V : Mem} {L : LMem} (hf : l.stackTraces = false) {k nl : Nat} (hI : LC nl V) (hk : k < nl) {t rc n : Int32} (hbad : ¬ (partR t ∧ money rc ∧ termR n)) : TC l yX6_sublet cX6_sublet 6 (some .int) 8 g V L [.ref (ad g 223), .int (nI k), .int t, .int rc, .int n] xIA V L := by
  refine TC.of [some (.ref (ad g 223)), some (.int (nI k)), some (.int t), some (.int rc), some (.int n), none] (by decide +kernel) rfl (Nat.le_of_ble_eq_true rfl) (fun p e s m args below meth c C ht => ?_)
  refine j_aload_n C dX6_sublet_0 rfl rfl ?_
  refine j_iload_n C dX6_sublet_1 rfl rfl ?_
  refine j_callV1r C (oa_X6 (by first | assumption | exact kd_sums (by assumption) | exact kd_st1 (by assumption) | exact kd_st2 (by assumption) | exact kd_ls (by first | assumption | exact kdL (by omega) | exact kdQ (by omega) | rfl) (by assumption) | exact kd_sb (by first | assumption | exact kdL (by omega) | exact kdQ (by omega) | rfl) (by assumption) | exact kd_sv (by assumption) | exact kdL (by omega) | exact kdQ (by omega) | rfl)) rfl rfl (c_X6_demandLease hI hk) qm_X6_66 qi_X6_demandLease qs_X6_demandLease qn_X6 qc_X6_demandLease fit_X6_demandLease ⟨Nat.le_of_ble_eq_true rfl, Nat.le_of_ble_eq_true rfl, Nat.le_of_ble_eq_true rfl, Nat.le_of_ble_eq_true rfl⟩ (Nat.le_of_ble_eq_true rfl) dX6_sublet_2 ?_
  refine j_ast5 C dX6_sublet_5 (Nat.le_of_ble_eq_true rfl) rfl ?_
  refine j_iload_n C dX6_sublet_7 rfl rfl ?_
  refine j_callS1r C (c_X6_isThousandths) qm_X6_96 qt_X6_isThousandths qn_X6 qc_X6_isThousandths fit_X6_isThousandths ⟨Nat.le_of_ble_eq_true rfl, Nat.le_of_ble_eq_true rfl, Nat.le_of_ble_eq_true rfl, Nat.le_of_ble_eq_true rfl⟩ (Nat.le_of_ble_eq_true rfl) dX6_sublet_8 ?_
  refine j_if_eq (tgt := 33) C dX6_sublet_11 (by decide) (fun h11 => ?_) (fun h11 => ?_)
  · replace h11 := b2i_0 h11
    refine j_iconst (v := (nI 0)) C dX6_sublet_33 (by decide) ?_
    exact j_xcallS C (x_X6_demandArguments hf (by first | rfl | exact b2i_z (by assumption))) qm_X6_47 qt_X6_demandArguments qn_X6 qc_X6_demandArguments fit_X6_demandArguments ⟨Nat.le_of_ble_eq_true rfl, Nat.le_of_ble_eq_true rfl, Nat.le_of_ble_eq_true rfl, Nat.le_of_ble_eq_true rfl⟩ (Nat.le_of_ble_eq_true rfl) dX6_sublet_34 rfl (j_xout C ht)
  · replace h11 := b2i_1 h11
    refine j_iload_n C dX6_sublet_14 rfl rfl ?_
    refine j_callS1r C (c_X6_isMoney) qm_X6_37 qt_X6_isMoney qn_X6 qc_X6_isMoney fit_X6_isMoney ⟨Nat.le_of_ble_eq_true rfl, Nat.le_of_ble_eq_true rfl, Nat.le_of_ble_eq_true rfl, Nat.le_of_ble_eq_true rfl⟩ (Nat.le_of_ble_eq_true rfl) dX6_sublet_15 ?_
    refine j_if_eq (tgt := 33) C dX6_sublet_18 (by decide) (fun h18 => ?_) (fun h18 => ?_)
    · replace h18 := b2i_0 h18
      refine j_iconst (v := (nI 0)) C dX6_sublet_33 (by decide) ?_
      exact j_xcallS C (x_X6_demandArguments hf (by first | rfl | exact b2i_z (by assumption))) qm_X6_47 qt_X6_demandArguments qn_X6 qc_X6_demandArguments fit_X6_demandArguments ⟨Nat.le_of_ble_eq_true rfl, Nat.le_of_ble_eq_true rfl, Nat.le_of_ble_eq_true rfl, Nat.le_of_ble_eq_true rfl⟩ (Nat.le_of_ble_eq_true rfl) dX6_sublet_34 rfl (j_xout C ht)
    · replace h18 := b2i_1 h18
      refine j_iload C dX6_sublet_21 rfl ?_
      refine j_callS1r C (c_X6_isPeriods) qm_X6_41 qt_X6_isPeriods qn_X6 qc_X6_isPeriods fit_X6_isPeriods ⟨Nat.le_of_ble_eq_true rfl, Nat.le_of_ble_eq_true rfl, Nat.le_of_ble_eq_true rfl, Nat.le_of_ble_eq_true rfl⟩ (Nat.le_of_ble_eq_true rfl) dX6_sublet_23 ?_
      refine j_if_eq (tgt := 33) C dX6_sublet_26 (by decide) (fun h26 => ?_) (fun h26 => ?_)
      · replace h26 := b2i_0 h26
        refine j_iconst (v := (nI 0)) C dX6_sublet_33 (by decide) ?_
        exact j_xcallS C (x_X6_demandArguments hf (by first | rfl | exact b2i_z (by assumption))) qm_X6_47 qt_X6_demandArguments qn_X6 qc_X6_demandArguments fit_X6_demandArguments ⟨Nat.le_of_ble_eq_true rfl, Nat.le_of_ble_eq_true rfl, Nat.le_of_ble_eq_true rfl, Nat.le_of_ble_eq_true rfl⟩ (Nat.le_of_ble_eq_true rfl) dX6_sublet_34 rfl (j_xout C ht)
      · replace h26 := b2i_1 h26
        exfalso
        first | exact hbad ⟨by assumption, by assumption, by assumption, by assumption⟩ | exact hbad ⟨by assumption, by assumption, by assumption⟩ | exact hbad ⟨by assumption, by assumption⟩ | exact hbad (by assumption) | exact absurd (by assumption) hbad
set_option maxHeartbeats 4000000 in
theorem x_X6_pass_IA {l : Launch} {g : GC} {V : Mem} {L : LMem} (hf : l.stackTraces = false) {n : Int32} (hbad : ¬ (termR n)) : TC l yX6_pass cX6_pass 2 (some .int) 8 g V L [.ref (ad g 223), .int n] xIA V L := by
  refine TC.of [some (.ref (ad g 223)), some (.int n)] (by decide +kernel) rfl (Nat.le_of_ble_eq_true rfl) (fun p e s m args below meth c C ht => ?_)
  refine j_iload_n C dX6_pass_0 rfl rfl ?_
  refine j_callS1r C (c_X6_isPeriods) qm_X6_41 qt_X6_isPeriods qn_X6 qc_X6_isPeriods fit_X6_isPeriods ⟨Nat.le_of_ble_eq_true rfl, Nat.le_of_ble_eq_true rfl, Nat.le_of_ble_eq_true rfl, Nat.le_of_ble_eq_true rfl⟩ (Nat.le_of_ble_eq_true rfl) dX6_pass_1 ?_
  exact j_xcallS C (x_X6_demandArguments hf (by first | rfl | exact b2i_z (by assumption))) qm_X6_47 qt_X6_demandArguments qn_X6 qc_X6_demandArguments fit_X6_demandArguments ⟨Nat.le_of_ble_eq_true rfl, Nat.le_of_ble_eq_true rfl, Nat.le_of_ble_eq_true rfl, Nat.le_of_ble_eq_true rfl⟩ (Nat.le_of_ble_eq_true rfl) dX6_pass_4 rfl (j_xout C ht)
set_option maxHeartbeats 4000000 in
theorem x_X6_append_IA {l : Launch} {g : GC} {V : Mem} {L : LMem} (hf : l.stackTraces = false) {x : Int32} (hbad : ¬ (nI 33 ≤ x ∧ x ≤ nI 126)) : TC l yX6_append cX6_append 2 (some .int) 8 g V L [.ref (ad g 223), .int x] xIA V L := by
  refine TC.of [some (.ref (ad g 223)), some (.int x)] (by decide +kernel) rfl (Nat.le_of_ble_eq_true rfl) (fun p e s m args below meth c C ht => ?_)
  refine j_iload_n C dX6_append_0 rfl rfl ?_
  refine j_bipush (v := (nI 33)) C dX6_append_1 (by decide) ?_
  refine j_bipush (v := (nI 126)) C dX6_append_3 (by decide) ?_
  refine j_callS3r C (c_X6_isWithin) qm_X6_108 qt_X6_isWithin qn_X6 qc_X6_isWithin fit_X6_isWithin ⟨Nat.le_of_ble_eq_true rfl, Nat.le_of_ble_eq_true rfl, Nat.le_of_ble_eq_true rfl, Nat.le_of_ble_eq_true rfl⟩ (Nat.le_of_ble_eq_true rfl) dX6_append_5 ?_
  exact j_xcallS C (x_X6_demandArguments hf (by first | rfl | exact b2i_z (by assumption))) qm_X6_47 qt_X6_demandArguments qn_X6 qc_X6_demandArguments fit_X6_demandArguments ⟨Nat.le_of_ble_eq_true rfl, Nat.le_of_ble_eq_true rfl, Nat.le_of_ble_eq_true rfl, Nat.le_of_ble_eq_true rfl⟩ (Nat.le_of_ble_eq_true rfl) dX6_append_8 rfl (j_xout C ht)
set_option maxHeartbeats 4000000 in
theorem x_X6_lease_IO {l : Launch} {g : GC} {V : Mem} {L : LMem} (hf : l.stackTraces = false) {x : Int32} (hbad : ¬ (nI 0 ≤ x ∧ x < V 0 2)) {y : Int32}  : TC l yX6_lease cX6_lease 3 (some .int) 8 g V L [.ref (ad g 223), .int x, .int y] xIO V L := by
  refine TC.of [some (.ref (ad g 223)), some (.int x), some (.int y)] (by decide +kernel) rfl (Nat.le_of_ble_eq_true rfl) (fun p e s m args below meth c C ht => ?_)
  refine j_aload_n C dX6_lease_0 rfl rfl ?_
  refine j_iload_n C dX6_lease_1 rfl rfl ?_
  exact j_xcallV C (oa_X6 (by first | assumption | exact kd_sums (by assumption) | exact kd_st1 (by assumption) | exact kd_st2 (by assumption) | exact kd_ls (by first | assumption | exact kdL (by omega) | exact kdQ (by omega) | rfl) (by assumption) | exact kd_sb (by first | assumption | exact kdL (by omega) | exact kdQ (by omega) | rfl) (by assumption) | exact kd_sv (by assumption) | exact kdL (by omega) | exact kdQ (by omega) | rfl)) rfl rfl (x_X6_demandLease hf hbad) qm_X6_66 qi_X6_demandLease qs_X6_demandLease qn_X6 qc_X6_demandLease fit_X6_demandLease ⟨Nat.le_of_ble_eq_true rfl, Nat.le_of_ble_eq_true rfl, Nat.le_of_ble_eq_true rfl, Nat.le_of_ble_eq_true rfl⟩ (Nat.le_of_ble_eq_true rfl) dX6_lease_2 rfl (j_xout C ht)
set_option maxHeartbeats 4000000 in
theorem x_X6_lease_IA {l : Launch} {g : GC} {V : Mem} {L : LMem} (hf : l.stackTraces = false) {k nl : Nat} (hI : LC nl V) (hk : k < nl) {y : Int32} (hbad : ¬ (nI 0 ≤ y ∧ y ≤ nI 8)) : TC l yX6_lease cX6_lease 3 (some .int) 8 g V L [.ref (ad g 223), .int (nI k), .int y] xIA V L := by
  refine TC.of [some (.ref (ad g 223)), some (.int (nI k)), some (.int y)] (by decide +kernel) rfl (Nat.le_of_ble_eq_true rfl) (fun p e s m args below meth c C ht => ?_)
  refine j_aload_n C dX6_lease_0 rfl rfl ?_
  refine j_iload_n C dX6_lease_1 rfl rfl ?_
  refine j_callV1r C (oa_X6 (by first | assumption | exact kd_sums (by assumption) | exact kd_st1 (by assumption) | exact kd_st2 (by assumption) | exact kd_ls (by first | assumption | exact kdL (by omega) | exact kdQ (by omega) | rfl) (by assumption) | exact kd_sb (by first | assumption | exact kdL (by omega) | exact kdQ (by omega) | rfl) (by assumption) | exact kd_sv (by assumption) | exact kdL (by omega) | exact kdQ (by omega) | rfl)) rfl rfl (c_X6_demandLease hI hk) qm_X6_66 qi_X6_demandLease qs_X6_demandLease qn_X6 qc_X6_demandLease fit_X6_demandLease ⟨Nat.le_of_ble_eq_true rfl, Nat.le_of_ble_eq_true rfl, Nat.le_of_ble_eq_true rfl, Nat.le_of_ble_eq_true rfl⟩ (Nat.le_of_ble_eq_true rfl) dX6_lease_2 ?_
  refine j_pop C dX6_lease_5 rfl ?_
  refine j_iload_n C dX6_lease_6 rfl rfl ?_
  refine j_iconst (v := (nI 0)) C dX6_lease_7 (by decide) ?_
  refine j_bipush (v := (nI 8)) C dX6_lease_8 (by decide) ?_
  refine j_callS3r C (c_X6_isWithin) qm_X6_108 qt_X6_isWithin qn_X6 qc_X6_isWithin fit_X6_isWithin ⟨Nat.le_of_ble_eq_true rfl, Nat.le_of_ble_eq_true rfl, Nat.le_of_ble_eq_true rfl, Nat.le_of_ble_eq_true rfl⟩ (Nat.le_of_ble_eq_true rfl) dX6_lease_10 ?_
  exact j_xcallS C (x_X6_demandArguments hf (by first | rfl | exact b2i_z (by assumption))) qm_X6_47 qt_X6_demandArguments qn_X6 qc_X6_demandArguments fit_X6_demandArguments ⟨Nat.le_of_ble_eq_true rfl, Nat.le_of_ble_eq_true rfl, Nat.le_of_ble_eq_true rfl, Nat.le_of_ble_eq_true rfl⟩ (Nat.le_of_ble_eq_true rfl) dX6_lease_13 rfl (j_xout C ht)
set_option maxHeartbeats 4000000 in
theorem x_X6_movement_IO {l : Launch} {g : GC} {V : Mem} {L : LMem} (hf : l.stackTraces = false) {x : Int32} (hbad : ¬ (nI 0 ≤ x ∧ x < V 0 2)) {y : Int32}  : TC l yX6_movement cX6_movement 4 (some .int) 8 g V L [.ref (ad g 223), .int x, .int y] xIO V L := by
  refine TC.of [some (.ref (ad g 223)), some (.int x), some (.int y), none] (by decide +kernel) rfl (Nat.le_of_ble_eq_true rfl) (fun p e s m args below meth c C ht => ?_)
  refine j_aload_n C dX6_movement_0 rfl rfl ?_
  refine j_iload_n C dX6_movement_1 rfl rfl ?_
  exact j_xcallV C (oa_X6 (by first | assumption | exact kd_sums (by assumption) | exact kd_st1 (by assumption) | exact kd_st2 (by assumption) | exact kd_ls (by first | assumption | exact kdL (by omega) | exact kdQ (by omega) | rfl) (by assumption) | exact kd_sb (by first | assumption | exact kdL (by omega) | exact kdQ (by omega) | rfl) (by assumption) | exact kd_sv (by assumption) | exact kdL (by omega) | exact kdQ (by omega) | rfl)) rfl rfl (x_X6_demandLease hf hbad) qm_X6_66 qi_X6_demandLease qs_X6_demandLease qn_X6 qc_X6_demandLease fit_X6_demandLease ⟨Nat.le_of_ble_eq_true rfl, Nat.le_of_ble_eq_true rfl, Nat.le_of_ble_eq_true rfl, Nat.le_of_ble_eq_true rfl⟩ (Nat.le_of_ble_eq_true rfl) dX6_movement_2 rfl (j_xout C ht)
set_option maxHeartbeats 4000000 in
theorem x_X6_movement_IA {l : Launch} {g : GC} {V : Mem} {L : LMem} (hf : l.stackTraces = false) {k nl : Nat} (hI : LC nl V) (hk : k < nl) {y : Int32} (hbad : ¬ (nI 0 ≤ y ∧ y ≤ nI 16)) : TC l yX6_movement cX6_movement 4 (some .int) 8 g V L [.ref (ad g 223), .int (nI k), .int y] xIA V L := by
  refine TC.of [some (.ref (ad g 223)), some (.int (nI k)), some (.int y), none] (by decide +kernel) rfl (Nat.le_of_ble_eq_true rfl) (fun p e s m args below meth c C ht => ?_)
  refine j_aload_n C dX6_movement_0 rfl rfl ?_
  refine j_iload_n C dX6_movement_1 rfl rfl ?_
  refine j_callV1r C (oa_X6 (by first | assumption | exact kd_sums (by assumption) | exact kd_st1 (by assumption) | exact kd_st2 (by assumption) | exact kd_ls (by first | assumption | exact kdL (by omega) | exact kdQ (by omega) | rfl) (by assumption) | exact kd_sb (by first | assumption | exact kdL (by omega) | exact kdQ (by omega) | rfl) (by assumption) | exact kd_sv (by assumption) | exact kdL (by omega) | exact kdQ (by omega) | rfl)) rfl rfl (c_X6_demandLease hI hk) qm_X6_66 qi_X6_demandLease qs_X6_demandLease qn_X6 qc_X6_demandLease fit_X6_demandLease ⟨Nat.le_of_ble_eq_true rfl, Nat.le_of_ble_eq_true rfl, Nat.le_of_ble_eq_true rfl, Nat.le_of_ble_eq_true rfl⟩ (Nat.le_of_ble_eq_true rfl) dX6_movement_2 ?_
  refine j_ast3 C dX6_movement_5 rfl (Nat.le_of_ble_eq_true rfl) rfl ?_
  refine j_iload_n C dX6_movement_6 rfl rfl ?_
  refine j_iconst (v := (nI 0)) C dX6_movement_7 (by decide) ?_
  refine j_bipush (v := (nI 16)) C dX6_movement_8 (by decide) ?_
  refine j_callS3r C (c_X6_isWithin) qm_X6_108 qt_X6_isWithin qn_X6 qc_X6_isWithin fit_X6_isWithin ⟨Nat.le_of_ble_eq_true rfl, Nat.le_of_ble_eq_true rfl, Nat.le_of_ble_eq_true rfl, Nat.le_of_ble_eq_true rfl⟩ (Nat.le_of_ble_eq_true rfl) dX6_movement_10 ?_
  exact j_xcallS C (x_X6_demandArguments hf (by first | rfl | exact b2i_z (by assumption))) qm_X6_47 qt_X6_demandArguments qn_X6 qc_X6_demandArguments fit_X6_demandArguments ⟨Nat.le_of_ble_eq_true rfl, Nat.le_of_ble_eq_true rfl, Nat.le_of_ble_eq_true rfl, Nat.le_of_ble_eq_true rfl⟩ (Nat.le_of_ble_eq_true rfl) dX6_movement_13 rfl (j_xout C ht)
set_option maxHeartbeats 4000000 in
theorem x_X6_profit_IO {l : Launch} {g : GC} {V : Mem} {L : LMem} (hf : l.stackTraces = false) {x : Int32} (hbad : ¬ (nI 0 ≤ x ∧ x < V 0 2)) {y : Int32}  : TC l yX6_profit cX6_profit 4 (some .int) 8 g V L [.ref (ad g 223), .int x, .int y] xIO V L := by
  refine TC.of [some (.ref (ad g 223)), some (.int x), some (.int y), none] (by decide +kernel) rfl (Nat.le_of_ble_eq_true rfl) (fun p e s m args below meth c C ht => ?_)
  refine j_aload_n C dX6_profit_0 rfl rfl ?_
  refine j_iload_n C dX6_profit_1 rfl rfl ?_
  exact j_xcallV C (oa_X6 (by first | assumption | exact kd_sums (by assumption) | exact kd_st1 (by assumption) | exact kd_st2 (by assumption) | exact kd_ls (by first | assumption | exact kdL (by omega) | exact kdQ (by omega) | rfl) (by assumption) | exact kd_sb (by first | assumption | exact kdL (by omega) | exact kdQ (by omega) | rfl) (by assumption) | exact kd_sv (by assumption) | exact kdL (by omega) | exact kdQ (by omega) | rfl)) rfl rfl (x_X6_demandLease hf hbad) qm_X6_66 qi_X6_demandLease qs_X6_demandLease qn_X6 qc_X6_demandLease fit_X6_demandLease ⟨Nat.le_of_ble_eq_true rfl, Nat.le_of_ble_eq_true rfl, Nat.le_of_ble_eq_true rfl, Nat.le_of_ble_eq_true rfl⟩ (Nat.le_of_ble_eq_true rfl) dX6_profit_2 rfl (j_xout C ht)
set_option maxHeartbeats 4000000 in
theorem x_X6_profit_IA {l : Launch} {g : GC} {V : Mem} {L : LMem} (hf : l.stackTraces = false) {k nl : Nat} (hI : LC nl V) (hk : k < nl) {y : Int32} (hbad : ¬ (nI 0 ≤ y ∧ y ≤ nI 1)) : TC l yX6_profit cX6_profit 4 (some .int) 8 g V L [.ref (ad g 223), .int (nI k), .int y] xIA V L := by
  refine TC.of [some (.ref (ad g 223)), some (.int (nI k)), some (.int y), none] (by decide +kernel) rfl (Nat.le_of_ble_eq_true rfl) (fun p e s m args below meth c C ht => ?_)
  refine j_aload_n C dX6_profit_0 rfl rfl ?_
  refine j_iload_n C dX6_profit_1 rfl rfl ?_
  refine j_callV1r C (oa_X6 (by first | assumption | exact kd_sums (by assumption) | exact kd_st1 (by assumption) | exact kd_st2 (by assumption) | exact kd_ls (by first | assumption | exact kdL (by omega) | exact kdQ (by omega) | rfl) (by assumption) | exact kd_sb (by first | assumption | exact kdL (by omega) | exact kdQ (by omega) | rfl) (by assumption) | exact kd_sv (by assumption) | exact kdL (by omega) | exact kdQ (by omega) | rfl)) rfl rfl (c_X6_demandLease hI hk) qm_X6_66 qi_X6_demandLease qs_X6_demandLease qn_X6 qc_X6_demandLease fit_X6_demandLease ⟨Nat.le_of_ble_eq_true rfl, Nat.le_of_ble_eq_true rfl, Nat.le_of_ble_eq_true rfl, Nat.le_of_ble_eq_true rfl⟩ (Nat.le_of_ble_eq_true rfl) dX6_profit_2 ?_
  refine j_ast3 C dX6_profit_5 rfl (Nat.le_of_ble_eq_true rfl) rfl ?_
  refine j_iload_n C dX6_profit_6 rfl rfl ?_
  refine j_iconst (v := (nI 0)) C dX6_profit_7 (by decide) ?_
  refine j_iconst (v := (nI 1)) C dX6_profit_8 (by decide) ?_
  refine j_callS3r C (c_X6_isWithin) qm_X6_108 qt_X6_isWithin qn_X6 qc_X6_isWithin fit_X6_isWithin ⟨Nat.le_of_ble_eq_true rfl, Nat.le_of_ble_eq_true rfl, Nat.le_of_ble_eq_true rfl, Nat.le_of_ble_eq_true rfl⟩ (Nat.le_of_ble_eq_true rfl) dX6_profit_9 ?_
  exact j_xcallS C (x_X6_demandArguments hf (by first | rfl | exact b2i_z (by assumption))) qm_X6_47 qt_X6_demandArguments qn_X6 qc_X6_demandArguments fit_X6_demandArguments ⟨Nat.le_of_ble_eq_true rfl, Nat.le_of_ble_eq_true rfl, Nat.le_of_ble_eq_true rfl, Nat.le_of_ble_eq_true rfl⟩ (Nat.le_of_ble_eq_true rfl) dX6_profit_12 rfl (j_xout C ht)
set_option maxHeartbeats 4000000 in
theorem x_X6_count_IA {l : Launch} {g : GC} {V : Mem} {L : LMem} (hf : l.stackTraces = false) {y : Int32} (hbad : ¬ (nI 0 ≤ y ∧ y ≤ nI 10)) : TC l yX6_count cX6_count 2 (some .int) 8 g V L [.ref (ad g 223), .int y] xIA V L := by
  refine TC.of [some (.ref (ad g 223)), some (.int y)] (by decide +kernel) rfl (Nat.le_of_ble_eq_true rfl) (fun p e s m args below meth c C ht => ?_)
  refine j_iload_n C dX6_count_0 rfl rfl ?_
  refine j_iconst (v := (nI 0)) C dX6_count_1 (by decide) ?_
  refine j_bipush (v := (nI 10)) C dX6_count_2 (by decide) ?_
  refine j_callS3r C (c_X6_isWithin) qm_X6_108 qt_X6_isWithin qn_X6 qc_X6_isWithin fit_X6_isWithin ⟨Nat.le_of_ble_eq_true rfl, Nat.le_of_ble_eq_true rfl, Nat.le_of_ble_eq_true rfl, Nat.le_of_ble_eq_true rfl⟩ (Nat.le_of_ble_eq_true rfl) dX6_count_4 ?_
  exact j_xcallS C (x_X6_demandArguments hf (by first | rfl | exact b2i_z (by assumption))) qm_X6_47 qt_X6_demandArguments qn_X6 qc_X6_demandArguments fit_X6_demandArguments ⟨Nat.le_of_ble_eq_true rfl, Nat.le_of_ble_eq_true rfl, Nat.le_of_ble_eq_true rfl, Nat.le_of_ble_eq_true rfl⟩ (Nat.le_of_ble_eq_true rfl) dX6_count_7 rfl (j_xout C ht)
set_option maxHeartbeats 4000000 in
theorem x_X6_worth_IA {l : Launch} {g : GC} {V : Mem} {L : LMem} (hf : l.stackTraces = false) {p1 n r : Int32} (hbad : ¬ (money p1 ∧ (nI 0 ≤ n ∧ n ≤ nI 60) ∧ rateR r)) : TC l yX6_worth cX6_worth 4 (some .int) 8 g V L [.ref (ad g 223), .int p1, .int n, .int r] xIA V L := by
  refine TC.of [some (.ref (ad g 223)), some (.int p1), some (.int n), some (.int r)] (by decide +kernel) rfl (Nat.le_of_ble_eq_true rfl) (fun p e s m args below meth c C ht => ?_)
  refine j_iload_n C dX6_worth_0 rfl rfl ?_
  refine j_callS1r C (c_X6_isMoney) qm_X6_37 qt_X6_isMoney qn_X6 qc_X6_isMoney fit_X6_isMoney ⟨Nat.le_of_ble_eq_true rfl, Nat.le_of_ble_eq_true rfl, Nat.le_of_ble_eq_true rfl, Nat.le_of_ble_eq_true rfl⟩ (Nat.le_of_ble_eq_true rfl) dX6_worth_1 ?_
  refine j_if_eq (tgt := 28) C dX6_worth_4 (by decide) (fun h4 => ?_) (fun h4 => ?_)
  · replace h4 := b2i_0 h4
    refine j_iconst (v := (nI 0)) C dX6_worth_28 (by decide) ?_
    exact j_xcallS C (x_X6_demandArguments hf (by first | rfl | exact b2i_z (by assumption))) qm_X6_47 qt_X6_demandArguments qn_X6 qc_X6_demandArguments fit_X6_demandArguments ⟨Nat.le_of_ble_eq_true rfl, Nat.le_of_ble_eq_true rfl, Nat.le_of_ble_eq_true rfl, Nat.le_of_ble_eq_true rfl⟩ (Nat.le_of_ble_eq_true rfl) dX6_worth_29 rfl (j_xout C ht)
  · replace h4 := b2i_1 h4
    refine j_iload_n C dX6_worth_7 rfl rfl ?_
    refine j_iconst (v := (nI 0)) C dX6_worth_8 (by decide) ?_
    refine j_bipush (v := (nI 60)) C dX6_worth_9 (by decide) ?_
    refine j_callS3r C (c_X6_isWithin) qm_X6_108 qt_X6_isWithin qn_X6 qc_X6_isWithin fit_X6_isWithin ⟨Nat.le_of_ble_eq_true rfl, Nat.le_of_ble_eq_true rfl, Nat.le_of_ble_eq_true rfl, Nat.le_of_ble_eq_true rfl⟩ (Nat.le_of_ble_eq_true rfl) dX6_worth_11 ?_
    refine j_if_eq (tgt := 28) C dX6_worth_14 (by decide) (fun h14 => ?_) (fun h14 => ?_)
    · replace h14 := b2i_0 h14
      refine j_iconst (v := (nI 0)) C dX6_worth_28 (by decide) ?_
      exact j_xcallS C (x_X6_demandArguments hf (by first | rfl | exact b2i_z (by assumption))) qm_X6_47 qt_X6_demandArguments qn_X6 qc_X6_demandArguments fit_X6_demandArguments ⟨Nat.le_of_ble_eq_true rfl, Nat.le_of_ble_eq_true rfl, Nat.le_of_ble_eq_true rfl, Nat.le_of_ble_eq_true rfl⟩ (Nat.le_of_ble_eq_true rfl) dX6_worth_29 rfl (j_xout C ht)
    · replace h14 := b2i_1 h14
      refine j_iload_n C dX6_worth_17 rfl rfl ?_
      refine j_callS1r C (c_X6_isRate) qm_X6_44 qt_X6_isRate qn_X6 qc_X6_isRate fit_X6_isRate ⟨Nat.le_of_ble_eq_true rfl, Nat.le_of_ble_eq_true rfl, Nat.le_of_ble_eq_true rfl, Nat.le_of_ble_eq_true rfl⟩ (Nat.le_of_ble_eq_true rfl) dX6_worth_18 ?_
      refine j_if_eq (tgt := 28) C dX6_worth_21 (by decide) (fun h21 => ?_) (fun h21 => ?_)
      · replace h21 := b2i_0 h21
        refine j_iconst (v := (nI 0)) C dX6_worth_28 (by decide) ?_
        exact j_xcallS C (x_X6_demandArguments hf (by first | rfl | exact b2i_z (by assumption))) qm_X6_47 qt_X6_demandArguments qn_X6 qc_X6_demandArguments fit_X6_demandArguments ⟨Nat.le_of_ble_eq_true rfl, Nat.le_of_ble_eq_true rfl, Nat.le_of_ble_eq_true rfl, Nat.le_of_ble_eq_true rfl⟩ (Nat.le_of_ble_eq_true rfl) dX6_worth_29 rfl (j_xout C ht)
      · replace h21 := b2i_1 h21
        exfalso
        first | exact hbad ⟨by assumption, by assumption, by assumption, by assumption⟩ | exact hbad ⟨by assumption, by assumption, by assumption⟩ | exact hbad ⟨by assumption, by assumption⟩ | exact hbad (by assumption) | exact absurd (by assumption) hbad
set_option maxHeartbeats 4000000 in
theorem x_X6_plan_IO {l : Launch} {g : GC} {V : Mem} {L : LMem} (hf : l.stackTraces = false) {x : Int32} (hbad : ¬ (nI 0 ≤ x ∧ x < V 0 2)) {n y : Int32}  : TC l yX6_plan cX6_plan 5 (some .int) 8 g V L [.ref (ad g 223), .int x, .int n, .int y] xIO V L := by
  refine TC.of [some (.ref (ad g 223)), some (.int x), some (.int n), some (.int y), none] (by decide +kernel) rfl (Nat.le_of_ble_eq_true rfl) (fun p e s m args below meth c C ht => ?_)
  refine j_aload_n C dX6_plan_0 rfl rfl ?_
  refine j_iload_n C dX6_plan_1 rfl rfl ?_
  exact j_xcallV C (oa_X6 (by first | assumption | exact kd_sums (by assumption) | exact kd_st1 (by assumption) | exact kd_st2 (by assumption) | exact kd_ls (by first | assumption | exact kdL (by omega) | exact kdQ (by omega) | rfl) (by assumption) | exact kd_sb (by first | assumption | exact kdL (by omega) | exact kdQ (by omega) | rfl) (by assumption) | exact kd_sv (by assumption) | exact kdL (by omega) | exact kdQ (by omega) | rfl)) rfl rfl (x_X6_demandLease hf hbad) qm_X6_66 qi_X6_demandLease qs_X6_demandLease qn_X6 qc_X6_demandLease fit_X6_demandLease ⟨Nat.le_of_ble_eq_true rfl, Nat.le_of_ble_eq_true rfl, Nat.le_of_ble_eq_true rfl, Nat.le_of_ble_eq_true rfl⟩ (Nat.le_of_ble_eq_true rfl) dX6_plan_2 rfl (j_xout C ht)
set_option maxHeartbeats 4000000 in
theorem x_X6_plan_IA {l : Launch} {g : GC} {V : Mem} {L : LMem} (hf : l.stackTraces = false) {k nl : Nat} (hI : LC nl V) (hk : k < nl) {n y : Int32} (hbad : ¬ ((nI 0 ≤ n ∧ n ≤ nI 60) ∧ (nI 0 ≤ y ∧ y ≤ nI 3))) : TC l yX6_plan cX6_plan 5 (some .int) 8 g V L [.ref (ad g 223), .int (nI k), .int n, .int y] xIA V L := by
  refine TC.of [some (.ref (ad g 223)), some (.int (nI k)), some (.int n), some (.int y), none] (by decide +kernel) rfl (Nat.le_of_ble_eq_true rfl) (fun p e s m args below meth c C ht => ?_)
  refine j_aload_n C dX6_plan_0 rfl rfl ?_
  refine j_iload_n C dX6_plan_1 rfl rfl ?_
  refine j_callV1r C (oa_X6 (by first | assumption | exact kd_sums (by assumption) | exact kd_st1 (by assumption) | exact kd_st2 (by assumption) | exact kd_ls (by first | assumption | exact kdL (by omega) | exact kdQ (by omega) | rfl) (by assumption) | exact kd_sb (by first | assumption | exact kdL (by omega) | exact kdQ (by omega) | rfl) (by assumption) | exact kd_sv (by assumption) | exact kdL (by omega) | exact kdQ (by omega) | rfl)) rfl rfl (c_X6_demandLease hI hk) qm_X6_66 qi_X6_demandLease qs_X6_demandLease qn_X6 qc_X6_demandLease fit_X6_demandLease ⟨Nat.le_of_ble_eq_true rfl, Nat.le_of_ble_eq_true rfl, Nat.le_of_ble_eq_true rfl, Nat.le_of_ble_eq_true rfl⟩ (Nat.le_of_ble_eq_true rfl) dX6_plan_2 ?_
  refine j_ast4 C dX6_plan_5 (Nat.le_of_ble_eq_true rfl) rfl ?_
  refine j_iload_n C dX6_plan_7 rfl rfl ?_
  refine j_iconst (v := (nI 0)) C dX6_plan_8 (by decide) ?_
  refine j_bipush (v := (nI 60)) C dX6_plan_9 (by decide) ?_
  refine j_callS3r C (c_X6_isWithin) qm_X6_108 qt_X6_isWithin qn_X6 qc_X6_isWithin fit_X6_isWithin ⟨Nat.le_of_ble_eq_true rfl, Nat.le_of_ble_eq_true rfl, Nat.le_of_ble_eq_true rfl, Nat.le_of_ble_eq_true rfl⟩ (Nat.le_of_ble_eq_true rfl) dX6_plan_11 ?_
  refine j_if_eq (tgt := 30) C dX6_plan_14 (by decide) (fun h14 => ?_) (fun h14 => ?_)
  · replace h14 := b2i_0 h14
    refine j_iconst (v := (nI 0)) C dX6_plan_30 (by decide) ?_
    exact j_xcallS C (x_X6_demandArguments hf (by first | rfl | exact b2i_z (by assumption))) qm_X6_47 qt_X6_demandArguments qn_X6 qc_X6_demandArguments fit_X6_demandArguments ⟨Nat.le_of_ble_eq_true rfl, Nat.le_of_ble_eq_true rfl, Nat.le_of_ble_eq_true rfl, Nat.le_of_ble_eq_true rfl⟩ (Nat.le_of_ble_eq_true rfl) dX6_plan_31 rfl (j_xout C ht)
  · replace h14 := b2i_1 h14
    refine j_iload_n C dX6_plan_17 rfl rfl ?_
    refine j_iconst (v := (nI 0)) C dX6_plan_18 (by decide) ?_
    refine j_iconst (v := (nI 3)) C dX6_plan_19 (by decide) ?_
    refine j_callS3r C (c_X6_isWithin) qm_X6_108 qt_X6_isWithin qn_X6 qc_X6_isWithin fit_X6_isWithin ⟨Nat.le_of_ble_eq_true rfl, Nat.le_of_ble_eq_true rfl, Nat.le_of_ble_eq_true rfl, Nat.le_of_ble_eq_true rfl⟩ (Nat.le_of_ble_eq_true rfl) dX6_plan_20 ?_
    refine j_if_eq (tgt := 30) C dX6_plan_23 (by decide) (fun h23 => ?_) (fun h23 => ?_)
    · replace h23 := b2i_0 h23
      refine j_iconst (v := (nI 0)) C dX6_plan_30 (by decide) ?_
      exact j_xcallS C (x_X6_demandArguments hf (by first | rfl | exact b2i_z (by assumption))) qm_X6_47 qt_X6_demandArguments qn_X6 qc_X6_demandArguments fit_X6_demandArguments ⟨Nat.le_of_ble_eq_true rfl, Nat.le_of_ble_eq_true rfl, Nat.le_of_ble_eq_true rfl, Nat.le_of_ble_eq_true rfl⟩ (Nat.le_of_ble_eq_true rfl) dX6_plan_31 rfl (j_xout C ht)
    · replace h23 := b2i_1 h23
      exfalso
      first | exact hbad ⟨by assumption, by assumption, by assumption, by assumption⟩ | exact hbad ⟨by assumption, by assumption, by assumption⟩ | exact hbad ⟨by assumption, by assumption⟩ | exact hbad (by assumption) | exact absurd (by assumption) hbad
set_option maxHeartbeats 4000000 in
theorem x_X6_ifMeasured_IO {l : Launch} {g : GC} {V : Mem} {L : LMem} (hf : l.stackTraces = false) {x : Int32} (hbad : ¬ (nI 0 ≤ x ∧ x < V 0 2)) {p1 n r y : Int32}  : TC l yX6_ifMeasured cX6_ifMeasured 9 (some .int) 8 g V L [.ref (ad g 223), .int x, .int p1, .int n, .int r, .int y] xIO V L := by
  refine TC.of [some (.ref (ad g 223)), some (.int x), some (.int p1), some (.int n), some (.int r), some (.int y), none, none, none] (by decide +kernel) rfl (Nat.le_of_ble_eq_true rfl) (fun p e s m args below meth c C ht => ?_)
  refine j_aload_n C dX6_ifMeasured_0 rfl rfl ?_
  refine j_iload_n C dX6_ifMeasured_1 rfl rfl ?_
  exact j_xcallV C (oa_X6 (by first | assumption | exact kd_sums (by assumption) | exact kd_st1 (by assumption) | exact kd_st2 (by assumption) | exact kd_ls (by first | assumption | exact kdL (by omega) | exact kdQ (by omega) | rfl) (by assumption) | exact kd_sb (by first | assumption | exact kdL (by omega) | exact kdQ (by omega) | rfl) (by assumption) | exact kd_sv (by assumption) | exact kdL (by omega) | exact kdQ (by omega) | rfl)) rfl rfl (x_X6_demandLease hf hbad) qm_X6_66 qi_X6_demandLease qs_X6_demandLease qn_X6 qc_X6_demandLease fit_X6_demandLease ⟨Nat.le_of_ble_eq_true rfl, Nat.le_of_ble_eq_true rfl, Nat.le_of_ble_eq_true rfl, Nat.le_of_ble_eq_true rfl⟩ (Nat.le_of_ble_eq_true rfl) dX6_ifMeasured_2 rfl (j_xout C ht)
set_option maxHeartbeats 4000000 in
theorem x_X6_ifMeasured_IA {l : Launch} {g : GC} {V : Mem} {L : LMem} (hf : l.stackTraces = false) {k nl : Nat} (hI : LC nl V) (hk : k < nl) {p1 n r y : Int32} (hbad : ¬ (money p1 ∧ termR n ∧ rateR r ∧ (nI 0 ≤ y ∧ y ≤ nI 2))) : TC l yX6_ifMeasured cX6_ifMeasured 9 (some .int) 8 g V L [.ref (ad g 223), .int (nI k), .int p1, .int n, .int r, .int y] xIA V L := by
  refine TC.of [some (.ref (ad g 223)), some (.int (nI k)), some (.int p1), some (.int n), some (.int r), some (.int y), none, none, none] (by decide +kernel) rfl (Nat.le_of_ble_eq_true rfl) (fun p e s m args below meth c C ht => ?_)
  refine j_aload_n C dX6_ifMeasured_0 rfl rfl ?_
  refine j_iload_n C dX6_ifMeasured_1 rfl rfl ?_
  refine j_callV1r C (oa_X6 (by first | assumption | exact kd_sums (by assumption) | exact kd_st1 (by assumption) | exact kd_st2 (by assumption) | exact kd_ls (by first | assumption | exact kdL (by omega) | exact kdQ (by omega) | rfl) (by assumption) | exact kd_sb (by first | assumption | exact kdL (by omega) | exact kdQ (by omega) | rfl) (by assumption) | exact kd_sv (by assumption) | exact kdL (by omega) | exact kdQ (by omega) | rfl)) rfl rfl (c_X6_demandLease hI hk) qm_X6_66 qi_X6_demandLease qs_X6_demandLease qn_X6 qc_X6_demandLease fit_X6_demandLease ⟨Nat.le_of_ble_eq_true rfl, Nat.le_of_ble_eq_true rfl, Nat.le_of_ble_eq_true rfl, Nat.le_of_ble_eq_true rfl⟩ (Nat.le_of_ble_eq_true rfl) dX6_ifMeasured_2 ?_
  refine j_ast6 C dX6_ifMeasured_5 (Nat.le_of_ble_eq_true rfl) rfl ?_
  refine j_iload_n C dX6_ifMeasured_7 rfl rfl ?_
  refine j_callS1r C (c_X6_isMoney) qm_X6_37 qt_X6_isMoney qn_X6 qc_X6_isMoney fit_X6_isMoney ⟨Nat.le_of_ble_eq_true rfl, Nat.le_of_ble_eq_true rfl, Nat.le_of_ble_eq_true rfl, Nat.le_of_ble_eq_true rfl⟩ (Nat.le_of_ble_eq_true rfl) dX6_ifMeasured_8 ?_
  refine j_if_eq (tgt := 43) C dX6_ifMeasured_11 (by decide) (fun h11 => ?_) (fun h11 => ?_)
  · replace h11 := b2i_0 h11
    refine j_iconst (v := (nI 0)) C dX6_ifMeasured_43 (by decide) ?_
    exact j_xcallS C (x_X6_demandArguments hf (by first | rfl | exact b2i_z (by assumption))) qm_X6_47 qt_X6_demandArguments qn_X6 qc_X6_demandArguments fit_X6_demandArguments ⟨Nat.le_of_ble_eq_true rfl, Nat.le_of_ble_eq_true rfl, Nat.le_of_ble_eq_true rfl, Nat.le_of_ble_eq_true rfl⟩ (Nat.le_of_ble_eq_true rfl) dX6_ifMeasured_44 rfl (j_xout C ht)
  · replace h11 := b2i_1 h11
    refine j_iload_n C dX6_ifMeasured_14 rfl rfl ?_
    refine j_callS1r C (c_X6_isPeriods) qm_X6_41 qt_X6_isPeriods qn_X6 qc_X6_isPeriods fit_X6_isPeriods ⟨Nat.le_of_ble_eq_true rfl, Nat.le_of_ble_eq_true rfl, Nat.le_of_ble_eq_true rfl, Nat.le_of_ble_eq_true rfl⟩ (Nat.le_of_ble_eq_true rfl) dX6_ifMeasured_15 ?_
    refine j_if_eq (tgt := 43) C dX6_ifMeasured_18 (by decide) (fun h18 => ?_) (fun h18 => ?_)
    · replace h18 := b2i_0 h18
      refine j_iconst (v := (nI 0)) C dX6_ifMeasured_43 (by decide) ?_
      exact j_xcallS C (x_X6_demandArguments hf (by first | rfl | exact b2i_z (by assumption))) qm_X6_47 qt_X6_demandArguments qn_X6 qc_X6_demandArguments fit_X6_demandArguments ⟨Nat.le_of_ble_eq_true rfl, Nat.le_of_ble_eq_true rfl, Nat.le_of_ble_eq_true rfl, Nat.le_of_ble_eq_true rfl⟩ (Nat.le_of_ble_eq_true rfl) dX6_ifMeasured_44 rfl (j_xout C ht)
    · replace h18 := b2i_1 h18
      refine j_iload C dX6_ifMeasured_21 rfl ?_
      refine j_callS1r C (c_X6_isRate) qm_X6_44 qt_X6_isRate qn_X6 qc_X6_isRate fit_X6_isRate ⟨Nat.le_of_ble_eq_true rfl, Nat.le_of_ble_eq_true rfl, Nat.le_of_ble_eq_true rfl, Nat.le_of_ble_eq_true rfl⟩ (Nat.le_of_ble_eq_true rfl) dX6_ifMeasured_23 ?_
      refine j_if_eq (tgt := 43) C dX6_ifMeasured_26 (by decide) (fun h26 => ?_) (fun h26 => ?_)
      · replace h26 := b2i_0 h26
        refine j_iconst (v := (nI 0)) C dX6_ifMeasured_43 (by decide) ?_
        exact j_xcallS C (x_X6_demandArguments hf (by first | rfl | exact b2i_z (by assumption))) qm_X6_47 qt_X6_demandArguments qn_X6 qc_X6_demandArguments fit_X6_demandArguments ⟨Nat.le_of_ble_eq_true rfl, Nat.le_of_ble_eq_true rfl, Nat.le_of_ble_eq_true rfl, Nat.le_of_ble_eq_true rfl⟩ (Nat.le_of_ble_eq_true rfl) dX6_ifMeasured_44 rfl (j_xout C ht)
      · replace h26 := b2i_1 h26
        refine j_iload C dX6_ifMeasured_29 rfl ?_
        refine j_iconst (v := (nI 0)) C dX6_ifMeasured_31 (by decide) ?_
        refine j_iconst (v := (nI 2)) C dX6_ifMeasured_32 (by decide) ?_
        refine j_callS3r C (c_X6_isWithin) qm_X6_108 qt_X6_isWithin qn_X6 qc_X6_isWithin fit_X6_isWithin ⟨Nat.le_of_ble_eq_true rfl, Nat.le_of_ble_eq_true rfl, Nat.le_of_ble_eq_true rfl, Nat.le_of_ble_eq_true rfl⟩ (Nat.le_of_ble_eq_true rfl) dX6_ifMeasured_33 ?_
        refine j_if_eq (tgt := 43) C dX6_ifMeasured_36 (by decide) (fun h36 => ?_) (fun h36 => ?_)
        · replace h36 := b2i_0 h36
          refine j_iconst (v := (nI 0)) C dX6_ifMeasured_43 (by decide) ?_
          exact j_xcallS C (x_X6_demandArguments hf (by first | rfl | exact b2i_z (by assumption))) qm_X6_47 qt_X6_demandArguments qn_X6 qc_X6_demandArguments fit_X6_demandArguments ⟨Nat.le_of_ble_eq_true rfl, Nat.le_of_ble_eq_true rfl, Nat.le_of_ble_eq_true rfl, Nat.le_of_ble_eq_true rfl⟩ (Nat.le_of_ble_eq_true rfl) dX6_ifMeasured_44 rfl (j_xout C ht)
        · replace h36 := b2i_1 h36
          exfalso
          first | exact hbad ⟨by assumption, by assumption, by assumption, by assumption⟩ | exact hbad ⟨by assumption, by assumption, by assumption⟩ | exact hbad ⟨by assumption, by assumption⟩ | exact hbad (by assumption) | exact absurd (by assumption) hbad
set_option maxHeartbeats 4000000 in
theorem x_X6_paymentFor_IO {l : Launch} {g : GC} {V : Mem} {L : LMem} (hf : l.stackTraces = false) {x : Int32} (hbad : ¬ (nI 0 ≤ x ∧ x < V 0 2)) {li : Int32}  : TC l yX6_paymentFor cX6_paymentFor 4 (some .int) 8 g V L [.ref (ad g 223), .int x, .int li] xIO V L := by
  refine TC.of [some (.ref (ad g 223)), some (.int x), some (.int li), none] (by decide +kernel) rfl (Nat.le_of_ble_eq_true rfl) (fun p e s m args below meth c C ht => ?_)
  refine j_aload_n C dX6_paymentFor_0 rfl rfl ?_
  refine j_iload_n C dX6_paymentFor_1 rfl rfl ?_
  exact j_xcallV C (oa_X6 (by first | assumption | exact kd_sums (by assumption) | exact kd_st1 (by assumption) | exact kd_st2 (by assumption) | exact kd_ls (by first | assumption | exact kdL (by omega) | exact kdQ (by omega) | rfl) (by assumption) | exact kd_sb (by first | assumption | exact kdL (by omega) | exact kdQ (by omega) | rfl) (by assumption) | exact kd_sv (by assumption) | exact kdL (by omega) | exact kdQ (by omega) | rfl)) rfl rfl (x_X6_demandLease hf hbad) qm_X6_66 qi_X6_demandLease qs_X6_demandLease qn_X6 qc_X6_demandLease fit_X6_demandLease ⟨Nat.le_of_ble_eq_true rfl, Nat.le_of_ble_eq_true rfl, Nat.le_of_ble_eq_true rfl, Nat.le_of_ble_eq_true rfl⟩ (Nat.le_of_ble_eq_true rfl) dX6_paymentFor_2 rfl (j_xout C ht)
set_option maxHeartbeats 4000000 in
theorem x_X6_paymentFor_IA {l : Launch} {g : GC} {V : Mem} {L : LMem} (hf : l.stackTraces = false) {k nl : Nat} (hI : LC nl V) (hk : k < nl) {li : Int32} (hbad : ¬ (nI 0 ≤ li ∧ li ≤ nI 10000000)) : TC l yX6_paymentFor cX6_paymentFor 4 (some .int) 8 g V L [.ref (ad g 223), .int (nI k), .int li] xIA V L := by
  refine TC.of [some (.ref (ad g 223)), some (.int (nI k)), some (.int li), none] (by decide +kernel) rfl (Nat.le_of_ble_eq_true rfl) (fun p e s m args below meth c C ht => ?_)
  refine j_aload_n C dX6_paymentFor_0 rfl rfl ?_
  refine j_iload_n C dX6_paymentFor_1 rfl rfl ?_
  refine j_callV1r C (oa_X6 (by first | assumption | exact kd_sums (by assumption) | exact kd_st1 (by assumption) | exact kd_st2 (by assumption) | exact kd_ls (by first | assumption | exact kdL (by omega) | exact kdQ (by omega) | rfl) (by assumption) | exact kd_sb (by first | assumption | exact kdL (by omega) | exact kdQ (by omega) | rfl) (by assumption) | exact kd_sv (by assumption) | exact kdL (by omega) | exact kdQ (by omega) | rfl)) rfl rfl (c_X6_demandLease hI hk) qm_X6_66 qi_X6_demandLease qs_X6_demandLease qn_X6 qc_X6_demandLease fit_X6_demandLease ⟨Nat.le_of_ble_eq_true rfl, Nat.le_of_ble_eq_true rfl, Nat.le_of_ble_eq_true rfl, Nat.le_of_ble_eq_true rfl⟩ (Nat.le_of_ble_eq_true rfl) dX6_paymentFor_2 ?_
  refine j_ast3 C dX6_paymentFor_5 rfl (Nat.le_of_ble_eq_true rfl) rfl ?_
  refine j_iload_n C dX6_paymentFor_6 rfl rfl ?_
  refine j_iconst (v := (nI 0)) C dX6_paymentFor_7 (by decide) ?_
  refine j_ldc (v := nI 10000000) C qk_X6_216 dX6_paymentFor_8 ?_
  refine j_callS3r C (c_X6_isWithin) qm_X6_108 qt_X6_isWithin qn_X6 qc_X6_isWithin fit_X6_isWithin ⟨Nat.le_of_ble_eq_true rfl, Nat.le_of_ble_eq_true rfl, Nat.le_of_ble_eq_true rfl, Nat.le_of_ble_eq_true rfl⟩ (Nat.le_of_ble_eq_true rfl) dX6_paymentFor_10 ?_
  exact j_xcallS C (x_X6_demandArguments hf (by first | rfl | exact b2i_z (by assumption))) qm_X6_47 qt_X6_demandArguments qn_X6 qc_X6_demandArguments fit_X6_demandArguments ⟨Nat.le_of_ble_eq_true rfl, Nat.le_of_ble_eq_true rfl, Nat.le_of_ble_eq_true rfl, Nat.le_of_ble_eq_true rfl⟩ (Nat.le_of_ble_eq_true rfl) dX6_paymentFor_13 rfl (j_xout C ht)
set_option maxHeartbeats 4000000 in
theorem x_X6_rateWithin_IO {l : Launch} {g : GC} {V : Mem} {L : LMem} (hf : l.stackTraces = false) {x : Int32} (hbad : ¬ (nI 0 ≤ x ∧ x < V 0 2))  : TC l yX6_rateWithin cX6_rateWithin 3 (some .int) 8 g V L [.ref (ad g 223), .int x] xIO V L := by
  refine TC.of [some (.ref (ad g 223)), some (.int x), none] (by decide +kernel) rfl (Nat.le_of_ble_eq_true rfl) (fun p e s m args below meth c C ht => ?_)
  refine j_aload_n C dX6_rateWithin_0 rfl rfl ?_
  refine j_iload_n C dX6_rateWithin_1 rfl rfl ?_
  exact j_xcallV C (oa_X6 (by first | assumption | exact kd_sums (by assumption) | exact kd_st1 (by assumption) | exact kd_st2 (by assumption) | exact kd_ls (by first | assumption | exact kdL (by omega) | exact kdQ (by omega) | rfl) (by assumption) | exact kd_sb (by first | assumption | exact kdL (by omega) | exact kdQ (by omega) | rfl) (by assumption) | exact kd_sv (by assumption) | exact kdL (by omega) | exact kdQ (by omega) | rfl)) rfl rfl (x_X6_demandLease hf hbad) qm_X6_66 qi_X6_demandLease qs_X6_demandLease qn_X6 qc_X6_demandLease fit_X6_demandLease ⟨Nat.le_of_ble_eq_true rfl, Nat.le_of_ble_eq_true rfl, Nat.le_of_ble_eq_true rfl, Nat.le_of_ble_eq_true rfl⟩ (Nat.le_of_ble_eq_true rfl) dX6_rateWithin_2 rfl (j_xout C ht)
set_option maxHeartbeats 4000000 in
theorem x_X6_fairReceipt_IO {l : Launch} {g : GC} {V : Mem} {L : LMem} (hf : l.stackTraces = false) {x : Int32} (hbad : ¬ (nI 0 ≤ x ∧ x < V 0 2)) {t n : Int32}  : TC l yX6_fairReceipt cX6_fairReceipt 5 (some .int) 8 g V L [.ref (ad g 223), .int x, .int t, .int n] xIO V L := by
  refine TC.of [some (.ref (ad g 223)), some (.int x), some (.int t), some (.int n), none] (by decide +kernel) rfl (Nat.le_of_ble_eq_true rfl) (fun p e s m args below meth c C ht => ?_)
  refine j_aload_n C dX6_fairReceipt_0 rfl rfl ?_
  refine j_iload_n C dX6_fairReceipt_1 rfl rfl ?_
  exact j_xcallV C (oa_X6 (by first | assumption | exact kd_sums (by assumption) | exact kd_st1 (by assumption) | exact kd_st2 (by assumption) | exact kd_ls (by first | assumption | exact kdL (by omega) | exact kdQ (by omega) | rfl) (by assumption) | exact kd_sb (by first | assumption | exact kdL (by omega) | exact kdQ (by omega) | rfl) (by assumption) | exact kd_sv (by assumption) | exact kdL (by omega) | exact kdQ (by omega) | rfl)) rfl rfl (x_X6_demandLease hf hbad) qm_X6_66 qi_X6_demandLease qs_X6_demandLease qn_X6 qc_X6_demandLease fit_X6_demandLease ⟨Nat.le_of_ble_eq_true rfl, Nat.le_of_ble_eq_true rfl, Nat.le_of_ble_eq_true rfl, Nat.le_of_ble_eq_true rfl⟩ (Nat.le_of_ble_eq_true rfl) dX6_fairReceipt_2 rfl (j_xout C ht)
set_option maxHeartbeats 4000000 in
theorem x_X6_fairReceipt_IA {l : Launch} {g : GC} {V : Mem} {L : LMem} (hf : l.stackTraces = false) {k nl : Nat} (hI : LC nl V) (hk : k < nl) {t n : Int32} (hbad : ¬ (partR t ∧ termR n)) : TC l yX6_fairReceipt cX6_fairReceipt 5 (some .int) 8 g V L [.ref (ad g 223), .int (nI k), .int t, .int n] xIA V L := by
  refine TC.of [some (.ref (ad g 223)), some (.int (nI k)), some (.int t), some (.int n), none] (by decide +kernel) rfl (Nat.le_of_ble_eq_true rfl) (fun p e s m args below meth c C ht => ?_)
  refine j_aload_n C dX6_fairReceipt_0 rfl rfl ?_
  refine j_iload_n C dX6_fairReceipt_1 rfl rfl ?_
  refine j_callV1r C (oa_X6 (by first | assumption | exact kd_sums (by assumption) | exact kd_st1 (by assumption) | exact kd_st2 (by assumption) | exact kd_ls (by first | assumption | exact kdL (by omega) | exact kdQ (by omega) | rfl) (by assumption) | exact kd_sb (by first | assumption | exact kdL (by omega) | exact kdQ (by omega) | rfl) (by assumption) | exact kd_sv (by assumption) | exact kdL (by omega) | exact kdQ (by omega) | rfl)) rfl rfl (c_X6_demandLease hI hk) qm_X6_66 qi_X6_demandLease qs_X6_demandLease qn_X6 qc_X6_demandLease fit_X6_demandLease ⟨Nat.le_of_ble_eq_true rfl, Nat.le_of_ble_eq_true rfl, Nat.le_of_ble_eq_true rfl, Nat.le_of_ble_eq_true rfl⟩ (Nat.le_of_ble_eq_true rfl) dX6_fairReceipt_2 ?_
  refine j_ast4 C dX6_fairReceipt_5 (Nat.le_of_ble_eq_true rfl) rfl ?_
  refine j_iload_n C dX6_fairReceipt_7 rfl rfl ?_
  refine j_callS1r C (c_X6_isThousandths) qm_X6_96 qt_X6_isThousandths qn_X6 qc_X6_isThousandths fit_X6_isThousandths ⟨Nat.le_of_ble_eq_true rfl, Nat.le_of_ble_eq_true rfl, Nat.le_of_ble_eq_true rfl, Nat.le_of_ble_eq_true rfl⟩ (Nat.le_of_ble_eq_true rfl) dX6_fairReceipt_8 ?_
  refine j_if_eq (tgt := 25) C dX6_fairReceipt_11 (by decide) (fun h11 => ?_) (fun h11 => ?_)
  · replace h11 := b2i_0 h11
    refine j_iconst (v := (nI 0)) C dX6_fairReceipt_25 (by decide) ?_
    exact j_xcallS C (x_X6_demandArguments hf (by first | rfl | exact b2i_z (by assumption))) qm_X6_47 qt_X6_demandArguments qn_X6 qc_X6_demandArguments fit_X6_demandArguments ⟨Nat.le_of_ble_eq_true rfl, Nat.le_of_ble_eq_true rfl, Nat.le_of_ble_eq_true rfl, Nat.le_of_ble_eq_true rfl⟩ (Nat.le_of_ble_eq_true rfl) dX6_fairReceipt_26 rfl (j_xout C ht)
  · replace h11 := b2i_1 h11
    refine j_iload_n C dX6_fairReceipt_14 rfl rfl ?_
    refine j_callS1r C (c_X6_isPeriods) qm_X6_41 qt_X6_isPeriods qn_X6 qc_X6_isPeriods fit_X6_isPeriods ⟨Nat.le_of_ble_eq_true rfl, Nat.le_of_ble_eq_true rfl, Nat.le_of_ble_eq_true rfl, Nat.le_of_ble_eq_true rfl⟩ (Nat.le_of_ble_eq_true rfl) dX6_fairReceipt_15 ?_
    refine j_if_eq (tgt := 25) C dX6_fairReceipt_18 (by decide) (fun h18 => ?_) (fun h18 => ?_)
    · replace h18 := b2i_0 h18
      refine j_iconst (v := (nI 0)) C dX6_fairReceipt_25 (by decide) ?_
      exact j_xcallS C (x_X6_demandArguments hf (by first | rfl | exact b2i_z (by assumption))) qm_X6_47 qt_X6_demandArguments qn_X6 qc_X6_demandArguments fit_X6_demandArguments ⟨Nat.le_of_ble_eq_true rfl, Nat.le_of_ble_eq_true rfl, Nat.le_of_ble_eq_true rfl, Nat.le_of_ble_eq_true rfl⟩ (Nat.le_of_ble_eq_true rfl) dX6_fairReceipt_26 rfl (j_xout C ht)
    · replace h18 := b2i_1 h18
      exfalso
      first | exact hbad ⟨by assumption, by assumption, by assumption, by assumption⟩ | exact hbad ⟨by assumption, by assumption, by assumption⟩ | exact hbad ⟨by assumption, by assumption⟩ | exact hbad (by assumption) | exact absurd (by assumption) hbad
set_option maxHeartbeats 4000000 in
theorem x_X6_sublease_IO {l : Launch} {g : GC} {V : Mem} {L : LMem} (hf : l.stackTraces = false) {x y : Int32} (hbad : ¬ (nI 0 ≤ x ∧ x < V 0 3)) : TC l yX6_sublease cX6_sublease 3 (some .int) 8 g V L [.ref (ad g 223), .int x, .int y] xIO V L := by
  refine TC.of [some (.ref (ad g 223)), some (.int x), some (.int y)] (by decide +kernel) rfl (Nat.le_of_ble_eq_true rfl) (fun p e s m args below meth c C ht => ?_)
  refine j_iload_n C dX6_sublease_0 rfl rfl ?_
  refine j_if_lt (tgt := 19) C dX6_sublease_1 (by decide) (fun h1 => ?_) (fun h1 => ?_)
  · refine j_iconst (v := (nI 0)) C dX6_sublease_19 (by decide) ?_
    exact j_xcallS C (x_X6_demandIndex hf (by first | rfl | exact b2i_z (by assumption))) qm_X6_163 qt_X6_demandIndex qn_X6 qc_X6_demandIndex fit_X6_demandIndex ⟨Nat.le_of_ble_eq_true rfl, Nat.le_of_ble_eq_true rfl, Nat.le_of_ble_eq_true rfl, Nat.le_of_ble_eq_true rfl⟩ (Nat.le_of_ble_eq_true rfl) dX6_sublease_20 rfl (j_xout C ht)
  · refine j_iload_n C dX6_sublease_4 rfl rfl ?_
    refine j_aload_n C dX6_sublease_5 rfl rfl ?_
    refine jg_LeaseBook_now C (by first | assumption | exact kd_sums (by assumption) | exact kd_st1 (by assumption) | exact kd_st2 (by assumption) | exact kd_ls (by first | assumption | exact kdL (by omega) | exact kdQ (by omega) | rfl) (by assumption) | exact kd_sb (by first | assumption | exact kdL (by omega) | exact kdQ (by omega) | rfl) (by assumption) | exact kd_sv (by assumption) | exact kdL (by omega) | exact kdQ (by omega) | rfl) qf_X6_12 dX6_sublease_6 ?_
    refine jg_State_subleaseCount C (by first | assumption | exact kd_sums (by assumption) | exact kd_st1 (by assumption) | exact kd_st2 (by assumption) | exact kd_ls (by first | assumption | exact kdL (by omega) | exact kdQ (by omega) | rfl) (by assumption) | exact kd_sb (by first | assumption | exact kdL (by omega) | exact kdQ (by omega) | rfl) (by assumption) | exact kd_sv (by assumption) | exact kdL (by omega) | exact kdQ (by omega) | rfl) qf_X6_160 dX6_sublease_9 ?_
    refine j_icmp_ge (tgt := 19) C dX6_sublease_12 (by decide) (fun h12 => ?_) (fun h12 => ?_)
    · refine j_iconst (v := (nI 0)) C dX6_sublease_19 (by decide) ?_
      exact j_xcallS C (x_X6_demandIndex hf (by first | rfl | exact b2i_z (by assumption))) qm_X6_163 qt_X6_demandIndex qn_X6 qc_X6_demandIndex fit_X6_demandIndex ⟨Nat.le_of_ble_eq_true rfl, Nat.le_of_ble_eq_true rfl, Nat.le_of_ble_eq_true rfl, Nat.le_of_ble_eq_true rfl⟩ (Nat.le_of_ble_eq_true rfl) dX6_sublease_20 rfl (j_xout C ht)
    · exfalso
      exact hbad ⟨Int32.not_lt.mp h1, Int32.not_le.mp h12⟩
set_option maxHeartbeats 4000000 in
theorem x_X6_sublease_IA {l : Launch} {g : GC} {V : Mem} {L : LMem} (hf : l.stackTraces = false) {x y : Int32} (h1x : nI 0 ≤ x ∧ x < V 0 3) (hbad : ¬ (nI 0 ≤ y ∧ y ≤ nI 5)) : TC l yX6_sublease cX6_sublease 3 (some .int) 8 g V L [.ref (ad g 223), .int x, .int y] xIA V L := by
  refine TC.of [some (.ref (ad g 223)), some (.int x), some (.int y)] (by decide +kernel) rfl (Nat.le_of_ble_eq_true rfl) (fun p e s m args below meth c C ht => ?_)
  refine j_iload_n C dX6_sublease_0 rfl rfl ?_
  refine j_if_lt (tgt := 19) C dX6_sublease_1 (by decide) (fun h1 => (by exact absurd h1x.1 (Int32.not_le.mpr h1))) (fun h1 => ?_)
  refine j_iload_n C dX6_sublease_4 rfl rfl ?_
  refine j_aload_n C dX6_sublease_5 rfl rfl ?_
  refine jg_LeaseBook_now C (by first | assumption | exact kd_sums (by assumption) | exact kd_st1 (by assumption) | exact kd_st2 (by assumption) | exact kd_ls (by first | assumption | exact kdL (by omega) | exact kdQ (by omega) | rfl) (by assumption) | exact kd_sb (by first | assumption | exact kdL (by omega) | exact kdQ (by omega) | rfl) (by assumption) | exact kd_sv (by assumption) | exact kdL (by omega) | exact kdQ (by omega) | rfl) qf_X6_12 dX6_sublease_6 ?_
  refine jg_State_subleaseCount C (by first | assumption | exact kd_sums (by assumption) | exact kd_st1 (by assumption) | exact kd_st2 (by assumption) | exact kd_ls (by first | assumption | exact kdL (by omega) | exact kdQ (by omega) | rfl) (by assumption) | exact kd_sb (by first | assumption | exact kdL (by omega) | exact kdQ (by omega) | rfl) (by assumption) | exact kd_sv (by assumption) | exact kdL (by omega) | exact kdQ (by omega) | rfl) qf_X6_160 dX6_sublease_9 ?_
  refine j_icmp_ge (tgt := 19) C dX6_sublease_12 (by decide) (fun h12 => (by exact absurd h1x.2 (Int32.not_lt.mpr h12))) (fun h12 => ?_)
  refine j_iconst (v := (nI 1)) C dX6_sublease_15 (by decide) ?_
  refine j_goto (tgt := 20) C dX6_sublease_16 (by decide) ?_
  refine j_callS1v C (c_X6_demandIndex (by first | decide | exact b2i_nz (by assumption))) qm_X6_163 qt_X6_demandIndex qn_X6 qc_X6_demandIndex fit_X6_demandIndex ⟨Nat.le_of_ble_eq_true rfl, Nat.le_of_ble_eq_true rfl, Nat.le_of_ble_eq_true rfl, Nat.le_of_ble_eq_true rfl⟩ (Nat.le_of_ble_eq_true rfl) dX6_sublease_20 ?_
  refine j_iload_n C dX6_sublease_23 rfl rfl ?_
  refine j_iconst (v := (nI 0)) C dX6_sublease_24 (by decide) ?_
  refine j_iconst (v := (nI 5)) C dX6_sublease_25 (by decide) ?_
  refine j_callS3r C (c_X6_isWithin) qm_X6_108 qt_X6_isWithin qn_X6 qc_X6_isWithin fit_X6_isWithin ⟨Nat.le_of_ble_eq_true rfl, Nat.le_of_ble_eq_true rfl, Nat.le_of_ble_eq_true rfl, Nat.le_of_ble_eq_true rfl⟩ (Nat.le_of_ble_eq_true rfl) dX6_sublease_26 ?_
  exact j_xcallS C (x_X6_demandArguments hf (by first | rfl | exact b2i_z (by assumption))) qm_X6_47 qt_X6_demandArguments qn_X6 qc_X6_demandArguments fit_X6_demandArguments ⟨Nat.le_of_ble_eq_true rfl, Nat.le_of_ble_eq_true rfl, Nat.le_of_ble_eq_true rfl, Nat.le_of_ble_eq_true rfl⟩ (Nat.le_of_ble_eq_true rfl) dX6_sublease_29 rfl (j_xout C ht)
set_option maxHeartbeats 4000000 in
theorem x_X6_open_IS {l : Launch} {g : GC} {V : Mem} {L : LMem} (hf : l.stackTraces = false) {p1 n r c0 : Int32} (h1a : money p1) (h2a : termR n) (h3a : rateR r) (h4a : money c0) (hbad : ¬ V 0 2 < nI 8) : TC l yX6_open cX6_open 5 (some .int) 8 g V L [.ref (ad g 223), .int p1, .int n, .int r, .int c0] xIS V L := by
  refine TC.of [some (.ref (ad g 223)), some (.int p1), some (.int n), some (.int r), some (.int c0)] (by decide +kernel) rfl (Nat.le_of_ble_eq_true rfl) (fun p e s m args below meth c C ht => ?_)
  refine j_iload_n C dX6_open_0 rfl rfl ?_
  refine j_callS1r C (c_X6_isMoney) qm_X6_37 qt_X6_isMoney qn_X6 qc_X6_isMoney fit_X6_isMoney ⟨Nat.le_of_ble_eq_true rfl, Nat.le_of_ble_eq_true rfl, Nat.le_of_ble_eq_true rfl, Nat.le_of_ble_eq_true rfl⟩ (Nat.le_of_ble_eq_true rfl) dX6_open_1 ?_
  refine j_if_eq (tgt := 33) C dX6_open_4 (by decide) (fun h4 => ?_) (fun h4 => ?_)
  · replace h4 := b2i_0 h4
    exfalso
    first | contradiction
  · replace h4 := b2i_1 h4
    refine j_iload_n C dX6_open_7 rfl rfl ?_
    refine j_callS1r C (c_X6_isPeriods) qm_X6_41 qt_X6_isPeriods qn_X6 qc_X6_isPeriods fit_X6_isPeriods ⟨Nat.le_of_ble_eq_true rfl, Nat.le_of_ble_eq_true rfl, Nat.le_of_ble_eq_true rfl, Nat.le_of_ble_eq_true rfl⟩ (Nat.le_of_ble_eq_true rfl) dX6_open_8 ?_
    refine j_if_eq (tgt := 33) C dX6_open_11 (by decide) (fun h11 => ?_) (fun h11 => ?_)
    · replace h11 := b2i_0 h11
      exfalso
      first | contradiction
    · replace h11 := b2i_1 h11
      refine j_iload_n C dX6_open_14 rfl rfl ?_
      refine j_callS1r C (c_X6_isRate) qm_X6_44 qt_X6_isRate qn_X6 qc_X6_isRate fit_X6_isRate ⟨Nat.le_of_ble_eq_true rfl, Nat.le_of_ble_eq_true rfl, Nat.le_of_ble_eq_true rfl, Nat.le_of_ble_eq_true rfl⟩ (Nat.le_of_ble_eq_true rfl) dX6_open_15 ?_
      refine j_if_eq (tgt := 33) C dX6_open_18 (by decide) (fun h18 => ?_) (fun h18 => ?_)
      · replace h18 := b2i_0 h18
        exfalso
        first | contradiction
      · replace h18 := b2i_1 h18
        refine j_iload C dX6_open_21 rfl ?_
        refine j_callS1r C (c_X6_isMoney) qm_X6_37 qt_X6_isMoney qn_X6 qc_X6_isMoney fit_X6_isMoney ⟨Nat.le_of_ble_eq_true rfl, Nat.le_of_ble_eq_true rfl, Nat.le_of_ble_eq_true rfl, Nat.le_of_ble_eq_true rfl⟩ (Nat.le_of_ble_eq_true rfl) dX6_open_23 ?_
        refine j_if_eq (tgt := 33) C dX6_open_26 (by decide) (fun h26 => ?_) (fun h26 => ?_)
        · replace h26 := b2i_0 h26
          exfalso
          first | contradiction
        · replace h26 := b2i_1 h26
          refine j_iconst (v := (nI 1)) C dX6_open_29 (by decide) ?_
          refine j_goto (tgt := 34) C dX6_open_30 (by decide) ?_
          refine j_callS1v C (c_X6_demandArguments (by first | decide | exact b2i_nz (by assumption))) qm_X6_47 qt_X6_demandArguments qn_X6 qc_X6_demandArguments fit_X6_demandArguments ⟨Nat.le_of_ble_eq_true rfl, Nat.le_of_ble_eq_true rfl, Nat.le_of_ble_eq_true rfl, Nat.le_of_ble_eq_true rfl⟩ (Nat.le_of_ble_eq_true rfl) dX6_open_34 ?_
          refine j_aload_n C dX6_open_37 rfl rfl ?_
          refine jg_LeaseBook_now C (by first | assumption | exact kd_sums (by assumption) | exact kd_st1 (by assumption) | exact kd_st2 (by assumption) | exact kd_ls (by first | assumption | exact kdL (by omega) | exact kdQ (by omega) | rfl) (by assumption) | exact kd_sb (by first | assumption | exact kdL (by omega) | exact kdQ (by omega) | rfl) (by assumption) | exact kd_sv (by assumption) | exact kdL (by omega) | exact kdQ (by omega) | rfl) qf_X6_12 dX6_open_38 ?_
          refine jg_State_leaseCount C (by first | assumption | exact kd_sums (by assumption) | exact kd_st1 (by assumption) | exact kd_st2 (by assumption) | exact kd_ls (by first | assumption | exact kdL (by omega) | exact kdQ (by omega) | rfl) (by assumption) | exact kd_sb (by first | assumption | exact kdL (by omega) | exact kdQ (by omega) | rfl) (by assumption) | exact kd_sv (by assumption) | exact kdL (by omega) | exact kdQ (by omega) | rfl) qf_X6_51 dX6_open_41 ?_
          refine j_bipush (v := (nI 8)) C dX6_open_44 (by decide) ?_
          refine j_icmp_ge (tgt := 53) C dX6_open_46 (by decide) (fun h46 => ?_) (fun h46 => ?_)
          · refine j_iconst (v := (nI 0)) C dX6_open_53 (by decide) ?_
            exact j_xcallS C (x_X6_demandState hf (by first | rfl | exact b2i_z (by assumption))) qm_X6_55 qt_X6_demandState qn_X6 qc_X6_demandState fit_X6_demandState ⟨Nat.le_of_ble_eq_true rfl, Nat.le_of_ble_eq_true rfl, Nat.le_of_ble_eq_true rfl, Nat.le_of_ble_eq_true rfl⟩ (Nat.le_of_ble_eq_true rfl) dX6_open_54 rfl (j_xout C ht)
          · exfalso
            exact h46 (Int32.not_lt.mp hbad)
set_option maxHeartbeats 4000000 in
theorem x_X6_term_IS {l : Launch} {g : GC} {V : Mem} {L : LMem} (hf : l.stackTraces = false) {k nl : Nat} (hI : LC nl V) (hk : k < nl) {n r : Int32} (h1a : termR n) (h2a : rateR r) (hbad : ¬ 0 < V (3 + k) 1) : TC l yX6_term cX6_term 5 (some .int) 8 g V L [.ref (ad g 223), .int (nI k), .int n, .int r] xIS V L := by
  refine TC.of [some (.ref (ad g 223)), some (.int (nI k)), some (.int n), some (.int r), none] (by decide +kernel) rfl (Nat.le_of_ble_eq_true rfl) (fun p e s m args below meth c C ht => ?_)
  have hk8 : k < 8 := Nat.lt_of_lt_of_le hk hI.2
  have hkk := kdL hk8
  refine j_aload_n C dX6_term_0 rfl rfl ?_
  refine j_iload_n C dX6_term_1 rfl rfl ?_
  refine j_callV1r C (oa_X6 (by first | assumption | exact kd_sums (by assumption) | exact kd_st1 (by assumption) | exact kd_st2 (by assumption) | exact kd_ls (by first | assumption | exact kdL (by omega) | exact kdQ (by omega) | rfl) (by assumption) | exact kd_sb (by first | assumption | exact kdL (by omega) | exact kdQ (by omega) | rfl) (by assumption) | exact kd_sv (by assumption) | exact kdL (by omega) | exact kdQ (by omega) | rfl)) rfl rfl (c_X6_demandLease hI hk) qm_X6_66 qi_X6_demandLease qs_X6_demandLease qn_X6 qc_X6_demandLease fit_X6_demandLease ⟨Nat.le_of_ble_eq_true rfl, Nat.le_of_ble_eq_true rfl, Nat.le_of_ble_eq_true rfl, Nat.le_of_ble_eq_true rfl⟩ (Nat.le_of_ble_eq_true rfl) dX6_term_2 ?_
  refine j_ast4 C dX6_term_5 (Nat.le_of_ble_eq_true rfl) rfl ?_
  refine j_iload_n C dX6_term_7 rfl rfl ?_
  refine j_callS1r C (c_X6_isPeriods) qm_X6_41 qt_X6_isPeriods qn_X6 qc_X6_isPeriods fit_X6_isPeriods ⟨Nat.le_of_ble_eq_true rfl, Nat.le_of_ble_eq_true rfl, Nat.le_of_ble_eq_true rfl, Nat.le_of_ble_eq_true rfl⟩ (Nat.le_of_ble_eq_true rfl) dX6_term_8 ?_
  refine j_if_eq (tgt := 25) C dX6_term_11 (by decide) (fun h11 => ?_) (fun h11 => ?_)
  · replace h11 := b2i_0 h11
    exfalso
    first | contradiction
  · replace h11 := b2i_1 h11
    refine j_iload_n C dX6_term_14 rfl rfl ?_
    refine j_callS1r C (c_X6_isRate) qm_X6_44 qt_X6_isRate qn_X6 qc_X6_isRate fit_X6_isRate ⟨Nat.le_of_ble_eq_true rfl, Nat.le_of_ble_eq_true rfl, Nat.le_of_ble_eq_true rfl, Nat.le_of_ble_eq_true rfl⟩ (Nat.le_of_ble_eq_true rfl) dX6_term_15 ?_
    refine j_if_eq (tgt := 25) C dX6_term_18 (by decide) (fun h18 => ?_) (fun h18 => ?_)
    · replace h18 := b2i_0 h18
      exfalso
      first | contradiction
    · replace h18 := b2i_1 h18
      refine j_iconst (v := (nI 1)) C dX6_term_21 (by decide) ?_
      refine j_goto (tgt := 26) C dX6_term_22 (by decide) ?_
      refine j_callS1v C (c_X6_demandArguments (by first | decide | exact b2i_nz (by assumption))) qm_X6_47 qt_X6_demandArguments qn_X6 qc_X6_demandArguments fit_X6_demandArguments ⟨Nat.le_of_ble_eq_true rfl, Nat.le_of_ble_eq_true rfl, Nat.le_of_ble_eq_true rfl, Nat.le_of_ble_eq_true rfl⟩ (Nat.le_of_ble_eq_true rfl) dX6_term_26 ?_
      refine j_aload C dX6_term_29 rfl ?_
      refine j_callV0r C (oa_X2 (by first | assumption | exact kd_sums (by assumption) | exact kd_st1 (by assumption) | exact kd_st2 (by assumption) | exact kd_ls (by first | assumption | exact kdL (by omega) | exact kdQ (by omega) | rfl) (by assumption) | exact kd_sb (by first | assumption | exact kdL (by omega) | exact kdQ (by omega) | rfl) (by assumption) | exact kd_sv (by assumption) | exact kdL (by omega) | exact kdQ (by omega) | rfl)) rfl rfl (c_X2_runs hkk) qm_X6_70 qi_X2_runs qs_X2_runs qn_X2 qc_X2_runs fit_X2_runs ⟨Nat.le_of_ble_eq_true rfl, Nat.le_of_ble_eq_true rfl, Nat.le_of_ble_eq_true rfl, Nat.le_of_ble_eq_true rfl⟩ (Nat.le_of_ble_eq_true rfl) dX6_term_31 ?_
      exact j_xcallS C (x_X6_demandState hf (by first | rfl | exact b2i_z (by assumption))) qm_X6_55 qt_X6_demandState qn_X6 qc_X6_demandState fit_X6_demandState ⟨Nat.le_of_ble_eq_true rfl, Nat.le_of_ble_eq_true rfl, Nat.le_of_ble_eq_true rfl, Nat.le_of_ble_eq_true rfl⟩ (Nat.le_of_ble_eq_true rfl) dX6_term_34 rfl (j_xout C ht)
set_option maxHeartbeats 4000000 in
theorem x_X6_rent_IS {l : Launch} {g : GC} {V : Mem} {L : LMem} (hf : l.stackTraces = false) {k nl : Nat} (hI : LC nl V) (hk : k < nl) {p1 : Int32} (h1a : money p1) (hbad : ¬ 0 < V (3 + k) 1) : TC l yX6_rent cX6_rent 4 (some .int) 8 g V L [.ref (ad g 223), .int (nI k), .int p1] xIS V L := by
  refine TC.of [some (.ref (ad g 223)), some (.int (nI k)), some (.int p1), none] (by decide +kernel) rfl (Nat.le_of_ble_eq_true rfl) (fun p e s m args below meth c C ht => ?_)
  have hk8 : k < 8 := Nat.lt_of_lt_of_le hk hI.2
  have hkk := kdL hk8
  refine j_aload_n C dX6_rent_0 rfl rfl ?_
  refine j_iload_n C dX6_rent_1 rfl rfl ?_
  refine j_callV1r C (oa_X6 (by first | assumption | exact kd_sums (by assumption) | exact kd_st1 (by assumption) | exact kd_st2 (by assumption) | exact kd_ls (by first | assumption | exact kdL (by omega) | exact kdQ (by omega) | rfl) (by assumption) | exact kd_sb (by first | assumption | exact kdL (by omega) | exact kdQ (by omega) | rfl) (by assumption) | exact kd_sv (by assumption) | exact kdL (by omega) | exact kdQ (by omega) | rfl)) rfl rfl (c_X6_demandLease hI hk) qm_X6_66 qi_X6_demandLease qs_X6_demandLease qn_X6 qc_X6_demandLease fit_X6_demandLease ⟨Nat.le_of_ble_eq_true rfl, Nat.le_of_ble_eq_true rfl, Nat.le_of_ble_eq_true rfl, Nat.le_of_ble_eq_true rfl⟩ (Nat.le_of_ble_eq_true rfl) dX6_rent_2 ?_
  refine j_ast3 C dX6_rent_5 rfl (Nat.le_of_ble_eq_true rfl) rfl ?_
  refine j_iload_n C dX6_rent_6 rfl rfl ?_
  refine j_callS1r C (c_X6_isMoney) qm_X6_37 qt_X6_isMoney qn_X6 qc_X6_isMoney fit_X6_isMoney ⟨Nat.le_of_ble_eq_true rfl, Nat.le_of_ble_eq_true rfl, Nat.le_of_ble_eq_true rfl, Nat.le_of_ble_eq_true rfl⟩ (Nat.le_of_ble_eq_true rfl) dX6_rent_7 ?_
  refine j_callS1v C (c_X6_demandArguments (by first | decide | exact b2i_nz (by assumption))) qm_X6_47 qt_X6_demandArguments qn_X6 qc_X6_demandArguments fit_X6_demandArguments ⟨Nat.le_of_ble_eq_true rfl, Nat.le_of_ble_eq_true rfl, Nat.le_of_ble_eq_true rfl, Nat.le_of_ble_eq_true rfl⟩ (Nat.le_of_ble_eq_true rfl) dX6_rent_10 ?_
  refine j_aload_n C dX6_rent_13 rfl rfl ?_
  refine j_callV0r C (oa_X2 (by first | assumption | exact kd_sums (by assumption) | exact kd_st1 (by assumption) | exact kd_st2 (by assumption) | exact kd_ls (by first | assumption | exact kdL (by omega) | exact kdQ (by omega) | rfl) (by assumption) | exact kd_sb (by first | assumption | exact kdL (by omega) | exact kdQ (by omega) | rfl) (by assumption) | exact kd_sv (by assumption) | exact kdL (by omega) | exact kdQ (by omega) | rfl)) rfl rfl (c_X2_runs hkk) qm_X6_70 qi_X2_runs qs_X2_runs qn_X2 qc_X2_runs fit_X2_runs ⟨Nat.le_of_ble_eq_true rfl, Nat.le_of_ble_eq_true rfl, Nat.le_of_ble_eq_true rfl, Nat.le_of_ble_eq_true rfl⟩ (Nat.le_of_ble_eq_true rfl) dX6_rent_14 ?_
  exact j_xcallS C (x_X6_demandState hf (by first | rfl | exact b2i_z (by assumption))) qm_X6_55 qt_X6_demandState qn_X6 qc_X6_demandState fit_X6_demandState ⟨Nat.le_of_ble_eq_true rfl, Nat.le_of_ble_eq_true rfl, Nat.le_of_ble_eq_true rfl, Nat.le_of_ble_eq_true rfl⟩ (Nat.le_of_ble_eq_true rfl) dX6_rent_17 rfl (j_xout C ht)
set_option maxHeartbeats 4000000 in
theorem x_X6_endPart_IS {l : Launch} {g : GC} {V : Mem} {L : LMem} (hf : l.stackTraces = false) {k nl : Nat} (hI : LC nl V) (hk : k < nl) {t fee : Int32} {ns : Nat} (hS : SC ns V) (h1a : partR t) (h2a : money fee) (hbad : ¬ (0 < V (3 + k) 1 ∧ cRunOf V ns k = 0)) : TC l yX6_endPart cX6_endPart 5 (some .int) 8 g V L [.ref (ad g 223), .int (nI k), .int t, .int fee] xIS V L := by
  refine TC.of [some (.ref (ad g 223)), some (.int (nI k)), some (.int t), some (.int fee), none] (by decide +kernel) rfl (Nat.le_of_ble_eq_true rfl) (fun p e s m args below meth c C ht => ?_)
  have hk8 : k < 8 := Nat.lt_of_lt_of_le hk hI.2
  have hkk := kdL hk8
  refine j_aload_n C dX6_endPart_0 rfl rfl ?_
  refine j_iload_n C dX6_endPart_1 rfl rfl ?_
  refine j_callV1r C (oa_X6 (by first | assumption | exact kd_sums (by assumption) | exact kd_st1 (by assumption) | exact kd_st2 (by assumption) | exact kd_ls (by first | assumption | exact kdL (by omega) | exact kdQ (by omega) | rfl) (by assumption) | exact kd_sb (by first | assumption | exact kdL (by omega) | exact kdQ (by omega) | rfl) (by assumption) | exact kd_sv (by assumption) | exact kdL (by omega) | exact kdQ (by omega) | rfl)) rfl rfl (c_X6_demandLease hI hk) qm_X6_66 qi_X6_demandLease qs_X6_demandLease qn_X6 qc_X6_demandLease fit_X6_demandLease ⟨Nat.le_of_ble_eq_true rfl, Nat.le_of_ble_eq_true rfl, Nat.le_of_ble_eq_true rfl, Nat.le_of_ble_eq_true rfl⟩ (Nat.le_of_ble_eq_true rfl) dX6_endPart_2 ?_
  refine j_ast4 C dX6_endPart_5 (Nat.le_of_ble_eq_true rfl) rfl ?_
  refine j_iload_n C dX6_endPart_7 rfl rfl ?_
  refine j_callS1r C (c_X6_isThousandths) qm_X6_96 qt_X6_isThousandths qn_X6 qc_X6_isThousandths fit_X6_isThousandths ⟨Nat.le_of_ble_eq_true rfl, Nat.le_of_ble_eq_true rfl, Nat.le_of_ble_eq_true rfl, Nat.le_of_ble_eq_true rfl⟩ (Nat.le_of_ble_eq_true rfl) dX6_endPart_8 ?_
  refine j_if_eq (tgt := 25) C dX6_endPart_11 (by decide) (fun h11 => ?_) (fun h11 => ?_)
  · replace h11 := b2i_0 h11
    exfalso
    first | contradiction
  · replace h11 := b2i_1 h11
    refine j_iload_n C dX6_endPart_14 rfl rfl ?_
    refine j_callS1r C (c_X6_isMoney) qm_X6_37 qt_X6_isMoney qn_X6 qc_X6_isMoney fit_X6_isMoney ⟨Nat.le_of_ble_eq_true rfl, Nat.le_of_ble_eq_true rfl, Nat.le_of_ble_eq_true rfl, Nat.le_of_ble_eq_true rfl⟩ (Nat.le_of_ble_eq_true rfl) dX6_endPart_15 ?_
    refine j_if_eq (tgt := 25) C dX6_endPart_18 (by decide) (fun h18 => ?_) (fun h18 => ?_)
    · replace h18 := b2i_0 h18
      exfalso
      first | contradiction
    · replace h18 := b2i_1 h18
      refine j_iconst (v := (nI 1)) C dX6_endPart_21 (by decide) ?_
      refine j_goto (tgt := 26) C dX6_endPart_22 (by decide) ?_
      refine j_callS1v C (c_X6_demandArguments (by first | decide | exact b2i_nz (by assumption))) qm_X6_47 qt_X6_demandArguments qn_X6 qc_X6_demandArguments fit_X6_demandArguments ⟨Nat.le_of_ble_eq_true rfl, Nat.le_of_ble_eq_true rfl, Nat.le_of_ble_eq_true rfl, Nat.le_of_ble_eq_true rfl⟩ (Nat.le_of_ble_eq_true rfl) dX6_endPart_26 ?_
      refine j_aload C dX6_endPart_29 rfl ?_
      refine j_callV0r C (oa_X2 (by first | assumption | exact kd_sums (by assumption) | exact kd_st1 (by assumption) | exact kd_st2 (by assumption) | exact kd_ls (by first | assumption | exact kdL (by omega) | exact kdQ (by omega) | rfl) (by assumption) | exact kd_sb (by first | assumption | exact kdL (by omega) | exact kdQ (by omega) | rfl) (by assumption) | exact kd_sv (by assumption) | exact kdL (by omega) | exact kdQ (by omega) | rfl)) rfl rfl (c_X2_runs hkk) qm_X6_70 qi_X2_runs qs_X2_runs qn_X2 qc_X2_runs fit_X2_runs ⟨Nat.le_of_ble_eq_true rfl, Nat.le_of_ble_eq_true rfl, Nat.le_of_ble_eq_true rfl, Nat.le_of_ble_eq_true rfl⟩ (Nat.le_of_ble_eq_true rfl) dX6_endPart_31 ?_
      refine j_if_eq (tgt := 52) C dX6_endPart_34 (by decide) (fun h34 => ?_) (fun h34 => ?_)
      · replace h34 := b2i_0 h34
        refine j_iconst (v := (nI 0)) C dX6_endPart_52 (by decide) ?_
        exact j_xcallS C (x_X6_demandState hf (by first | rfl | exact b2i_z (by assumption))) qm_X6_55 qt_X6_demandState qn_X6 qc_X6_demandState fit_X6_demandState ⟨Nat.le_of_ble_eq_true rfl, Nat.le_of_ble_eq_true rfl, Nat.le_of_ble_eq_true rfl, Nat.le_of_ble_eq_true rfl⟩ (Nat.le_of_ble_eq_true rfl) dX6_endPart_53 rfl (j_xout C ht)
      · replace h34 := b2i_1 h34
        refine j_aload_n C dX6_endPart_37 rfl rfl ?_
        refine jg_LeaseBook_now C (by first | assumption | exact kd_sums (by assumption) | exact kd_st1 (by assumption) | exact kd_st2 (by assumption) | exact kd_ls (by first | assumption | exact kdL (by omega) | exact kdQ (by omega) | rfl) (by assumption) | exact kd_sb (by first | assumption | exact kdL (by omega) | exact kdQ (by omega) | rfl) (by assumption) | exact kd_sv (by assumption) | exact kdL (by omega) | exact kdQ (by omega) | rfl) qf_X6_12 dX6_endPart_38 ?_
        refine j_iload_n C dX6_endPart_41 rfl rfl ?_
        refine j_callV1r C (oa_X4 (by first | assumption | exact kd_sums (by assumption) | exact kd_st1 (by assumption) | exact kd_st2 (by assumption) | exact kd_ls (by first | assumption | exact kdL (by omega) | exact kdQ (by omega) | rfl) (by assumption) | exact kd_sb (by first | assumption | exact kdL (by omega) | exact kdQ (by omega) | rfl) (by assumption) | exact kd_sv (by assumption) | exact kdL (by omega) | exact kdQ (by omega) | rfl)) rfl rfl (c_X4_runningOf hS) qm_X6_99 qi_X4_runningOf qs_X4_runningOf qn_X4 qc_X4_runningOf fit_X4_runningOf ⟨Nat.le_of_ble_eq_true rfl, Nat.le_of_ble_eq_true rfl, Nat.le_of_ble_eq_true rfl, Nat.le_of_ble_eq_true rfl⟩ (Nat.le_of_ble_eq_true rfl) dX6_endPart_42 ?_
        refine j_if_ne (tgt := 52) C dX6_endPart_45 (by decide) (fun h45 => ?_) (fun h45 => ?_)
        · refine j_iconst (v := (nI 0)) C dX6_endPart_52 (by decide) ?_
          exact j_xcallS C (x_X6_demandState hf (by first | rfl | exact b2i_z (by assumption))) qm_X6_55 qt_X6_demandState qn_X6 qc_X6_demandState fit_X6_demandState ⟨Nat.le_of_ble_eq_true rfl, Nat.le_of_ble_eq_true rfl, Nat.le_of_ble_eq_true rfl, Nat.le_of_ble_eq_true rfl⟩ (Nat.le_of_ble_eq_true rfl) dX6_endPart_53 rfl (j_xout C ht)
        · exfalso
          first | exact hbad ⟨by assumption, by assumption, by assumption, by assumption⟩ | exact hbad ⟨by assumption, by assumption, by assumption⟩ | exact hbad ⟨by assumption, by assumption⟩ | exact hbad (by assumption) | exact absurd (by assumption) hbad
set_option maxHeartbeats 4000000 in
theorem x_X6_impair_IS {l : Launch} {g : GC} {V : Mem} {L : LMem} (hf : l.stackTraces = false) {k nl : Nat} (hI : LC nl V) (hk : k < nl) {a1 : Int32} (h1a : nI 1 ≤ a1 ∧ a1 ≤ nI 1000000) (hbad : ¬ a1 ≤ V (3 + k) 4) : TC l yX6_impair cX6_impair 4 (some .int) 8 g V L [.ref (ad g 223), .int (nI k), .int a1] xIS V L := by
  refine TC.of [some (.ref (ad g 223)), some (.int (nI k)), some (.int a1), none] (by decide +kernel) rfl (Nat.le_of_ble_eq_true rfl) (fun p e s m args below meth c C ht => ?_)
  have hk8 : k < 8 := Nat.lt_of_lt_of_le hk hI.2
  have hkk := kdL hk8
  refine j_aload_n C dX6_impair_0 rfl rfl ?_
  refine j_iload_n C dX6_impair_1 rfl rfl ?_
  refine j_callV1r C (oa_X6 (by first | assumption | exact kd_sums (by assumption) | exact kd_st1 (by assumption) | exact kd_st2 (by assumption) | exact kd_ls (by first | assumption | exact kdL (by omega) | exact kdQ (by omega) | rfl) (by assumption) | exact kd_sb (by first | assumption | exact kdL (by omega) | exact kdQ (by omega) | rfl) (by assumption) | exact kd_sv (by assumption) | exact kdL (by omega) | exact kdQ (by omega) | rfl)) rfl rfl (c_X6_demandLease hI hk) qm_X6_66 qi_X6_demandLease qs_X6_demandLease qn_X6 qc_X6_demandLease fit_X6_demandLease ⟨Nat.le_of_ble_eq_true rfl, Nat.le_of_ble_eq_true rfl, Nat.le_of_ble_eq_true rfl, Nat.le_of_ble_eq_true rfl⟩ (Nat.le_of_ble_eq_true rfl) dX6_impair_2 ?_
  refine j_ast3 C dX6_impair_5 rfl (Nat.le_of_ble_eq_true rfl) rfl ?_
  refine j_iload_n C dX6_impair_6 rfl rfl ?_
  refine j_iconst (v := (nI 1)) C dX6_impair_7 (by decide) ?_
  refine j_ldc (v := nI 1000000) C qk_X6_107 dX6_impair_8 ?_
  refine j_callS3r C (c_X6_isWithin) qm_X6_108 qt_X6_isWithin qn_X6 qc_X6_isWithin fit_X6_isWithin ⟨Nat.le_of_ble_eq_true rfl, Nat.le_of_ble_eq_true rfl, Nat.le_of_ble_eq_true rfl, Nat.le_of_ble_eq_true rfl⟩ (Nat.le_of_ble_eq_true rfl) dX6_impair_10 ?_
  refine j_callS1v C (c_X6_demandArguments (by first | decide | exact b2i_nz (by assumption))) qm_X6_47 qt_X6_demandArguments qn_X6 qc_X6_demandArguments fit_X6_demandArguments ⟨Nat.le_of_ble_eq_true rfl, Nat.le_of_ble_eq_true rfl, Nat.le_of_ble_eq_true rfl, Nat.le_of_ble_eq_true rfl⟩ (Nat.le_of_ble_eq_true rfl) dX6_impair_13 ?_
  refine j_aload_n C dX6_impair_16 rfl rfl ?_
  refine jg_Lease_asset C (by first | assumption | exact kd_sums (by assumption) | exact kd_st1 (by assumption) | exact kd_st2 (by assumption) | exact kd_ls (by first | assumption | exact kdL (by omega) | exact kdQ (by omega) | rfl) (by assumption) | exact kd_sb (by first | assumption | exact kdL (by omega) | exact kdQ (by omega) | rfl) (by assumption) | exact kd_sv (by assumption) | exact kdL (by omega) | exact kdQ (by omega) | rfl) qf_X6_112 dX6_impair_17 ?_
  refine j_iload_n C dX6_impair_20 rfl rfl ?_
  refine j_icmp_lt (tgt := 28) C dX6_impair_21 (by decide) (fun h21 => ?_) (fun h21 => ?_)
  · refine j_iconst (v := (nI 0)) C dX6_impair_28 (by decide) ?_
    exact j_xcallS C (x_X6_demandState hf (by first | rfl | exact b2i_z (by assumption))) qm_X6_55 qt_X6_demandState qn_X6 qc_X6_demandState fit_X6_demandState ⟨Nat.le_of_ble_eq_true rfl, Nat.le_of_ble_eq_true rfl, Nat.le_of_ble_eq_true rfl, Nat.le_of_ble_eq_true rfl⟩ (Nat.le_of_ble_eq_true rfl) dX6_impair_29 rfl (j_xout C ht)
  · exfalso
    exact hbad (Int32.not_lt.mp h21)
set_option maxHeartbeats 4000000 in
theorem x_X6_sublet_IS {l : Launch} {g : GC} {V : Mem} {L : LMem} (hf : l.stackTraces = false) {k nl : Nat} (hI : LC nl V) (hk : k < nl) {t rc n : Int32} {ns : Nat} (hS : SC ns V) (h1a : partR t) (h2a : money rc) (h3a : termR n) (hbad : ¬ (n ≤ V (3 + k) 1 ∧ V 0 3 < nI 12 ∧ cSub V ns k 1 + t ≤ nI 1000)) : TC l yX6_sublet cX6_sublet 6 (some .int) 8 g V L [.ref (ad g 223), .int (nI k), .int t, .int rc, .int n] xIS V L := by
  refine TC.of [some (.ref (ad g 223)), some (.int (nI k)), some (.int t), some (.int rc), some (.int n), none] (by decide +kernel) rfl (Nat.le_of_ble_eq_true rfl) (fun p e s m args below meth c C ht => ?_)
  refine j_aload_n C dX6_sublet_0 rfl rfl ?_
  refine j_iload_n C dX6_sublet_1 rfl rfl ?_
  refine j_callV1r C (oa_X6 (by first | assumption | exact kd_sums (by assumption) | exact kd_st1 (by assumption) | exact kd_st2 (by assumption) | exact kd_ls (by first | assumption | exact kdL (by omega) | exact kdQ (by omega) | rfl) (by assumption) | exact kd_sb (by first | assumption | exact kdL (by omega) | exact kdQ (by omega) | rfl) (by assumption) | exact kd_sv (by assumption) | exact kdL (by omega) | exact kdQ (by omega) | rfl)) rfl rfl (c_X6_demandLease hI hk) qm_X6_66 qi_X6_demandLease qs_X6_demandLease qn_X6 qc_X6_demandLease fit_X6_demandLease ⟨Nat.le_of_ble_eq_true rfl, Nat.le_of_ble_eq_true rfl, Nat.le_of_ble_eq_true rfl, Nat.le_of_ble_eq_true rfl⟩ (Nat.le_of_ble_eq_true rfl) dX6_sublet_2 ?_
  refine j_ast5 C dX6_sublet_5 (Nat.le_of_ble_eq_true rfl) rfl ?_
  refine j_iload_n C dX6_sublet_7 rfl rfl ?_
  refine j_callS1r C (c_X6_isThousandths) qm_X6_96 qt_X6_isThousandths qn_X6 qc_X6_isThousandths fit_X6_isThousandths ⟨Nat.le_of_ble_eq_true rfl, Nat.le_of_ble_eq_true rfl, Nat.le_of_ble_eq_true rfl, Nat.le_of_ble_eq_true rfl⟩ (Nat.le_of_ble_eq_true rfl) dX6_sublet_8 ?_
  refine j_if_eq (tgt := 33) C dX6_sublet_11 (by decide) (fun h11 => ?_) (fun h11 => ?_)
  · replace h11 := b2i_0 h11
    exfalso
    first | contradiction
  · replace h11 := b2i_1 h11
    refine j_iload_n C dX6_sublet_14 rfl rfl ?_
    refine j_callS1r C (c_X6_isMoney) qm_X6_37 qt_X6_isMoney qn_X6 qc_X6_isMoney fit_X6_isMoney ⟨Nat.le_of_ble_eq_true rfl, Nat.le_of_ble_eq_true rfl, Nat.le_of_ble_eq_true rfl, Nat.le_of_ble_eq_true rfl⟩ (Nat.le_of_ble_eq_true rfl) dX6_sublet_15 ?_
    refine j_if_eq (tgt := 33) C dX6_sublet_18 (by decide) (fun h18 => ?_) (fun h18 => ?_)
    · replace h18 := b2i_0 h18
      exfalso
      first | contradiction
    · replace h18 := b2i_1 h18
      refine j_iload C dX6_sublet_21 rfl ?_
      refine j_callS1r C (c_X6_isPeriods) qm_X6_41 qt_X6_isPeriods qn_X6 qc_X6_isPeriods fit_X6_isPeriods ⟨Nat.le_of_ble_eq_true rfl, Nat.le_of_ble_eq_true rfl, Nat.le_of_ble_eq_true rfl, Nat.le_of_ble_eq_true rfl⟩ (Nat.le_of_ble_eq_true rfl) dX6_sublet_23 ?_
      refine j_if_eq (tgt := 33) C dX6_sublet_26 (by decide) (fun h26 => ?_) (fun h26 => ?_)
      · replace h26 := b2i_0 h26
        exfalso
        first | contradiction
      · replace h26 := b2i_1 h26
        refine j_iconst (v := (nI 1)) C dX6_sublet_29 (by decide) ?_
        refine j_goto (tgt := 34) C dX6_sublet_30 (by decide) ?_
        refine j_callS1v C (c_X6_demandArguments (by first | decide | exact b2i_nz (by assumption))) qm_X6_47 qt_X6_demandArguments qn_X6 qc_X6_demandArguments fit_X6_demandArguments ⟨Nat.le_of_ble_eq_true rfl, Nat.le_of_ble_eq_true rfl, Nat.le_of_ble_eq_true rfl, Nat.le_of_ble_eq_true rfl⟩ (Nat.le_of_ble_eq_true rfl) dX6_sublet_34 ?_
        refine j_aload_n C dX6_sublet_37 rfl rfl ?_
        refine jg_LeaseBook_now C (by first | assumption | exact kd_sums (by assumption) | exact kd_st1 (by assumption) | exact kd_st2 (by assumption) | exact kd_ls (by first | assumption | exact kdL (by omega) | exact kdQ (by omega) | rfl) (by assumption) | exact kd_sb (by first | assumption | exact kdL (by omega) | exact kdQ (by omega) | rfl) (by assumption) | exact kd_sv (by assumption) | exact kdL (by omega) | exact kdQ (by omega) | rfl) qf_X6_12 dX6_sublet_38 ?_
        refine j_iload_n C dX6_sublet_41 rfl rfl ?_
        refine j_iload_n C dX6_sublet_42 rfl rfl ?_
        refine j_iload C dX6_sublet_43 rfl ?_
        refine j_callV3r C (oa_X4 (by first | assumption | exact kd_sums (by assumption) | exact kd_st1 (by assumption) | exact kd_st2 (by assumption) | exact kd_ls (by first | assumption | exact kdL (by omega) | exact kdQ (by omega) | rfl) (by assumption) | exact kd_sb (by first | assumption | exact kdL (by omega) | exact kdQ (by omega) | rfl) (by assumption) | exact kd_sv (by assumption) | exact kdL (by omega) | exact kdQ (by omega) | rfl)) rfl rfl (c_X4_canSublet hI hS hk) qm_X6_119 qi_X4_canSublet qs_X4_canSublet qn_X4 qc_X4_canSublet fit_X4_canSublet ⟨Nat.le_of_ble_eq_true rfl, Nat.le_of_ble_eq_true rfl, Nat.le_of_ble_eq_true rfl, Nat.le_of_ble_eq_true rfl⟩ (Nat.le_of_ble_eq_true rfl) dX6_sublet_45 ?_
        exact j_xcallS C (x_X6_demandState hf (by first | rfl | exact b2i_z (by assumption))) qm_X6_55 qt_X6_demandState qn_X6 qc_X6_demandState fit_X6_demandState ⟨Nat.le_of_ble_eq_true rfl, Nat.le_of_ble_eq_true rfl, Nat.le_of_ble_eq_true rfl, Nat.le_of_ble_eq_true rfl⟩ (Nat.le_of_ble_eq_true rfl) dX6_sublet_48 rfl (j_xout C ht)
set_option maxHeartbeats 4000000 in
theorem x_X6_pass_IS {l : Launch} {g : GC} {V : Mem} {L : LMem} (hf : l.stackTraces = false) {n : Int32} (h1a : termR n) (hbad : ¬ V 0 4 + n ≤ nI 2000) : TC l yX6_pass cX6_pass 2 (some .int) 8 g V L [.ref (ad g 223), .int n] xIS V L := by
  refine TC.of [some (.ref (ad g 223)), some (.int n)] (by decide +kernel) rfl (Nat.le_of_ble_eq_true rfl) (fun p e s m args below meth c C ht => ?_)
  refine j_iload_n C dX6_pass_0 rfl rfl ?_
  refine j_callS1r C (c_X6_isPeriods) qm_X6_41 qt_X6_isPeriods qn_X6 qc_X6_isPeriods fit_X6_isPeriods ⟨Nat.le_of_ble_eq_true rfl, Nat.le_of_ble_eq_true rfl, Nat.le_of_ble_eq_true rfl, Nat.le_of_ble_eq_true rfl⟩ (Nat.le_of_ble_eq_true rfl) dX6_pass_1 ?_
  refine j_callS1v C (c_X6_demandArguments (by first | decide | exact b2i_nz (by assumption))) qm_X6_47 qt_X6_demandArguments qn_X6 qc_X6_demandArguments fit_X6_demandArguments ⟨Nat.le_of_ble_eq_true rfl, Nat.le_of_ble_eq_true rfl, Nat.le_of_ble_eq_true rfl, Nat.le_of_ble_eq_true rfl⟩ (Nat.le_of_ble_eq_true rfl) dX6_pass_4 ?_
  refine j_aload_n C dX6_pass_7 rfl rfl ?_
  refine jg_LeaseBook_now C (by first | assumption | exact kd_sums (by assumption) | exact kd_st1 (by assumption) | exact kd_st2 (by assumption) | exact kd_ls (by first | assumption | exact kdL (by omega) | exact kdQ (by omega) | rfl) (by assumption) | exact kd_sb (by first | assumption | exact kdL (by omega) | exact kdQ (by omega) | rfl) (by assumption) | exact kd_sv (by assumption) | exact kdL (by omega) | exact kdQ (by omega) | rfl) qf_X6_12 dX6_pass_8 ?_
  refine jg_State_period C (by first | assumption | exact kd_sums (by assumption) | exact kd_st1 (by assumption) | exact kd_st2 (by assumption) | exact kd_ls (by first | assumption | exact kdL (by omega) | exact kdQ (by omega) | rfl) (by assumption) | exact kd_sb (by first | assumption | exact kdL (by omega) | exact kdQ (by omega) | rfl) (by assumption) | exact kd_sv (by assumption) | exact kdL (by omega) | exact kdQ (by omega) | rfl) qf_X6_126 dX6_pass_11 ?_
  refine j_iload_n C dX6_pass_14 rfl rfl ?_
  refine j_iadd C dX6_pass_15 ?_
  refine j_sipush (v := (nI 2000)) C dX6_pass_16 (by decide) ?_
  refine j_icmp_gt (tgt := 26) C dX6_pass_19 (by decide) (fun h19 => ?_) (fun h19 => ?_)
  · refine j_iconst (v := (nI 0)) C dX6_pass_26 (by decide) ?_
    exact j_xcallS C (x_X6_demandState hf (by first | rfl | exact b2i_z (by assumption))) qm_X6_55 qt_X6_demandState qn_X6 qc_X6_demandState fit_X6_demandState ⟨Nat.le_of_ble_eq_true rfl, Nat.le_of_ble_eq_true rfl, Nat.le_of_ble_eq_true rfl, Nat.le_of_ble_eq_true rfl⟩ (Nat.le_of_ble_eq_true rfl) dX6_pass_27 rfl (j_xout C ht)
  · exfalso
    exact hbad (Int32.not_lt.mp h19)
set_option maxHeartbeats 4000000 in
theorem x_X6_append_IS {l : Launch} {g : GC} {V : Mem} {L : LMem} (hf : l.stackTraces = false) {x : Int32} (h1a : nI 33 ≤ x ∧ x ≤ nI 126) (hbad : ¬ V 219 1 < nI 60) : TC l yX6_append cX6_append 2 (some .int) 8 g V L [.ref (ad g 223), .int x] xIS V L := by
  refine TC.of [some (.ref (ad g 223)), some (.int x)] (by decide +kernel) rfl (Nat.le_of_ble_eq_true rfl) (fun p e s m args below meth c C ht => ?_)
  refine j_iload_n C dX6_append_0 rfl rfl ?_
  refine j_bipush (v := (nI 33)) C dX6_append_1 (by decide) ?_
  refine j_bipush (v := (nI 126)) C dX6_append_3 (by decide) ?_
  refine j_callS3r C (c_X6_isWithin) qm_X6_108 qt_X6_isWithin qn_X6 qc_X6_isWithin fit_X6_isWithin ⟨Nat.le_of_ble_eq_true rfl, Nat.le_of_ble_eq_true rfl, Nat.le_of_ble_eq_true rfl, Nat.le_of_ble_eq_true rfl⟩ (Nat.le_of_ble_eq_true rfl) dX6_append_5 ?_
  refine j_callS1v C (c_X6_demandArguments (by first | decide | exact b2i_nz (by assumption))) qm_X6_47 qt_X6_demandArguments qn_X6 qc_X6_demandArguments fit_X6_demandArguments ⟨Nat.le_of_ble_eq_true rfl, Nat.le_of_ble_eq_true rfl, Nat.le_of_ble_eq_true rfl, Nat.le_of_ble_eq_true rfl⟩ (Nat.le_of_ble_eq_true rfl) dX6_append_8 ?_
  refine j_aload_n C dX6_append_11 rfl rfl ?_
  refine jg_LeaseBook_text C (by first | assumption | exact kd_sums (by assumption) | exact kd_st1 (by assumption) | exact kd_st2 (by assumption) | exact kd_ls (by first | assumption | exact kdL (by omega) | exact kdQ (by omega) | rfl) (by assumption) | exact kd_sb (by first | assumption | exact kdL (by omega) | exact kdQ (by omega) | rfl) (by assumption) | exact kd_sv (by assumption) | exact kdL (by omega) | exact kdQ (by omega) | rfl) qf_X6_26 dX6_append_12 ?_
  refine jg_InputText_length C (by first | assumption | exact kd_sums (by assumption) | exact kd_st1 (by assumption) | exact kd_st2 (by assumption) | exact kd_ls (by first | assumption | exact kdL (by omega) | exact kdQ (by omega) | rfl) (by assumption) | exact kd_sb (by first | assumption | exact kdL (by omega) | exact kdQ (by omega) | rfl) (by assumption) | exact kd_sv (by assumption) | exact kdL (by omega) | exact kdQ (by omega) | rfl) qf_X6_132 dX6_append_15 ?_
  refine j_bipush (v := (nI 60)) C dX6_append_18 (by decide) ?_
  refine j_icmp_ge (tgt := 27) C dX6_append_20 (by decide) (fun h20 => ?_) (fun h20 => ?_)
  · refine j_iconst (v := (nI 0)) C dX6_append_27 (by decide) ?_
    exact j_xcallS C (x_X6_demandState hf (by first | rfl | exact b2i_z (by assumption))) qm_X6_55 qt_X6_demandState qn_X6 qc_X6_demandState fit_X6_demandState ⟨Nat.le_of_ble_eq_true rfl, Nat.le_of_ble_eq_true rfl, Nat.le_of_ble_eq_true rfl, Nat.le_of_ble_eq_true rfl⟩ (Nat.le_of_ble_eq_true rfl) dX6_append_28 rfl (j_xout C ht)
  · exfalso
    exact hbad (Int32.not_le.mp h20)
set_option maxHeartbeats 4000000 in
theorem x_X6_undo_IS {l : Launch} {g : GC} {V : Mem} {L : LMem} (hf : l.stackTraces = false) (hbad : ¬ 0 < V 217 2) : TC l yX6_undo cX6_undo 1 (some .int) 8 g V L [.ref (ad g 223)] xIS V L := by
  refine TC.of [some (.ref (ad g 223))] (by decide +kernel) rfl (Nat.le_of_ble_eq_true rfl) (fun p e s m args below meth c C ht => ?_)
  refine j_aload_n C dX6_undo_0 rfl rfl ?_
  refine jg_LeaseBook_history C (by first | assumption | exact kd_sums (by assumption) | exact kd_st1 (by assumption) | exact kd_st2 (by assumption) | exact kd_ls (by first | assumption | exact kdL (by omega) | exact kdQ (by omega) | rfl) (by assumption) | exact kd_sb (by first | assumption | exact kdL (by omega) | exact kdQ (by omega) | rfl) (by assumption) | exact kd_sv (by assumption) | exact kdL (by omega) | exact kdQ (by omega) | rfl) qf_X6_19 dX6_undo_1 ?_
  refine jg_History_size C (by first | assumption | exact kd_sums (by assumption) | exact kd_st1 (by assumption) | exact kd_st2 (by assumption) | exact kd_ls (by first | assumption | exact kdL (by omega) | exact kdQ (by omega) | rfl) (by assumption) | exact kd_sb (by first | assumption | exact kdL (by omega) | exact kdQ (by omega) | rfl) (by assumption) | exact kd_sv (by assumption) | exact kdL (by omega) | exact kdQ (by omega) | rfl) qf_X6_151 dX6_undo_4 ?_
  refine j_if_le (tgt := 14) C dX6_undo_7 (by decide) (fun h7 => ?_) (fun h7 => ?_)
  · refine j_iconst (v := (nI 0)) C dX6_undo_14 (by decide) ?_
    exact j_xcallS C (x_X6_demandState hf (by first | rfl | exact b2i_z (by assumption))) qm_X6_55 qt_X6_demandState qn_X6 qc_X6_demandState fit_X6_demandState ⟨Nat.le_of_ble_eq_true rfl, Nat.le_of_ble_eq_true rfl, Nat.le_of_ble_eq_true rfl, Nat.le_of_ble_eq_true rfl⟩ (Nat.le_of_ble_eq_true rfl) dX6_undo_15 rfl (j_xout C ht)
  · exfalso
    exact hbad (Int32.not_le.mp h7)
set_option maxHeartbeats 4000000 in
theorem x_X6_openAll_IA {l : Launch} {g : GC} {V : Mem} {L : LMem} (hf : l.stackTraces = false) {m0 : Nat} (hm : V 219 1 = nI m0) (h60 : m0 ≤ 60) (hbad : ¬ rdOk m0 V) : TC l yX6_openAll cX6_openAll 2 (some .int) 8 g V L [.ref (ad g 223)] xIA (rdA m0 V).2 L := by
  refine TC.of [some (.ref (ad g 223)), none] (by decide +kernel) rfl (Nat.le_of_ble_eq_true rfl) (fun p e s m args below meth c C ht => ?_)
  have hmW : (rdA m0 V).2 219 1 = nI m0 := by rw [rdA_o (by omega) (by omega)]; exact hm
  have hle : (rdA m0 V).1 ≤ m0 := by have := rdL_le m0 0 (rdR V); unfold rdA; omega
  refine j_aload_n C dX6_openAll_0 rfl rfl ?_
  refine jg_LeaseBook_reader C (by first | assumption | exact kd_sums (by assumption) | exact kd_st1 (by assumption) | exact kd_st2 (by assumption) | exact kd_ls (by first | assumption | exact kdL (by omega) | exact kdQ (by omega) | rfl) (by assumption) | exact kd_sb (by first | assumption | exact kdL (by omega) | exact kdQ (by omega) | rfl) (by assumption) | exact kd_sv (by assumption) | exact kdL (by omega) | exact kdQ (by omega) | rfl) qf_X6_33 dX6_openAll_1 ?_
  refine j_aload_n C dX6_openAll_4 rfl rfl ?_
  refine jg_LeaseBook_text C (by first | assumption | exact kd_sums (by assumption) | exact kd_st1 (by assumption) | exact kd_st2 (by assumption) | exact kd_ls (by first | assumption | exact kdL (by omega) | exact kdQ (by omega) | rfl) (by assumption) | exact kd_sb (by first | assumption | exact kdL (by omega) | exact kdQ (by omega) | rfl) (by assumption) | exact kd_sv (by assumption) | exact kdL (by omega) | exact kdQ (by omega) | rfl) qf_X6_26 dX6_openAll_5 ?_
  refine j_callV1r C (oa_X3 (by first | assumption | exact kd_sums (by assumption) | exact kd_st1 (by assumption) | exact kd_st2 (by assumption) | exact kd_ls (by first | assumption | exact kdL (by omega) | exact kdQ (by omega) | rfl) (by assumption) | exact kd_sb (by first | assumption | exact kdL (by omega) | exact kdQ (by omega) | rfl) (by assumption) | exact kd_sv (by assumption) | exact kdL (by omega) | exact kdQ (by omega) | rfl)) rfl rfl (c_X3_readAll hm h60) qm_X6_138 qi_X3_readAll qs_X3_readAll qn_X3 qc_X3_readAll fit_X3_readAll ⟨Nat.le_of_ble_eq_true rfl, Nat.le_of_ble_eq_true rfl, Nat.le_of_ble_eq_true rfl, Nat.le_of_ble_eq_true rfl⟩ (Nat.le_of_ble_eq_true rfl) dX6_openAll_8 ?_
  refine j_aload_n C dX6_openAll_11 rfl rfl ?_
  refine jg_LeaseBook_text C (by first | assumption | exact kd_sums (by assumption) | exact kd_st1 (by assumption) | exact kd_st2 (by assumption) | exact kd_ls (by first | assumption | exact kdL (by omega) | exact kdQ (by omega) | rfl) (by assumption) | exact kd_sb (by first | assumption | exact kdL (by omega) | exact kdQ (by omega) | rfl) (by assumption) | exact kd_sv (by assumption) | exact kdL (by omega) | exact kdQ (by omega) | rfl) qf_X6_26 dX6_openAll_12 ?_
  refine jg_InputText_length C (by first | assumption | exact kd_sums (by assumption) | exact kd_st1 (by assumption) | exact kd_st2 (by assumption) | exact kd_ls (by first | assumption | exact kdL (by omega) | exact kdQ (by omega) | rfl) (by assumption) | exact kd_sb (by first | assumption | exact kdL (by omega) | exact kdQ (by omega) | rfl) (by assumption) | exact kd_sv (by assumption) | exact kdL (by omega) | exact kdQ (by omega) | rfl) qf_X6_132 dX6_openAll_15 ?_
  refine j_tope (y := nI m0) (by exact hmW) ?_
  refine j_icmp_ne (tgt := 35) C dX6_openAll_18 (by decide) (fun h18 => ?_) (fun h18 => ?_)
  · refine j_iconst (v := (nI 0)) C dX6_openAll_35 (by decide) ?_
    refine j_ist1 C dX6_openAll_36 rfl (Nat.le_of_ble_eq_true rfl) rfl ?_
    refine j_iload_n C dX6_openAll_37 rfl rfl ?_
    exact j_xcallS C (x_X6_demandArguments hf (by first | rfl | exact b2i_z (by assumption))) qm_X6_47 qt_X6_demandArguments qn_X6 qc_X6_demandArguments fit_X6_demandArguments ⟨Nat.le_of_ble_eq_true rfl, Nat.le_of_ble_eq_true rfl, Nat.le_of_ble_eq_true rfl, Nat.le_of_ble_eq_true rfl⟩ (Nat.le_of_ble_eq_true rfl) dX6_openAll_38 rfl (j_xout C ht)
  · refine j_aload_n C dX6_openAll_21 rfl rfl ?_
    refine jg_LeaseBook_reader C (by first | assumption | exact kd_sums (by assumption) | exact kd_st1 (by assumption) | exact kd_st2 (by assumption) | exact kd_ls (by first | assumption | exact kdL (by omega) | exact kdQ (by omega) | rfl) (by assumption) | exact kd_sb (by first | assumption | exact kdL (by omega) | exact kdQ (by omega) | rfl) (by assumption) | exact kd_sv (by assumption) | exact kdL (by omega) | exact kdQ (by omega) | rfl) qf_X6_33 dX6_openAll_22 ?_
    refine j_callV0r C (oa_X3 (by first | assumption | exact kd_sums (by assumption) | exact kd_st1 (by assumption) | exact kd_st2 (by assumption) | exact kd_ls (by first | assumption | exact kdL (by omega) | exact kdQ (by omega) | rfl) (by assumption) | exact kd_sb (by first | assumption | exact kdL (by omega) | exact kdQ (by omega) | rfl) (by assumption) | exact kd_sv (by assumption) | exact kdL (by omega) | exact kdQ (by omega) | rfl)) rfl rfl (c_X3_isComplete) qm_X6_142 qi_X3_isComplete qs_X3_isComplete qn_X3 qc_X3_isComplete fit_X3_isComplete ⟨Nat.le_of_ble_eq_true rfl, Nat.le_of_ble_eq_true rfl, Nat.le_of_ble_eq_true rfl, Nat.le_of_ble_eq_true rfl⟩ (Nat.le_of_ble_eq_true rfl) dX6_openAll_25 ?_
    refine j_if_eq (tgt := 35) C dX6_openAll_28 (by decide) (fun h28 => ?_) (fun h28 => ?_)
    · replace h28 := b2i_0 h28
      refine j_iconst (v := (nI 0)) C dX6_openAll_35 (by decide) ?_
      refine j_ist1 C dX6_openAll_36 rfl (Nat.le_of_ble_eq_true rfl) rfl ?_
      refine j_iload_n C dX6_openAll_37 rfl rfl ?_
      exact j_xcallS C (x_X6_demandArguments hf (by first | rfl | exact b2i_z (by assumption))) qm_X6_47 qt_X6_demandArguments qn_X6 qc_X6_demandArguments fit_X6_demandArguments ⟨Nat.le_of_ble_eq_true rfl, Nat.le_of_ble_eq_true rfl, Nat.le_of_ble_eq_true rfl, Nat.le_of_ble_eq_true rfl⟩ (Nat.le_of_ble_eq_true rfl) dX6_openAll_38 rfl (j_xout C ht)
    · replace h28 := b2i_1 h28
      exfalso
      exact hbad ⟨(nI_eq (by omega) (by omega)).mp (by first | exact h18 | exact Decidable.not_not.mp h18), h28⟩
set_option maxHeartbeats 4000000 in
theorem x_X6_openAll_IS {l : Launch} {g : GC} {V : Mem} {L : LMem} (hf : l.stackTraces = false) {m0 : Nat} (hm : V 219 1 = nI m0) (h60 : m0 ≤ 60) {nl : Nat} (hL : LC nl V) (hok : rdOk m0 V) (hbad : ¬ nl + cntS V m0 + 1 ≤ 8) : TC l yX6_openAll cX6_openAll 2 (some .int) 8 g V L [.ref (ad g 223)] xIS (rdA m0 V).2 L := by
  refine TC.of [some (.ref (ad g 223)), none] (by decide +kernel) rfl (Nat.le_of_ble_eq_true rfl) (fun p e s m args below meth c C ht => ?_)
  have hmW : (rdA m0 V).2 219 1 = nI m0 := by rw [rdA_o (by omega) (by omega)]; exact hm
  have hle : (rdA m0 V).1 ≤ m0 := by have := rdL_le m0 0 (rdR V); unfold rdA; omega
  have hcW : cntS (rdA m0 V).2 m0 = cntS V m0 := cntS_row (rdA_o (by omega) (by omega)) m0
  have hle2 := cntS_le (V := V) m0
  have h8a := hL.2
  refine j_aload_n C dX6_openAll_0 rfl rfl ?_
  refine jg_LeaseBook_reader C (by first | assumption | exact kd_sums (by assumption) | exact kd_st1 (by assumption) | exact kd_st2 (by assumption) | exact kd_ls (by first | assumption | exact kdL (by omega) | exact kdQ (by omega) | rfl) (by assumption) | exact kd_sb (by first | assumption | exact kdL (by omega) | exact kdQ (by omega) | rfl) (by assumption) | exact kd_sv (by assumption) | exact kdL (by omega) | exact kdQ (by omega) | rfl) qf_X6_33 dX6_openAll_1 ?_
  refine j_aload_n C dX6_openAll_4 rfl rfl ?_
  refine jg_LeaseBook_text C (by first | assumption | exact kd_sums (by assumption) | exact kd_st1 (by assumption) | exact kd_st2 (by assumption) | exact kd_ls (by first | assumption | exact kdL (by omega) | exact kdQ (by omega) | rfl) (by assumption) | exact kd_sb (by first | assumption | exact kdL (by omega) | exact kdQ (by omega) | rfl) (by assumption) | exact kd_sv (by assumption) | exact kdL (by omega) | exact kdQ (by omega) | rfl) qf_X6_26 dX6_openAll_5 ?_
  refine j_callV1r C (oa_X3 (by first | assumption | exact kd_sums (by assumption) | exact kd_st1 (by assumption) | exact kd_st2 (by assumption) | exact kd_ls (by first | assumption | exact kdL (by omega) | exact kdQ (by omega) | rfl) (by assumption) | exact kd_sb (by first | assumption | exact kdL (by omega) | exact kdQ (by omega) | rfl) (by assumption) | exact kd_sv (by assumption) | exact kdL (by omega) | exact kdQ (by omega) | rfl)) rfl rfl (c_X3_readAll hm h60) qm_X6_138 qi_X3_readAll qs_X3_readAll qn_X3 qc_X3_readAll fit_X3_readAll ⟨Nat.le_of_ble_eq_true rfl, Nat.le_of_ble_eq_true rfl, Nat.le_of_ble_eq_true rfl, Nat.le_of_ble_eq_true rfl⟩ (Nat.le_of_ble_eq_true rfl) dX6_openAll_8 ?_
  refine j_tope (y := nI m0) (by rw [hok.1]) ?_
  refine j_aload_n C dX6_openAll_11 rfl rfl ?_
  refine jg_LeaseBook_text C (by first | assumption | exact kd_sums (by assumption) | exact kd_st1 (by assumption) | exact kd_st2 (by assumption) | exact kd_ls (by first | assumption | exact kdL (by omega) | exact kdQ (by omega) | rfl) (by assumption) | exact kd_sb (by first | assumption | exact kdL (by omega) | exact kdQ (by omega) | rfl) (by assumption) | exact kd_sv (by assumption) | exact kdL (by omega) | exact kdQ (by omega) | rfl) qf_X6_26 dX6_openAll_12 ?_
  refine jg_InputText_length C (by first | assumption | exact kd_sums (by assumption) | exact kd_st1 (by assumption) | exact kd_st2 (by assumption) | exact kd_ls (by first | assumption | exact kdL (by omega) | exact kdQ (by omega) | rfl) (by assumption) | exact kd_sb (by first | assumption | exact kdL (by omega) | exact kdQ (by omega) | rfl) (by assumption) | exact kd_sv (by assumption) | exact kdL (by omega) | exact kdQ (by omega) | rfl) qf_X6_132 dX6_openAll_15 ?_
  refine j_tope (y := nI m0) (by exact hmW) ?_
  refine j_icmp_ne (tgt := 35) C dX6_openAll_18 (by decide) (fun h18 => (by first | exact absurd rfl h18 | exact h18 rfl)) (fun h18 => ?_)
  refine j_aload_n C dX6_openAll_21 rfl rfl ?_
  refine jg_LeaseBook_reader C (by first | assumption | exact kd_sums (by assumption) | exact kd_st1 (by assumption) | exact kd_st2 (by assumption) | exact kd_ls (by first | assumption | exact kdL (by omega) | exact kdQ (by omega) | rfl) (by assumption) | exact kd_sb (by first | assumption | exact kdL (by omega) | exact kdQ (by omega) | rfl) (by assumption) | exact kd_sv (by assumption) | exact kdL (by omega) | exact kdQ (by omega) | rfl) qf_X6_33 dX6_openAll_22 ?_
  refine j_callV0r C (oa_X3 (by first | assumption | exact kd_sums (by assumption) | exact kd_st1 (by assumption) | exact kd_st2 (by assumption) | exact kd_ls (by first | assumption | exact kdL (by omega) | exact kdQ (by omega) | rfl) (by assumption) | exact kd_sb (by first | assumption | exact kdL (by omega) | exact kdQ (by omega) | rfl) (by assumption) | exact kd_sv (by assumption) | exact kdL (by omega) | exact kdQ (by omega) | rfl)) rfl rfl (c_X3_isComplete) qm_X6_142 qi_X3_isComplete qs_X3_isComplete qn_X3 qc_X3_isComplete fit_X3_isComplete ⟨Nat.le_of_ble_eq_true rfl, Nat.le_of_ble_eq_true rfl, Nat.le_of_ble_eq_true rfl, Nat.le_of_ble_eq_true rfl⟩ (Nat.le_of_ble_eq_true rfl) dX6_openAll_25 ?_
  refine j_if_eq (tgt := 35) C dX6_openAll_28 (by decide) (fun h28 => ?_) (fun h28 => ?_)
  · replace h28 := b2i_0 h28
    exfalso
    exact h28 hok.2
  · replace h28 := b2i_1 h28
    refine j_iconst (v := (nI 1)) C dX6_openAll_31 (by decide) ?_
    refine j_goto (tgt := 36) C dX6_openAll_32 (by decide) ?_
    refine j_ist1 C dX6_openAll_36 rfl (Nat.le_of_ble_eq_true rfl) rfl ?_
    refine j_iload_n C dX6_openAll_37 rfl rfl ?_
    refine j_callS1v C (c_X6_demandArguments (by first | decide | exact b2i_nz (by assumption))) qm_X6_47 qt_X6_demandArguments qn_X6 qc_X6_demandArguments fit_X6_demandArguments ⟨Nat.le_of_ble_eq_true rfl, Nat.le_of_ble_eq_true rfl, Nat.le_of_ble_eq_true rfl, Nat.le_of_ble_eq_true rfl⟩ (Nat.le_of_ble_eq_true rfl) dX6_openAll_38 ?_
    refine j_aload_n C dX6_openAll_41 rfl rfl ?_
    refine jg_LeaseBook_now C (by first | assumption | exact kd_sums (by assumption) | exact kd_st1 (by assumption) | exact kd_st2 (by assumption) | exact kd_ls (by first | assumption | exact kdL (by omega) | exact kdQ (by omega) | rfl) (by assumption) | exact kd_sb (by first | assumption | exact kdL (by omega) | exact kdQ (by omega) | rfl) (by assumption) | exact kd_sv (by assumption) | exact kdL (by omega) | exact kdQ (by omega) | rfl) qf_X6_12 dX6_openAll_42 ?_
    refine jg_State_leaseCount C (by first | assumption | exact kd_sums (by assumption) | exact kd_st1 (by assumption) | exact kd_st2 (by assumption) | exact kd_ls (by first | assumption | exact kdL (by omega) | exact kdQ (by omega) | rfl) (by assumption) | exact kd_sb (by first | assumption | exact kdL (by omega) | exact kdQ (by omega) | rfl) (by assumption) | exact kd_sv (by assumption) | exact kdL (by omega) | exact kdQ (by omega) | rfl) qf_X6_51 dX6_openAll_45 ?_
    refine j_tope (y := nI nl) (by rw [rdA_o (by omega) (by omega)]; exact hL.1) ?_
    refine j_aload_n C dX6_openAll_48 rfl rfl ?_
    refine jg_LeaseBook_text C (by first | assumption | exact kd_sums (by assumption) | exact kd_st1 (by assumption) | exact kd_st2 (by assumption) | exact kd_ls (by first | assumption | exact kdL (by omega) | exact kdQ (by omega) | rfl) (by assumption) | exact kd_sb (by first | assumption | exact kdL (by omega) | exact kdQ (by omega) | rfl) (by assumption) | exact kd_sv (by assumption) | exact kdL (by omega) | exact kdQ (by omega) | rfl) qf_X6_26 dX6_openAll_49 ?_
    refine j_bipush (v := (nI 59)) C dX6_openAll_52 (by decide) ?_
    refine j_callV1r C (oa_X1 (by first | assumption | exact kd_sums (by assumption) | exact kd_st1 (by assumption) | exact kd_st2 (by assumption) | exact kd_ls (by first | assumption | exact kdL (by omega) | exact kdQ (by omega) | rfl) (by assumption) | exact kd_sb (by first | assumption | exact kdL (by omega) | exact kdQ (by omega) | rfl) (by assumption) | exact kd_sv (by assumption) | exact kdL (by omega) | exact kdQ (by omega) | rfl)) rfl rfl (c_X1_countOf hmW h60) qm_X6_145 qi_X1_countOf qs_X1_countOf qn_X1 qc_X1_countOf fit_X1_countOf ⟨Nat.le_of_ble_eq_true rfl, Nat.le_of_ble_eq_true rfl, Nat.le_of_ble_eq_true rfl, Nat.le_of_ble_eq_true rfl⟩ (Nat.le_of_ble_eq_true rfl) dX6_openAll_54 ?_
    refine j_tope (y := nI (cntS V m0)) (by rw [sF_cnt, hcW]) ?_
    refine j_iaddN C dX6_openAll_57 ?_
    refine j_iconst (v := (nI 1)) C dX6_openAll_58 (by decide) ?_
    refine j_iaddN C dX6_openAll_59 ?_
    refine j_bipush (v := (nI 8)) C dX6_openAll_60 (by decide) ?_
    refine j_icmp_gt (tgt := 69) C dX6_openAll_62 (by decide) (fun h62 => ?_) (fun h62 => ?_)
    · refine j_iconst (v := (nI 0)) C dX6_openAll_69 (by decide) ?_
      exact j_xcallS C (x_X6_demandState hf (by first | rfl | exact b2i_z (by assumption))) qm_X6_55 qt_X6_demandState qn_X6 qc_X6_demandState fit_X6_demandState ⟨Nat.le_of_ble_eq_true rfl, Nat.le_of_ble_eq_true rfl, Nat.le_of_ble_eq_true rfl, Nat.le_of_ble_eq_true rfl⟩ (Nat.le_of_ble_eq_true rfl) dX6_openAll_70 rfl (j_xout C ht)
    · exfalso
      exact hbad (i_ge (by omega) (by omega) (Int32.not_lt.mp h62))
