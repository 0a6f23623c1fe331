/-! THE MODEL'S METHODS, 1 (laid by wip/whole/p11.py) -/
set_option maxHeartbeats 4000000 in
theorem c_X7_isMoney {l : Launch} {g : GC} {V : Mem} {L : LMem} {v : Int32} : MC l yX7_isMoney cX7_isMoney 1 (some .boolean) 1 g V L [.int v] (some (.int (b2i (money v)))) V L := by
  refine MC.of [some (.int v)] (by decide +kernel) rfl (Nat.le_of_ble_eq_true rfl) (fun p e s m args below meth c C => ?_)
  refine j_iload_n C dX7_isMoney_0 rfl rfl ?_
  refine j_iconst (v := (nI 0)) C dX7_isMoney_1 (by decide) ?_
  refine j_ldc (v := nI 100000) C qk_X7_46 dX7_isMoney_2 ?_
  refine j_callS3r C (c_X7_in) qm_X7_42 qt_X7_in qn_X7 qc_X7_in fit_X7_in ⟨Nat.le_of_ble_eq_true rfl, Nat.le_of_ble_eq_true rfl, Nat.le_of_ble_eq_true rfl, Nat.le_of_ble_eq_true rfl⟩ (Nat.le_of_ble_eq_true rfl) dX7_isMoney_4 ?_
  exact j_zret C dX7_isMoney_7 (by first | rfl | exact nar_b2i) (by rfl) (by rfl) (by rfl)
set_option maxHeartbeats 4000000 in
theorem c_X7_isTerm {l : Launch} {g : GC} {V : Mem} {L : LMem} {v : Int32} : MC l yX7_isTerm cX7_isTerm 1 (some .boolean) 1 g V L [.int v] (some (.int (b2i (termR v)))) V L := by
  refine MC.of [some (.int v)] (by decide +kernel) rfl (Nat.le_of_ble_eq_true rfl) (fun p e s m args below meth c C => ?_)
  refine j_iload_n C dX7_isTerm_0 rfl rfl ?_
  refine j_iconst (v := (nI 1)) C dX7_isTerm_1 (by decide) ?_
  refine j_bipush (v := (nI 60)) C dX7_isTerm_2 (by decide) ?_
  refine j_callS3r C (c_X7_in) qm_X7_42 qt_X7_in qn_X7 qc_X7_in fit_X7_in ⟨Nat.le_of_ble_eq_true rfl, Nat.le_of_ble_eq_true rfl, Nat.le_of_ble_eq_true rfl, Nat.le_of_ble_eq_true rfl⟩ (Nat.le_of_ble_eq_true rfl) dX7_isTerm_4 ?_
  exact j_zret C dX7_isTerm_7 (by first | rfl | exact nar_b2i) (by rfl) (by rfl) (by rfl)
set_option maxHeartbeats 4000000 in
theorem c_X7_isRate {l : Launch} {g : GC} {V : Mem} {L : LMem} {v : Int32} : MC l yX7_isRate cX7_isRate 1 (some .boolean) 1 g V L [.int v] (some (.int (b2i (rateR v)))) V L := by
  refine MC.of [some (.int v)] (by decide +kernel) rfl (Nat.le_of_ble_eq_true rfl) (fun p e s m args below meth c C => ?_)
  refine j_iload_n C dX7_isRate_0 rfl rfl ?_
  refine j_iconst (v := (nI 0)) C dX7_isRate_1 (by decide) ?_
  refine j_sipush (v := (nI 2000)) C dX7_isRate_2 (by decide) ?_
  refine j_callS3r C (c_X7_in) qm_X7_42 qt_X7_in qn_X7 qc_X7_in fit_X7_in ⟨Nat.le_of_ble_eq_true rfl, Nat.le_of_ble_eq_true rfl, Nat.le_of_ble_eq_true rfl, Nat.le_of_ble_eq_true rfl⟩ (Nat.le_of_ble_eq_true rfl) dX7_isRate_5 ?_
  exact j_zret C dX7_isRate_8 (by first | rfl | exact nar_b2i) (by rfl) (by rfl) (by rfl)
set_option maxHeartbeats 4000000 in
theorem c_X7_isPart {l : Launch} {g : GC} {V : Mem} {L : LMem} {v : Int32} : MC l yX7_isPart cX7_isPart 1 (some .boolean) 1 g V L [.int v] (some (.int (b2i (partR v)))) V L := by
  refine MC.of [some (.int v)] (by decide +kernel) rfl (Nat.le_of_ble_eq_true rfl) (fun p e s m args below meth c C => ?_)
  refine j_iload_n C dX7_isPart_0 rfl rfl ?_
  refine j_iconst (v := (nI 1)) C dX7_isPart_1 (by decide) ?_
  refine j_sipush (v := (nI 1000)) C dX7_isPart_2 (by decide) ?_
  refine j_callS3r C (c_X7_in) qm_X7_42 qt_X7_in qn_X7 qc_X7_in fit_X7_in ⟨Nat.le_of_ble_eq_true rfl, Nat.le_of_ble_eq_true rfl, Nat.le_of_ble_eq_true rfl, Nat.le_of_ble_eq_true rfl⟩ (Nat.le_of_ble_eq_true rfl) dX7_isPart_5 ?_
  exact j_zret C dX7_isPart_8 (by first | rfl | exact nar_b2i) (by rfl) (by rfl) (by rfl)
set_option maxHeartbeats 4000000 in
theorem c_X7_thrown {l : Launch} {g : GC} {V : Mem} {L : LMem}  : MC l yX7_thrown cX7_thrown 1 (some .int) 0 g V L [.ref (ad g 224)] (some (.int (V 224 6))) V L := by
  refine MC.of [some (.ref (ad g 224))] (by decide +kernel) rfl (Nat.le_of_ble_eq_true rfl) (fun p e s m args below meth c C => ?_)
  refine j_aload_n C dX7_thrown_0 rfl rfl ?_
  refine jg_LeaseBookModel_thrown C (by first | assumption | rfl | exact kd_sums (by assumption) | exact kd_st1 (by assumption) | exact kd_st2 (by assumption) | exact kd_ls (by first | assumption | rfl) (by assumption) | exact kd_sb (by first | assumption | rfl) (by assumption) | exact kd_sv (by assumption)) qf_X7_25 dX7_thrown_1 ?_
  exact j_iret C dX7_thrown_4 (by rfl) (by rfl) (by rfl)
set_option maxHeartbeats 4000000 in
theorem c_X7_partOf {l : Launch} {g : GC} {V : Mem} {L : LMem} {v t : Int32} : MC l yX7_partOf cX7_partOf 2 (some .int) 0 g V L [.int v, .int t] (some (.int (prt v t))) V L := by
  refine MC.of [some (.int v), some (.int t)] (by decide +kernel) rfl (Nat.le_of_ble_eq_true rfl) (fun p e s m args below meth c C => ?_)
  refine j_iload_n C dX7_partOf_0 rfl rfl ?_
  refine j_i2l C dX7_partOf_1 ?_
  refine j_iload_n C dX7_partOf_2 rfl rfl ?_
  refine j_i2l C dX7_partOf_3 ?_
  refine j_lmul C dX7_partOf_4 ?_
  refine j_ldc2 C qk_X7_47 dX7_partOf_5 ?_
  refine j_ldiv C dX7_partOf_8 (by decide) ?_
  refine j_l2i C dX7_partOf_9 ?_
  exact j_iret C dX7_partOf_10 (by rfl) (by rfl) (by rfl)
set_option maxHeartbeats 4000000 in
theorem c_X7_sub {l : Launch} {g : GC} {V : Mem} {L : LMem} {k : Nat} : MC l yX7_sub cX7_sub 1 (some .int) 0 g V L [.int (nI k)] (some (.int (nI (179 + 6 * k)))) V L := by
  refine MC.of [some (.int (nI k))] (by decide +kernel) rfl (Nat.le_of_ble_eq_true rfl) (fun p e s m args below meth c C => ?_)
  refine j_sipush (v := (nI 179)) C dX7_sub_0 (by decide) ?_
  refine j_bipush (v := (nI 6)) C dX7_sub_3 (by decide) ?_
  refine j_iload_n C dX7_sub_5 rfl rfl ?_
  refine j_imulN C dX7_sub_6 ?_
  refine j_iaddN C dX7_sub_7 ?_
  exact j_iret C dX7_sub_8 (by rfl) (by rfl) (by rfl)
set_option maxHeartbeats 4000000 in
theorem c_X7_isLease {l : Launch} {g : GC} {V : Mem} {L : LMem} {x : Int32} : MC l yX7_isLease cX7_isLease 2 (some .boolean) 1 g V L [.ref (ad g 224), .int x] (some (.int (b2i (nI 0 ≤ x ∧ x ≤ V 225 0 - nI 1)))) V L := by
  refine MC.of [some (.ref (ad g 224)), some (.int x)] (by decide +kernel) rfl (Nat.le_of_ble_eq_true rfl) (fun p e s m args below meth c C => ?_)
  refine j_iload_n C dX7_isLease_0 rfl rfl ?_
  refine j_iconst (v := (nI 0)) C dX7_isLease_1 (by decide) ?_
  refine j_aload_n C dX7_isLease_2 rfl rfl ?_
  refine jg_LeaseBookModel_z C (by first | assumption | rfl | exact kd_sums (by assumption) | exact kd_st1 (by assumption) | exact kd_st2 (by assumption) | exact kd_ls (by first | assumption | rfl) (by assumption) | exact kd_sb (by first | assumption | rfl) (by assumption) | exact kd_sv (by assumption)) qf_X7_7 dX7_isLease_3 ?_
  refine j_iconst (v := (nI 0)) C dX7_isLease_6 (by decide) ?_
  refine j_ialdN C (by first | assumption | rfl | exact kd_sums (by assumption) | exact kd_st1 (by assumption) | exact kd_st2 (by assumption) | exact kd_ls (by first | assumption | rfl) (by assumption) | exact kd_sb (by first | assumption | rfl) (by assumption) | exact kd_sv (by assumption)) rfl rfl (by omega) dX7_isLease_7 ?_
  refine j_iconst (v := (nI 1)) C dX7_isLease_8 (by decide) ?_
  refine j_isub C dX7_isLease_9 ?_
  refine j_callS3r C (c_X7_in) qm_X7_42 qt_X7_in qn_X7 qc_X7_in fit_X7_in ⟨Nat.le_of_ble_eq_true rfl, Nat.le_of_ble_eq_true rfl, Nat.le_of_ble_eq_true rfl, Nat.le_of_ble_eq_true rfl⟩ (Nat.le_of_ble_eq_true rfl) dX7_isLease_10 ?_
  exact j_zret C dX7_isLease_13 (by first | rfl | exact nar_b2i) (by rfl) (by rfl) (by rfl)
set_option maxHeartbeats 4000000 in
theorem c_X7_runs {l : Launch} {g : GC} {V : Mem} {L : LMem} {k : Nat} (hk : k < 8) : MC l yX7_runs cX7_runs 2 (some .boolean) 1 g V L [.ref (ad g 224), .int (nI k)] (some (.int (b2i (0 < V 225 (3 + 22 * k + 1))))) V L := by
  refine MC.of [some (.ref (ad g 224)), some (.int (nI k))] (by decide +kernel) rfl (Nat.le_of_ble_eq_true rfl) (fun p e s m args below meth c C => ?_)
  refine j_aload_n C dX7_runs_0 rfl rfl ?_
  refine jg_LeaseBookModel_z C (by first | assumption | rfl | exact kd_sums (by assumption) | exact kd_st1 (by assumption) | exact kd_st2 (by assumption) | exact kd_ls (by first | assumption | rfl) (by assumption) | exact kd_sb (by first | assumption | rfl) (by assumption) | exact kd_sv (by assumption)) qf_X7_7 dX7_runs_1 ?_
  refine j_iload_n C dX7_runs_4 rfl rfl ?_
  refine j_callS1r C (c_X7_at) qm_X7_32 qt_X7_at qn_X7 qc_X7_at fit_X7_at ⟨Nat.le_of_ble_eq_true rfl, Nat.le_of_ble_eq_true rfl, Nat.le_of_ble_eq_true rfl, Nat.le_of_ble_eq_true rfl⟩ (Nat.le_of_ble_eq_true rfl) dX7_runs_5 ?_
  refine j_iconst (v := (nI 1)) C dX7_runs_8 (by decide) ?_
  refine j_iaddN C dX7_runs_9 ?_
  refine j_ialdN C (by first | assumption | rfl | exact kd_sums (by assumption) | exact kd_st1 (by assumption) | exact kd_st2 (by assumption) | exact kd_ls (by first | assumption | rfl) (by assumption) | exact kd_sb (by first | assumption | rfl) (by assumption) | exact kd_sv (by assumption)) rfl rfl (by omega) dX7_runs_10 ?_
  refine j_if_le (tgt := 18) C dX7_runs_11 (by decide) (fun h11 => ?_) (fun h11 => ?_)
  · refine j_iconst (v := (nI 0)) C dX7_runs_18 (by decide) ?_
    exact j_zret C dX7_runs_19 (by first | rfl | exact nar_b2i) (by first | (refine b2i_t ?_; simp_all; done) | (refine b2i_f ?_; simp_all; done) | (refine b2i_t ?_; simp only [Int32.lt_iff_toInt_lt, Int32.le_iff_toInt_le] at *; omega) | (refine b2i_f ?_; simp only [Int32.lt_iff_toInt_lt, Int32.le_iff_toInt_le] at *; omega)) (by rfl) (by rfl)
  · refine j_iconst (v := (nI 1)) C dX7_runs_14 (by decide) ?_
    refine j_goto (tgt := 19) C dX7_runs_15 (by decide) ?_
    exact j_zret C dX7_runs_19 (by first | rfl | exact nar_b2i) (by first | (refine b2i_t ?_; simp_all; done) | (refine b2i_f ?_; simp_all; done) | (refine b2i_t ?_; simp only [Int32.lt_iff_toInt_lt, Int32.le_iff_toInt_le] at *; omega) | (refine b2i_f ?_; simp only [Int32.lt_iff_toInt_lt, Int32.le_iff_toInt_le] at *; omega)) (by rfl) (by rfl)
set_option maxHeartbeats 4000000 in
theorem c_X7_move {l : Launch} {g : GC} {V : Mem} {L : LMem} {k q : Nat} {x : Int32} (hk : k < 8) (hq : q < 17) : MC l yX7_move cX7_move 4 (Option.none : Option Jvm.ClassFile.FieldType) 1 g V L [.ref (ad g 224), .int (nI k), .int (nI q), .int x] none (rMv k q x V) L := by
  refine MC.of [some (.ref (ad g 224)), some (.int (nI k)), some (.int (nI q)), some (.int x)] (by decide +kernel) rfl (Nat.le_of_ble_eq_true rfl) (fun p e s m args below meth c C => ?_)
  refine j_aload_n C dX7_move_0 rfl rfl ?_
  refine jg_LeaseBookModel_z C (by first | assumption | rfl | exact kd_sums (by assumption) | exact kd_st1 (by assumption) | exact kd_st2 (by assumption) | exact kd_ls (by first | assumption | rfl) (by assumption) | exact kd_sb (by first | assumption | rfl) (by assumption) | exact kd_sv (by assumption)) qf_X7_7 dX7_move_1 ?_
  refine j_iload_n C dX7_move_4 rfl rfl ?_
  refine j_callS1r C (c_X7_at) qm_X7_32 qt_X7_at qn_X7 qc_X7_at fit_X7_at ⟨Nat.le_of_ble_eq_true rfl, Nat.le_of_ble_eq_true rfl, Nat.le_of_ble_eq_true rfl, Nat.le_of_ble_eq_true rfl⟩ (Nat.le_of_ble_eq_true rfl) dX7_move_5 ?_
  refine j_iconst (v := (nI 5)) C dX7_move_8 (by decide) ?_
  refine j_iaddN C dX7_move_9 ?_
  refine j_iload_n C dX7_move_10 rfl rfl ?_
  refine j_iaddN C dX7_move_11 ?_
  refine j_dup2 C dX7_move_12 rfl rfl ?_
  refine j_ialdN C (by first | assumption | rfl | exact kd_sums (by assumption) | exact kd_st1 (by assumption) | exact kd_st2 (by assumption) | exact kd_ls (by first | assumption | rfl) (by assumption) | exact kd_sb (by first | assumption | rfl) (by assumption) | exact kd_sv (by assumption)) rfl rfl (by omega) dX7_move_13 ?_
  refine j_iload_n C dX7_move_14 rfl rfl ?_
  refine j_iadd C dX7_move_15 ?_
  refine j_iastN C (by first | assumption | rfl | exact kd_sums (by assumption) | exact kd_st1 (by assumption) | exact kd_st2 (by assumption) | exact kd_ls (by first | assumption | rfl) (by assumption) | exact kd_sb (by first | assumption | rfl) (by assumption) | exact kd_sv (by assumption)) rfl rfl (by omega) dX7_move_16 ?_
  exact j_vret C dX7_move_17 rfl (by rfl) (by rfl)
set_option maxHeartbeats 4000000 in
theorem lp_X7_worthOf {p : Program} {l : Launch} {e : Env} {R : Room} {s : State} {m : MethodId} {args : Array Value} {below : List Frame} {meth : Method} {c : Code} {g : GC} {Q : State → Prop} {V : Mem} {L : LMem} {pp nn zz : Int32} {N : Nat} (C : Cx p s args m meth c cX7_worthOf 8 yX7_worthOf.cls (some .int) g) (hN : N < 2 ^ 31) (hc : nn.toNatClampNeg = N) (hz : rateR zz) (kx : J p l e R s m args below meth c 8 g 0 0 Q V L 44 [some (.int pp), some (.int nn), some (.int zz), some (.long (wl pp zz (N))), none, some (.long (10000 + zz.toInt64)), none, some (.int (nI (N)))] []) : ∀ j i : Nat, i + j = N → J p l e R s m args below meth c 8 g 0 0 Q V L 13 [some (.int pp), some (.int nn), some (.int zz), some (.long (wl pp zz i)), none, some (.long (10000 + zz.toInt64)), none, some (.int (nI i))] [] := by
  intro j
  induction j with
  | zero =>
    intro i hi
    have hi : N = i := by omega
    subst hi
    refine j_iload C dX7_worthOf_13 rfl ?_
    refine j_iload_n C dX7_worthOf_15 rfl rfl ?_
    refine j_icmp_ge (tgt := 44) C dX7_worthOf_16 (by decide) (fun h16 => ?_) (fun h16 => absurd (show nn ≤ nI N from Int32.not_lt.mp (fun q => absurd (clamp_lt (by omega) (Int32.not_le.mpr q)) (by omega))) h16)
    exact kx
  | succ j ih =>
    intro i hi
    refine j_iload C dX7_worthOf_13 rfl ?_
    refine j_iload_n C dX7_worthOf_15 rfl rfl ?_
    refine j_icmp_ge (tgt := 44) C dX7_worthOf_16 (by decide) (fun h16 => absurd h16 (fun q => absurd (clamp_ge (by omega) q) (by omega))) (fun h16 => ?_)
    refine j_lload_n C dX7_worthOf_19 rfl rfl ?_
    refine j_iload_n C dX7_worthOf_20 rfl rfl ?_
    refine j_i2l C dX7_worthOf_21 ?_
    refine j_ladd C dX7_worthOf_22 ?_
    refine j_ldc2 C qk_X7_38 dX7_worthOf_23 ?_
    refine j_lmul C dX7_worthOf_26 ?_
    refine j_lload C dX7_worthOf_27 rfl ?_
    refine j_ladd C dX7_worthOf_29 ?_
    refine j_ldc2 C qk_X7_40 dX7_worthOf_30 ?_
    refine j_lload C dX7_worthOf_33 rfl ?_
    refine j_lmul C dX7_worthOf_35 ?_
    refine j_ldiv C dX7_worthOf_36 (by exact (rate_div hz).1) ?_
    refine j_lst3 C dX7_worthOf_37 rfl (Nat.le_of_ble_eq_true rfl) rfl ?_
    refine j_incN7 (q := 1) C dX7_worthOf_38 (by decide) (Nat.le_of_ble_eq_true rfl) rfl ?_
    refine j_goto (tgt := 13) C dX7_worthOf_41 (by decide) ?_
    refine j_mem (V' := V) (L' := L) (by rfl) rfl ?_
    exact j_dr (lv' := [some (.int pp), some (.int nn), some (.int zz), some (.long (wl pp zz (i + 1))), none, some (.long (10000 + zz.toInt64)), none, some (.int (nI (i + 1)))]) (And.intro rfl (And.intro rfl (And.intro rfl (And.intro rfl (And.intro rfl (And.intro rfl True.intro)))))) (ih (i + 1) (by omega))
set_option maxHeartbeats 4000000 in
theorem c_X7_worthOf {l : Launch} {g : GC} {V : Mem} {L : LMem} {pp nn zz : Int32} (hz : rateR zz) : MC l yX7_worthOf cX7_worthOf 8 (some .int) 0 g V L [.int pp, .int nn, .int zz] (some (.int (wor pp nn zz))) V L := by
  refine MC.of [some (.int pp), some (.int nn), some (.int zz), none, none, none, none, none] (by decide +kernel) rfl (Nat.le_of_ble_eq_true rfl) (fun p e s m args below meth c C => ?_)
  refine j_lconst (v := 0) C dX7_worthOf_0 (by decide) ?_
  refine j_lst3 C dX7_worthOf_1 rfl (Nat.le_of_ble_eq_true rfl) rfl ?_
  refine j_ldc2 C qk_X7_36 dX7_worthOf_2 ?_
  refine j_iload_n C dX7_worthOf_5 rfl rfl ?_
  refine j_i2l C dX7_worthOf_6 ?_
  refine j_ladd C dX7_worthOf_7 ?_
  refine j_lst5 C dX7_worthOf_8 (Nat.le_of_ble_eq_true rfl) rfl ?_
  refine j_iconst (v := (nI 0)) C dX7_worthOf_10 (by decide) ?_
  refine j_ist7 C dX7_worthOf_11 (Nat.le_of_ble_eq_true rfl) rfl ?_
  refine lp_X7_worthOf C (clampN nn) rfl hz ?_ nn.toNatClampNeg 0 (by omega)
  refine j_lload_n C dX7_worthOf_44 rfl rfl ?_
  refine j_l2i C dX7_worthOf_45 ?_
  exact j_iret C dX7_worthOf_46 (by rfl) (by rfl) (by rfl)
