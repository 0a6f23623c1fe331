/-! THE CLASS: subleases and states (laid by wip/whole/p25.py) -/
theorem kdL {k : Nat} (h : k < 8) : kd (3 + k) = 3 := by unfold kd; (repeat' split) <;> omega
theorem kdQ {q : Nat} (h : q < 12) : kd (19 + q) = 5 := by unfold kd; (repeat' split) <;> omega
theorem kd0 {b k : Nat} (h : kd b = 0) : b % 31 = 0 ∧ b < 217 := by unfold kd at h; (repeat' split at h) <;> omega
theorem nI_cl {x : Int32} {n : Nat} (h : nI 0 ≤ x ∧ x ≤ nI n) (hn : n < 2 ^ 31) : x = nI x.toNatClampNeg ∧ x.toNatClampNeg ≤ n := by
  obtain ⟨j, hj, rfl⟩ := nI_of2 (n := n) (nI_toInt hn) (fun q => absurd h.1 (Int32.not_le.mpr q)) h.2
  have e : (nI j).toNatClampNeg = j := by
    have h2 : (nI j).toNatClampNeg = (nI j).toInt.toNat := rfl
    rw [h2, nI_toInt (by omega)]; rfl
  rw [e]
  exact ⟨rfl, hj⟩
/-- a sum over the rows that c takes -/
def sF (c : Nat → Bool) (f : Nat → Int32) : Nat → Int32
  | 0 => nI 0
  | q + 1 => if c q = true then sF c f q + f q else sF c f q
theorem sF_t {c : Nat → Bool} {f : Nat → Int32} {q : Nat} (h : c q = true) : sF c f q + f q = sF c f (q + 1) := by rw [sF, if_pos h]
theorem sF_f {c : Nat → Bool} {f : Nat → Int32} {q : Nat} (h : ¬ c q = true) : sF c f q = sF c f (q + 1) := by rw [sF, if_neg h]
def runU (V : Mem) (k q : Nat) : Bool := decide (V (19 + q) 0 = nI k ∧ 0 < V (19 + q) 3)
theorem runU_t {V : Mem} {k q : Nat} (h : V (19 + q) 0 = nI k ∧ 0 < V (19 + q) 3) : runU V k q = true := decide_eq_true h
theorem runU_f {V : Mem} {k q : Nat} (h : ¬ (V (19 + q) 0 = nI k ∧ 0 < V (19 + q) 3)) : ¬ runU V k q = true := fun z => h (of_decide_eq_true z)
def sCpy (k j : Nat) (V : Mem) : Mem :=
  let V1 := mset V k 0 (V j 0)
  let V2 := mset V1 k 1 (V1 j 1)
  let V3 := mset V2 k 2 (V2 j 2)
  let V4 := mset V3 k 3 (V3 j 3)
  let V5 := mset V4 k 4 (V4 j 4)
  mset V5 k 5 (V5 j 5)
def sPass (k a : Nat) (d : Int32) (V : Mem) : Mem :=
  let had := V k 2 * mn d (V k 3)
  let rt := wor (V k 2) (V k 3 - d) (V k 4)
  let V1 := cMv a 12 (rt - V k 5 + had) V
  let V3 := mset (cMv a 13 had V1) k 5 rt
  mset V3 k 3 (mx (nI 0) (V3 k 3 - d))
set_option maxHeartbeats 4000000 in
theorem c_X5_copyFrom {l : Launch} {g : GC} {V : Mem} {L : LMem} {k : Nat} (hk : kd k = 5) {j0 : Nat} (hj : kd j0 = 5) : MC l yX5_copyFrom cX5_copyFrom 2 (Option.none : Option Jvm.ClassFile.FieldType) 0 g V L [.ref (ad g k), .ref (ad g j0)] none (sCpy k j0 V) L := by
  refine MC.of [some (.ref (ad g k)), some (.ref (ad g j0))] (by decide +kernel) rfl (Nat.le_of_ble_eq_true rfl) (fun p e s m args below meth c C => ?_)
  refine j_aload_n C dX5_copyFrom_0 rfl rfl ?_
  refine j_aload_n C dX5_copyFrom_1 rfl rfl ?_
  refine jg_Sublease_head C (by first | assumption | exact kd_sums (by assumption) | exact kd_st1 (by assumption) | exact kd_st2 (by assumption) | exact kd_ls (by first | assumption | exact kdL (by omega) | exact kdQ (by omega) | rfl) (by assumption) | exact kd_sb (by first | assumption | exact kdL (by omega) | exact kdQ (by omega) | rfl) (by assumption) | exact kd_sv (by assumption) | exact kdL (by omega) | exact kdQ (by omega) | rfl) qf_X5_9 dX5_copyFrom_2 ?_
  refine jp_Sublease_head C (by first | assumption | exact kd_sums (by assumption) | exact kd_st1 (by assumption) | exact kd_st2 (by assumption) | exact kd_ls (by first | assumption | exact kdL (by omega) | exact kdQ (by omega) | rfl) (by assumption) | exact kd_sb (by first | assumption | exact kdL (by omega) | exact kdQ (by omega) | rfl) (by assumption) | exact kd_sv (by assumption) | exact kdL (by omega) | exact kdQ (by omega) | rfl) qf_X5_9 dX5_copyFrom_5 ?_
  refine j_aload_n C dX5_copyFrom_8 rfl rfl ?_
  refine j_aload_n C dX5_copyFrom_9 rfl rfl ?_
  refine jg_Sublease_thousandths C (by first | assumption | exact kd_sums (by assumption) | exact kd_st1 (by assumption) | exact kd_st2 (by assumption) | exact kd_ls (by first | assumption | exact kdL (by omega) | exact kdQ (by omega) | rfl) (by assumption) | exact kd_sb (by first | assumption | exact kdL (by omega) | exact kdQ (by omega) | rfl) (by assumption) | exact kd_sv (by assumption) | exact kdL (by omega) | exact kdQ (by omega) | rfl) qf_X5_15 dX5_copyFrom_10 ?_
  refine jp_Sublease_thousandths C (by first | assumption | exact kd_sums (by assumption) | exact kd_st1 (by assumption) | exact kd_st2 (by assumption) | exact kd_ls (by first | assumption | exact kdL (by omega) | exact kdQ (by omega) | rfl) (by assumption) | exact kd_sb (by first | assumption | exact kdL (by omega) | exact kdQ (by omega) | rfl) (by assumption) | exact kd_sv (by assumption) | exact kdL (by omega) | exact kdQ (by omega) | rfl) qf_X5_15 dX5_copyFrom_13 ?_
  refine j_aload_n C dX5_copyFrom_16 rfl rfl ?_
  refine j_aload_n C dX5_copyFrom_17 rfl rfl ?_
  refine jg_Sublease_receipt C (by first | assumption | exact kd_sums (by assumption) | exact kd_st1 (by assumption) | exact kd_st2 (by assumption) | exact kd_ls (by first | assumption | exact kdL (by omega) | exact kdQ (by omega) | rfl) (by assumption) | exact kd_sb (by first | assumption | exact kdL (by omega) | exact kdQ (by omega) | rfl) (by assumption) | exact kd_sv (by assumption) | exact kdL (by omega) | exact kdQ (by omega) | rfl) qf_X5_18 dX5_copyFrom_18 ?_
  refine jp_Sublease_receipt C (by first | assumption | exact kd_sums (by assumption) | exact kd_st1 (by assumption) | exact kd_st2 (by assumption) | exact kd_ls (by first | assumption | exact kdL (by omega) | exact kdQ (by omega) | rfl) (by assumption) | exact kd_sb (by first | assumption | exact kdL (by omega) | exact kdQ (by omega) | rfl) (by assumption) | exact kd_sv (by assumption) | exact kdL (by omega) | exact kdQ (by omega) | rfl) qf_X5_18 dX5_copyFrom_21 ?_
  refine j_aload_n C dX5_copyFrom_24 rfl rfl ?_
  refine j_aload_n C dX5_copyFrom_25 rfl rfl ?_
  refine jg_Sublease_periods C (by first | assumption | exact kd_sums (by assumption) | exact kd_st1 (by assumption) | exact kd_st2 (by assumption) | exact kd_ls (by first | assumption | exact kdL (by omega) | exact kdQ (by omega) | rfl) (by assumption) | exact kd_sb (by first | assumption | exact kdL (by omega) | exact kdQ (by omega) | rfl) (by assumption) | exact kd_sv (by assumption) | exact kdL (by omega) | exact kdQ (by omega) | rfl) qf_X5_21 dX5_copyFrom_26 ?_
  refine jp_Sublease_periods C (by first | assumption | exact kd_sums (by assumption) | exact kd_st1 (by assumption) | exact kd_st2 (by assumption) | exact kd_ls (by first | assumption | exact kdL (by omega) | exact kdQ (by omega) | rfl) (by assumption) | exact kd_sb (by first | assumption | exact kdL (by omega) | exact kdQ (by omega) | rfl) (by assumption) | exact kd_sv (by assumption) | exact kdL (by omega) | exact kdQ (by omega) | rfl) qf_X5_21 dX5_copyFrom_29 ?_
  refine j_aload_n C dX5_copyFrom_32 rfl rfl ?_
  refine j_aload_n C dX5_copyFrom_33 rfl rfl ?_
  refine jg_Sublease_rate C (by first | assumption | exact kd_sums (by assumption) | exact kd_st1 (by assumption) | exact kd_st2 (by assumption) | exact kd_ls (by first | assumption | exact kdL (by omega) | exact kdQ (by omega) | rfl) (by assumption) | exact kd_sb (by first | assumption | exact kdL (by omega) | exact kdQ (by omega) | rfl) (by assumption) | exact kd_sv (by assumption) | exact kdL (by omega) | exact kdQ (by omega) | rfl) qf_X5_24 dX5_copyFrom_34 ?_
  refine jp_Sublease_rate C (by first | assumption | exact kd_sums (by assumption) | exact kd_st1 (by assumption) | exact kd_st2 (by assumption) | exact kd_ls (by first | assumption | exact kdL (by omega) | exact kdQ (by omega) | rfl) (by assumption) | exact kd_sb (by first | assumption | exact kdL (by omega) | exact kdQ (by omega) | rfl) (by assumption) | exact kd_sv (by assumption) | exact kdL (by omega) | exact kdQ (by omega) | rfl) qf_X5_24 dX5_copyFrom_37 ?_
  refine j_aload_n C dX5_copyFrom_40 rfl rfl ?_
  refine j_aload_n C dX5_copyFrom_41 rfl rfl ?_
  refine jg_Sublease_receivable C (by first | assumption | exact kd_sums (by assumption) | exact kd_st1 (by assumption) | exact kd_st2 (by assumption) | exact kd_ls (by first | assumption | exact kdL (by omega) | exact kdQ (by omega) | rfl) (by assumption) | exact kd_sb (by first | assumption | exact kdL (by omega) | exact kdQ (by omega) | rfl) (by assumption) | exact kd_sv (by assumption) | exact kdL (by omega) | exact kdQ (by omega) | rfl) qf_X5_27 dX5_copyFrom_42 ?_
  refine jp_Sublease_receivable C (by first | assumption | exact kd_sums (by assumption) | exact kd_st1 (by assumption) | exact kd_st2 (by assumption) | exact kd_ls (by first | assumption | exact kdL (by omega) | exact kdQ (by omega) | rfl) (by assumption) | exact kd_sb (by first | assumption | exact kdL (by omega) | exact kdQ (by omega) | rfl) (by assumption) | exact kd_sv (by assumption) | exact kdL (by omega) | exact kdQ (by omega) | rfl) qf_X5_27 dX5_copyFrom_45 ?_
  exact j_vret C dX5_copyFrom_48 rfl (by rfl) (by rfl)
set_option maxHeartbeats 4000000 in
theorem c_X5_runsUnder {l : Launch} {g : GC} {V : Mem} {L : LMem} {k : Nat} (hk : kd k = 5) {x : Int32} : MC l yX5_runsUnder cX5_runsUnder 2 (some .boolean) 0 g V L [.ref (ad g k), .int x] (some (.int (b2i (V k 0 = x ∧ 0 < V k 3)))) V L := by
  refine MC.of [some (.ref (ad g k)), some (.int x)] (by decide +kernel) rfl (Nat.le_of_ble_eq_true rfl) (fun p e s m args below meth c C => ?_)
  refine j_aload_n C dX5_runsUnder_0 rfl rfl ?_
  refine jg_Sublease_head C (by first | assumption | exact kd_sums (by assumption) | exact kd_st1 (by assumption) | exact kd_st2 (by assumption) | exact kd_ls (by first | assumption | exact kdL (by omega) | exact kdQ (by omega) | rfl) (by assumption) | exact kd_sb (by first | assumption | exact kdL (by omega) | exact kdQ (by omega) | rfl) (by assumption) | exact kd_sv (by assumption) | exact kdL (by omega) | exact kdQ (by omega) | rfl) qf_X5_9 dX5_runsUnder_1 ?_
  refine j_iload_n C dX5_runsUnder_4 rfl rfl ?_
  refine j_icmp_ne (tgt := 19) C dX5_runsUnder_5 (by decide) (fun h5 => ?_) (fun h5 => ?_)
  · refine j_iconst (v := (nI 0)) C dX5_runsUnder_19 (by decide) ?_
    exact j_zret C dX5_runsUnder_20 (by first | rfl | exact nar_b2i) (by first | (refine b2i_t ?_; simp_all; done) | (refine b2i_f ?_; simp_all; done) | (refine b2i_t ?_; simp only [Int32.lt_iff_toInt_lt, Int32.le_iff_toInt_le] at *; omega) | (refine b2i_f ?_; simp only [Int32.lt_iff_toInt_lt, Int32.le_iff_toInt_le] at *; omega)) (by rfl) (by rfl)
  · refine j_aload_n C dX5_runsUnder_8 rfl rfl ?_
    refine jg_Sublease_periods C (by first | assumption | exact kd_sums (by assumption) | exact kd_st1 (by assumption) | exact kd_st2 (by assumption) | exact kd_ls (by first | assumption | exact kdL (by omega) | exact kdQ (by omega) | rfl) (by assumption) | exact kd_sb (by first | assumption | exact kdL (by omega) | exact kdQ (by omega) | rfl) (by assumption) | exact kd_sv (by assumption) | exact kdL (by omega) | exact kdQ (by omega) | rfl) qf_X5_21 dX5_runsUnder_9 ?_
    refine j_if_le (tgt := 19) C dX5_runsUnder_12 (by decide) (fun h12 => ?_) (fun h12 => ?_)
    · refine j_iconst (v := (nI 0)) C dX5_runsUnder_19 (by decide) ?_
      exact j_zret C dX5_runsUnder_20 (by first | rfl | exact nar_b2i) (by first | (refine b2i_t ?_; simp_all; done) | (refine b2i_f ?_; simp_all; done) | (refine b2i_t ?_; simp only [Int32.lt_iff_toInt_lt, Int32.le_iff_toInt_le] at *; omega) | (refine b2i_f ?_; simp only [Int32.lt_iff_toInt_lt, Int32.le_iff_toInt_le] at *; omega)) (by rfl) (by rfl)
    · refine j_iconst (v := (nI 1)) C dX5_runsUnder_15 (by decide) ?_
      refine j_goto (tgt := 20) C dX5_runsUnder_16 (by decide) ?_
      exact j_zret C dX5_runsUnder_20 (by first | rfl | exact nar_b2i) (by first | (refine b2i_t ?_; simp_all; done) | (refine b2i_f ?_; simp_all; done) | (refine b2i_t ?_; simp only [Int32.lt_iff_toInt_lt, Int32.le_iff_toInt_le] at *; omega) | (refine b2i_f ?_; simp only [Int32.lt_iff_toInt_lt, Int32.le_iff_toInt_le] at *; omega)) (by rfl) (by rfl)
set_option maxHeartbeats 4000000 in
theorem c_X5_receivableWith {l : Launch} {g : GC} {V : Mem} {L : LMem} {k : Nat} (hk : kd k = 5) {x : Int32} (hz : rateR (V k 4)) : MC l yX5_receivableWith cX5_receivableWith 2 (some .int) 1 g V L [.ref (ad g k), .int x] (some (.int (wor (V k 2) x (V k 4)))) V L := by
  refine MC.of [some (.ref (ad g k)), some (.int x)] (by decide +kernel) rfl (Nat.le_of_ble_eq_true rfl) (fun p e s m args below meth c C => ?_)
  refine j_aload_n C dX5_receivableWith_0 rfl rfl ?_
  refine jg_Sublease_receipt C (by first | assumption | exact kd_sums (by assumption) | exact kd_st1 (by assumption) | exact kd_st2 (by assumption) | exact kd_ls (by first | assumption | exact kdL (by omega) | exact kdQ (by omega) | rfl) (by assumption) | exact kd_sb (by first | assumption | exact kdL (by omega) | exact kdQ (by omega) | rfl) (by assumption) | exact kd_sv (by assumption) | exact kdL (by omega) | exact kdQ (by omega) | rfl) qf_X5_18 dX5_receivableWith_1 ?_
  refine j_iload_n C dX5_receivableWith_4 rfl rfl ?_
  refine j_aload_n C dX5_receivableWith_5 rfl rfl ?_
  refine jg_Sublease_rate C (by first | assumption | exact kd_sums (by assumption) | exact kd_st1 (by assumption) | exact kd_st2 (by assumption) | exact kd_ls (by first | assumption | exact kdL (by omega) | exact kdQ (by omega) | rfl) (by assumption) | exact kd_sb (by first | assumption | exact kdL (by omega) | exact kdQ (by omega) | rfl) (by assumption) | exact kd_sv (by assumption) | exact kdL (by omega) | exact kdQ (by omega) | rfl) qf_X5_24 dX5_receivableWith_6 ?_
  refine j_callSN3r C (c_X6_presentWorth hz) nw_X5_30 qt_X6_presentWorth qn_X6 qc_X6_presentWorth fit_X6_presentWorth ⟨Nat.le_of_ble_eq_true rfl, Nat.le_of_ble_eq_true rfl, Nat.le_of_ble_eq_true rfl, Nat.le_of_ble_eq_true rfl⟩ (Nat.le_of_ble_eq_true rfl) dX5_receivableWith_9 ?_
  exact j_iret C dX5_receivableWith_12 (by rfl) (by rfl) (by rfl)
set_option maxHeartbeats 4000000 in
theorem c_X5_passPeriods {l : Launch} {g : GC} {V : Mem} {L : LMem} {k : Nat} (hk : kd k = 5) {a : Nat} {d : Int32} (ha : kd a = 3) (hz : rateR (V k 4)) : MC l yX5_passPeriods cX5_passPeriods 5 (Option.none : Option Jvm.ClassFile.FieldType) 2 g V L [.ref (ad g k), .int d, .ref (ad g a)] none (sPass k a d V) L := by
  refine MC.of [some (.ref (ad g k)), some (.int d), some (.ref (ad g a)), none, none] (by decide +kernel) rfl (Nat.le_of_ble_eq_true rfl) (fun p e s m args below meth c C => ?_)
  refine j_aload_n C dX5_passPeriods_0 rfl rfl ?_
  refine jg_Sublease_receipt C (by first | assumption | exact kd_sums (by assumption) | exact kd_st1 (by assumption) | exact kd_st2 (by assumption) | exact kd_ls (by first | assumption | exact kdL (by omega) | exact kdQ (by omega) | rfl) (by assumption) | exact kd_sb (by first | assumption | exact kdL (by omega) | exact kdQ (by omega) | rfl) (by assumption) | exact kd_sv (by assumption) | exact kdL (by omega) | exact kdQ (by omega) | rfl) qf_X5_18 dX5_passPeriods_1 ?_
  refine j_iload_n C dX5_passPeriods_4 rfl rfl ?_
  refine j_aload_n C dX5_passPeriods_5 rfl rfl ?_
  refine jg_Sublease_periods C (by first | assumption | exact kd_sums (by assumption) | exact kd_st1 (by assumption) | exact kd_st2 (by assumption) | exact kd_ls (by first | assumption | exact kdL (by omega) | exact kdQ (by omega) | rfl) (by assumption) | exact kd_sb (by first | assumption | exact kdL (by omega) | exact kdQ (by omega) | rfl) (by assumption) | exact kd_sv (by assumption) | exact kdL (by omega) | exact kdQ (by omega) | rfl) qf_X5_21 dX5_passPeriods_6 ?_
  refine j_mmin C qm_X5_34 qt_J9_min_7cf53 qn_J9 qc_J9_min_7cf53 (Nat.le_of_ble_eq_true rfl) (Nat.le_of_ble_eq_true rfl) (Nat.le_of_ble_eq_true rfl) (Nat.le_of_ble_eq_true rfl) dX5_passPeriods_9 ?_
  refine j_imul C dX5_passPeriods_12 ?_
  refine j_ist3 C dX5_passPeriods_13 rfl (Nat.le_of_ble_eq_true rfl) rfl ?_
  refine j_aload_n C dX5_passPeriods_14 rfl rfl ?_
  refine j_aload_n C dX5_passPeriods_15 rfl rfl ?_
  refine jg_Sublease_periods C (by first | assumption | exact kd_sums (by assumption) | exact kd_st1 (by assumption) | exact kd_st2 (by assumption) | exact kd_ls (by first | assumption | exact kdL (by omega) | exact kdQ (by omega) | rfl) (by assumption) | exact kd_sb (by first | assumption | exact kdL (by omega) | exact kdQ (by omega) | rfl) (by assumption) | exact kd_sv (by assumption) | exact kdL (by omega) | exact kdQ (by omega) | rfl) qf_X5_21 dX5_passPeriods_16 ?_
  refine j_iload_n C dX5_passPeriods_19 rfl rfl ?_
  refine j_isub C dX5_passPeriods_20 ?_
  refine j_callV1r C (oa_X5 (by first | assumption | exact kd_sums (by assumption) | exact kd_st1 (by assumption) | exact kd_st2 (by assumption) | exact kd_ls (by first | assumption | exact kdL (by omega) | exact kdQ (by omega) | rfl) (by assumption) | exact kd_sb (by first | assumption | exact kdL (by omega) | exact kdQ (by omega) | rfl) (by assumption) | exact kd_sv (by assumption) | exact kdL (by omega) | exact kdQ (by omega) | rfl)) rfl rfl (c_X5_receivableWith hk hz) qm_X5_40 qi_X5_receivableWith qs_X5_receivableWith qn_X5 qc_X5_receivableWith fit_X5_receivableWith ⟨Nat.le_of_ble_eq_true rfl, Nat.le_of_ble_eq_true rfl, Nat.le_of_ble_eq_true rfl, Nat.le_of_ble_eq_true rfl⟩ (Nat.le_of_ble_eq_true rfl) dX5_passPeriods_21 ?_
  refine j_ist4 C dX5_passPeriods_24 (Nat.le_of_ble_eq_true rfl) rfl ?_
  refine j_aload_n C dX5_passPeriods_26 rfl rfl ?_
  refine j_bipush (v := (nI 12)) C dX5_passPeriods_27 (by decide) ?_
  refine j_iload C dX5_passPeriods_29 rfl ?_
  refine j_aload_n C dX5_passPeriods_31 rfl rfl ?_
  refine jg_Sublease_receivable C (by first | assumption | exact kd_sums (by assumption) | exact kd_st1 (by assumption) | exact kd_st2 (by assumption) | exact kd_ls (by first | assumption | exact kdL (by omega) | exact kdQ (by omega) | rfl) (by assumption) | exact kd_sb (by first | assumption | exact kdL (by omega) | exact kdQ (by omega) | rfl) (by assumption) | exact kd_sv (by assumption) | exact kdL (by omega) | exact kdQ (by omega) | rfl) qf_X5_27 dX5_passPeriods_32 ?_
  refine j_isub C dX5_passPeriods_35 ?_
  refine j_iload_n C dX5_passPeriods_36 rfl rfl ?_
  refine j_iadd C dX5_passPeriods_37 ?_
  refine j_callV2v C (oa_X2 (by first | assumption | exact kd_sums (by assumption) | exact kd_st1 (by assumption) | exact kd_st2 (by assumption) | exact kd_ls (by first | assumption | exact kdL (by omega) | exact kdQ (by omega) | rfl) (by assumption) | exact kd_sb (by first | assumption | exact kdL (by omega) | exact kdQ (by omega) | rfl) (by assumption) | exact kd_sv (by assumption) | exact kdL (by omega) | exact kdQ (by omega) | rfl)) rfl rfl (c_X2_move ha (by omega)) qm_X5_44 qi_X2_move qs_X2_move qn_X2 qc_X2_move fit_X2_move ⟨Nat.le_of_ble_eq_true rfl, Nat.le_of_ble_eq_true rfl, Nat.le_of_ble_eq_true rfl, Nat.le_of_ble_eq_true rfl⟩ (Nat.le_of_ble_eq_true rfl) dX5_passPeriods_38 ?_
  refine j_aload_n C dX5_passPeriods_41 rfl rfl ?_
  refine j_bipush (v := (nI 13)) C dX5_passPeriods_42 (by decide) ?_
  refine j_iload_n C dX5_passPeriods_44 rfl rfl ?_
  refine j_callV2v C (oa_X2 (by first | assumption | exact kd_sums (by assumption) | exact kd_st1 (by assumption) | exact kd_st2 (by assumption) | exact kd_ls (by first | assumption | exact kdL (by omega) | exact kdQ (by omega) | rfl) (by assumption) | exact kd_sb (by first | assumption | exact kdL (by omega) | exact kdQ (by omega) | rfl) (by assumption) | exact kd_sv (by assumption) | exact kdL (by omega) | exact kdQ (by omega) | rfl)) rfl rfl (c_X2_move ha (by omega)) qm_X5_44 qi_X2_move qs_X2_move qn_X2 qc_X2_move fit_X2_move ⟨Nat.le_of_ble_eq_true rfl, Nat.le_of_ble_eq_true rfl, Nat.le_of_ble_eq_true rfl, Nat.le_of_ble_eq_true rfl⟩ (Nat.le_of_ble_eq_true rfl) dX5_passPeriods_45 ?_
  refine j_aload_n C dX5_passPeriods_48 rfl rfl ?_
  refine j_iload C dX5_passPeriods_49 rfl ?_
  refine jp_Sublease_receivable C (by first | assumption | exact kd_sums (by assumption) | exact kd_st1 (by assumption) | exact kd_st2 (by assumption) | exact kd_ls (by first | assumption | exact kdL (by omega) | exact kdQ (by omega) | rfl) (by assumption) | exact kd_sb (by first | assumption | exact kdL (by omega) | exact kdQ (by omega) | rfl) (by assumption) | exact kd_sv (by assumption) | exact kdL (by omega) | exact kdQ (by omega) | rfl) qf_X5_27 dX5_passPeriods_51 ?_
  refine j_aload_n C dX5_passPeriods_54 rfl rfl ?_
  refine j_iconst (v := (nI 0)) C dX5_passPeriods_55 (by decide) ?_
  refine j_aload_n C dX5_passPeriods_56 rfl rfl ?_
  refine jg_Sublease_periods C (by first | assumption | exact kd_sums (by assumption) | exact kd_st1 (by assumption) | exact kd_st2 (by assumption) | exact kd_ls (by first | assumption | exact kdL (by omega) | exact kdQ (by omega) | rfl) (by assumption) | exact kd_sb (by first | assumption | exact kdL (by omega) | exact kdQ (by omega) | rfl) (by assumption) | exact kd_sv (by assumption) | exact kdL (by omega) | exact kdQ (by omega) | rfl) qf_X5_21 dX5_passPeriods_57 ?_
  refine j_iload_n C dX5_passPeriods_60 rfl rfl ?_
  refine j_isub C dX5_passPeriods_61 ?_
  refine j_mmax C qm_X5_50 qt_J9_max_7cf53 qn_J9 qc_J9_max_7cf53 (Nat.le_of_ble_eq_true rfl) (Nat.le_of_ble_eq_true rfl) (Nat.le_of_ble_eq_true rfl) (Nat.le_of_ble_eq_true rfl) dX5_passPeriods_62 ?_
  refine jp_Sublease_periods C (by first | assumption | exact kd_sums (by assumption) | exact kd_st1 (by assumption) | exact kd_st2 (by assumption) | exact kd_ls (by first | assumption | exact kdL (by omega) | exact kdQ (by omega) | rfl) (by assumption) | exact kd_sb (by first | assumption | exact kdL (by omega) | exact kdQ (by omega) | rfl) (by assumption) | exact kd_sv (by assumption) | exact kdL (by omega) | exact kdQ (by omega) | rfl) qf_X5_21 dX5_passPeriods_65 ?_
  exact j_vret C dX5_passPeriods_68 rfl (by rfl) (by rfl)
set_option maxHeartbeats 4000000 in
theorem c_X5_lossByCutTo {l : Launch} {g : GC} {V : Mem} {L : LMem} {k : Nat} (hk : kd k = 5) {x : Int32} (hz : rateR (V k 4)) : MC l yX5_lossByCutTo cX5_lossByCutTo 2 (some .int) 2 g V L [.ref (ad g k), .int x] (some (.int (V k 5 - wor (V k 2) (mn (V k 3) x) (V k 4)))) V L := by
  refine MC.of [some (.ref (ad g k)), some (.int x)] (by decide +kernel) rfl (Nat.le_of_ble_eq_true rfl) (fun p e s m args below meth c C => ?_)
  refine j_aload_n C dX5_lossByCutTo_0 rfl rfl ?_
  refine jg_Sublease_receivable C (by first | assumption | exact kd_sums (by assumption) | exact kd_st1 (by assumption) | exact kd_st2 (by assumption) | exact kd_ls (by first | assumption | exact kdL (by omega) | exact kdQ (by omega) | rfl) (by assumption) | exact kd_sb (by first | assumption | exact kdL (by omega) | exact kdQ (by omega) | rfl) (by assumption) | exact kd_sv (by assumption) | exact kdL (by omega) | exact kdQ (by omega) | rfl) qf_X5_27 dX5_lossByCutTo_1 ?_
  refine j_aload_n C dX5_lossByCutTo_4 rfl rfl ?_
  refine j_aload_n C dX5_lossByCutTo_5 rfl rfl ?_
  refine jg_Sublease_periods C (by first | assumption | exact kd_sums (by assumption) | exact kd_st1 (by assumption) | exact kd_st2 (by assumption) | exact kd_ls (by first | assumption | exact kdL (by omega) | exact kdQ (by omega) | rfl) (by assumption) | exact kd_sb (by first | assumption | exact kdL (by omega) | exact kdQ (by omega) | rfl) (by assumption) | exact kd_sv (by assumption) | exact kdL (by omega) | exact kdQ (by omega) | rfl) qf_X5_21 dX5_lossByCutTo_6 ?_
  refine j_iload_n C dX5_lossByCutTo_9 rfl rfl ?_
  refine j_mmin C qm_X5_34 qt_J9_min_7cf53 qn_J9 qc_J9_min_7cf53 (Nat.le_of_ble_eq_true rfl) (Nat.le_of_ble_eq_true rfl) (Nat.le_of_ble_eq_true rfl) (Nat.le_of_ble_eq_true rfl) dX5_lossByCutTo_10 ?_
  refine j_callV1r C (oa_X5 (by first | assumption | exact kd_sums (by assumption) | exact kd_st1 (by assumption) | exact kd_st2 (by assumption) | exact kd_ls (by first | assumption | exact kdL (by omega) | exact kdQ (by omega) | rfl) (by assumption) | exact kd_sb (by first | assumption | exact kdL (by omega) | exact kdQ (by omega) | rfl) (by assumption) | exact kd_sv (by assumption) | exact kdL (by omega) | exact kdQ (by omega) | rfl)) rfl rfl (c_X5_receivableWith hk hz) qm_X5_40 qi_X5_receivableWith qs_X5_receivableWith qn_X5 qc_X5_receivableWith fit_X5_receivableWith ⟨Nat.le_of_ble_eq_true rfl, Nat.le_of_ble_eq_true rfl, Nat.le_of_ble_eq_true rfl, Nat.le_of_ble_eq_true rfl⟩ (Nat.le_of_ble_eq_true rfl) dX5_lossByCutTo_13 ?_
  refine j_isub C dX5_lossByCutTo_16 ?_
  exact j_iret C dX5_lossByCutTo_17 (by rfl) (by rfl) (by rfl)
set_option maxHeartbeats 4000000 in
theorem c_X5_valueOf {l : Launch} {g : GC} {V : Mem} {L : LMem} {k : Nat} (hk : kd k = 5) {w : Nat} (hw : w < 6) : MC l yX5_valueOf cX5_valueOf 2 (some .int) 0 g V L [.ref (ad g k), .int (nI w)] (some (.int (V k w))) V L := by
  refine MC.of [some (.ref (ad g k)), some (.int (nI w))] (by decide +kernel) rfl (Nat.le_of_ble_eq_true rfl) (fun p e s m args below meth c C => ?_)
  refine j_iload_n C dX5_valueOf_0 rfl rfl ?_
  rcases (show w = 0 ∨ w = 1 ∨ w = 2 ∨ w = 3 ∨ w = 4 ∨ w = 5 by omega) with rfl | rfl | rfl | rfl | rfl | rfl
  · refine j_tabIn (tgt := 36) (off := 35) C dX5_valueOf_1 (by decide) (by decide) (by decide) (by decide) ?_
    refine j_aload_n C dX5_valueOf_36 rfl rfl ?_
    refine jg_Sublease_head C (by first | assumption | exact kd_sums (by assumption) | exact kd_st1 (by assumption) | exact kd_st2 (by assumption) | exact kd_ls (by first | assumption | exact kdL (by omega) | exact kdQ (by omega) | rfl) (by assumption) | exact kd_sb (by first | assumption | exact kdL (by omega) | exact kdQ (by omega) | rfl) (by assumption) | exact kd_sv (by assumption) | exact kdL (by omega) | exact kdQ (by omega) | rfl) qf_X5_9 dX5_valueOf_37 ?_
    exact j_iret C dX5_valueOf_40 (by rfl) (by rfl) (by rfl)
  · refine j_tabIn (tgt := 41) (off := 40) C dX5_valueOf_1 (by decide) (by decide) (by decide) (by decide) ?_
    refine j_aload_n C dX5_valueOf_41 rfl rfl ?_
    refine jg_Sublease_thousandths C (by first | assumption | exact kd_sums (by assumption) | exact kd_st1 (by assumption) | exact kd_st2 (by assumption) | exact kd_ls (by first | assumption | exact kdL (by omega) | exact kdQ (by omega) | rfl) (by assumption) | exact kd_sb (by first | assumption | exact kdL (by omega) | exact kdQ (by omega) | rfl) (by assumption) | exact kd_sv (by assumption) | exact kdL (by omega) | exact kdQ (by omega) | rfl) qf_X5_15 dX5_valueOf_42 ?_
    exact j_iret C dX5_valueOf_45 (by rfl) (by rfl) (by rfl)
  · refine j_tabIn (tgt := 46) (off := 45) C dX5_valueOf_1 (by decide) (by decide) (by decide) (by decide) ?_
    refine j_aload_n C dX5_valueOf_46 rfl rfl ?_
    refine jg_Sublease_receipt C (by first | assumption | exact kd_sums (by assumption) | exact kd_st1 (by assumption) | exact kd_st2 (by assumption) | exact kd_ls (by first | assumption | exact kdL (by omega) | exact kdQ (by omega) | rfl) (by assumption) | exact kd_sb (by first | assumption | exact kdL (by omega) | exact kdQ (by omega) | rfl) (by assumption) | exact kd_sv (by assumption) | exact kdL (by omega) | exact kdQ (by omega) | rfl) qf_X5_18 dX5_valueOf_47 ?_
    exact j_iret C dX5_valueOf_50 (by rfl) (by rfl) (by rfl)
  · refine j_tabIn (tgt := 51) (off := 50) C dX5_valueOf_1 (by decide) (by decide) (by decide) (by decide) ?_
    refine j_aload_n C dX5_valueOf_51 rfl rfl ?_
    refine jg_Sublease_periods C (by first | assumption | exact kd_sums (by assumption) | exact kd_st1 (by assumption) | exact kd_st2 (by assumption) | exact kd_ls (by first | assumption | exact kdL (by omega) | exact kdQ (by omega) | rfl) (by assumption) | exact kd_sb (by first | assumption | exact kdL (by omega) | exact kdQ (by omega) | rfl) (by assumption) | exact kd_sv (by assumption) | exact kdL (by omega) | exact kdQ (by omega) | rfl) qf_X5_21 dX5_valueOf_52 ?_
    exact j_iret C dX5_valueOf_55 (by rfl) (by rfl) (by rfl)
  · refine j_tabIn (tgt := 56) (off := 55) C dX5_valueOf_1 (by decide) (by decide) (by decide) (by decide) ?_
    refine j_aload_n C dX5_valueOf_56 rfl rfl ?_
    refine jg_Sublease_rate C (by first | assumption | exact kd_sums (by assumption) | exact kd_st1 (by assumption) | exact kd_st2 (by assumption) | exact kd_ls (by first | assumption | exact kdL (by omega) | exact kdQ (by omega) | rfl) (by assumption) | exact kd_sb (by first | assumption | exact kdL (by omega) | exact kdQ (by omega) | rfl) (by assumption) | exact kd_sv (by assumption) | exact kdL (by omega) | exact kdQ (by omega) | rfl) qf_X5_24 dX5_valueOf_57 ?_
    exact j_iret C dX5_valueOf_60 (by rfl) (by rfl) (by rfl)
  · refine j_tabOut (tgt := 61) C dX5_valueOf_1 (by decide) (by decide) ?_
    refine j_aload_n C dX5_valueOf_61 rfl rfl ?_
    refine jg_Sublease_receivable C (by first | assumption | exact kd_sums (by assumption) | exact kd_st1 (by assumption) | exact kd_st2 (by assumption) | exact kd_ls (by first | assumption | exact kdL (by omega) | exact kdQ (by omega) | rfl) (by assumption) | exact kd_sb (by first | assumption | exact kdL (by omega) | exact kdQ (by omega) | rfl) (by assumption) | exact kd_sv (by assumption) | exact kdL (by omega) | exact kdQ (by omega) | rfl) qf_X5_27 dX5_valueOf_62 ?_
    exact j_iret C dX5_valueOf_65 (by rfl) (by rfl) (by rfl)
set_option maxHeartbeats 4000000 in
theorem c_X4_leaseAt {l : Launch} {g : GC} {V : Mem} {L : LMem} {b nl k r : Nat} (hb : kd b = 0) (hc : V b 2 = nI nl) (h8 : nl ≤ 8) (hk : k < nl) (hr : r = b + 3 + k) : MC l yX4_leaseAt cX4_leaseAt 2 (some (.object "LeaseBook$Lease")) 0 g V L [.ref (ad g b), .int (nI k)] (some (.ref (ad g r))) V L := by
  refine MC.of [some (.ref (ad g b)), some (.int (nI k))] (by decide +kernel) rfl (Nat.le_of_ble_eq_true rfl) (fun p e s m args below meth c C => ?_)
  refine j_iload_n C dX4_leaseAt_0 rfl rfl ?_
  refine j_if_lt (tgt := 30) C dX4_leaseAt_1 (by decide) (fun h1 => absurd h1 (nI_pos (by omega))) (fun h1 => ?_)
  refine j_iload_n C dX4_leaseAt_4 rfl rfl ?_
  refine j_aload_n C dX4_leaseAt_5 rfl rfl ?_
  refine jg_State_leaseCount C (by first | assumption | exact kd_sums (by assumption) | exact kd_st1 (by assumption) | exact kd_st2 (by assumption) | exact kd_ls (by first | assumption | exact kdL (by omega) | exact kdQ (by omega) | rfl) (by assumption) | exact kd_sb (by first | assumption | exact kdL (by omega) | exact kdQ (by omega) | rfl) (by assumption) | exact kd_sv (by assumption) | exact kdL (by omega) | exact kdQ (by omega) | rfl) qf_X4_25 dX4_leaseAt_6 ?_
  refine j_icmp_ge (tgt := 30) C dX4_leaseAt_9 (by decide) (fun h9 => (by exact absurd h9 (by rw [hc]; exact nI_ge (by omega) (by omega)))) (fun h9 => ?_)
  refine j_iload_n C dX4_leaseAt_12 rfl rfl ?_
  refine j_aload_n C dX4_leaseAt_13 rfl rfl ?_
  refine jg_State_leases C (by first | assumption | exact kd_sums (by assumption) | exact kd_st1 (by assumption) | exact kd_st2 (by assumption) | exact kd_ls (by first | assumption | exact kdL (by omega) | exact kdQ (by omega) | rfl) (by assumption) | exact kd_sb (by first | assumption | exact kdL (by omega) | exact kdQ (by omega) | rfl) (by assumption) | exact kd_sv (by assumption) | exact kdL (by omega) | exact kdQ (by omega) | rfl) qf_X4_11 dX4_leaseAt_14 ?_
  refine j_alen1 C (by first | assumption | exact kd_sums (by assumption) | exact kd_st1 (by assumption) | exact kd_st2 (by assumption) | exact kd_ls (by first | assumption | exact kdL (by omega) | exact kdQ (by omega) | rfl) (by assumption) | exact kd_sb (by first | assumption | exact kdL (by omega) | exact kdQ (by omega) | rfl) (by assumption) | exact kd_sv (by assumption) | exact kdL (by omega) | exact kdQ (by omega) | rfl) rfl dX4_leaseAt_17 ?_
  refine j_icmp_ge (tgt := 30) C dX4_leaseAt_18 (by decide) (fun h18 => absurd h18 (nI_ge (by omega) (by omega))) (fun h18 => ?_)
  refine j_aload_n C dX4_leaseAt_21 rfl rfl ?_
  refine jg_State_leases C (by first | assumption | exact kd_sums (by assumption) | exact kd_st1 (by assumption) | exact kd_st2 (by assumption) | exact kd_ls (by first | assumption | exact kdL (by omega) | exact kdQ (by omega) | rfl) (by assumption) | exact kd_sb (by first | assumption | exact kdL (by omega) | exact kdQ (by omega) | rfl) (by assumption) | exact kd_sv (by assumption) | exact kdL (by omega) | exact kdQ (by omega) | rfl) qf_X4_11 dX4_leaseAt_22 ?_
  refine j_iload_n C dX4_leaseAt_25 rfl rfl ?_
  refine j_aald1 C (by first | assumption | exact kd_sums (by assumption) | exact kd_st1 (by assumption) | exact kd_st2 (by assumption) | exact kd_ls (by first | assumption | exact kdL (by omega) | exact kdQ (by omega) | rfl) (by assumption) | exact kd_sb (by first | assumption | exact kdL (by omega) | exact kdQ (by omega) | rfl) (by assumption) | exact kd_sv (by assumption) | exact kdL (by omega) | exact kdQ (by omega) | rfl) rfl (by omega) dX4_leaseAt_26 ?_
  subst hr
  refine j_goto (tgt := 31) C dX4_leaseAt_27 (by decide) ?_
  exact j_aret C dX4_leaseAt_31 (by rfl) (by rfl) (by rfl)
set_option maxHeartbeats 4000000 in
theorem c_X4_leaseAt_null {l : Launch} {g : GC} {V : Mem} {L : LMem} {b : Nat} {x : Int32} (hb : kd b = 0) (hx : ¬ (nI 0 ≤ x ∧ x < V b 2)) : MC l yX4_leaseAt cX4_leaseAt 2 (some (.object "LeaseBook$Lease")) 0 g V L [.ref (ad g b), .int x] (some (.null)) V L := by
  refine MC.of [some (.ref (ad g b)), some (.int x)] (by decide +kernel) rfl (Nat.le_of_ble_eq_true rfl) (fun p e s m args below meth c C => ?_)
  refine j_iload_n C dX4_leaseAt_0 rfl rfl ?_
  refine j_if_lt (tgt := 30) C dX4_leaseAt_1 (by decide) (fun h1 => ?_) (fun h1 => ?_)
  · refine j_null C dX4_leaseAt_30 ?_
    exact j_aretnull C dX4_leaseAt_31 (by rfl) (by rfl) (by rfl)
  · refine j_iload_n C dX4_leaseAt_4 rfl rfl ?_
    refine j_aload_n C dX4_leaseAt_5 rfl rfl ?_
    refine jg_State_leaseCount C (by first | assumption | exact kd_sums (by assumption) | exact kd_st1 (by assumption) | exact kd_st2 (by assumption) | exact kd_ls (by first | assumption | exact kdL (by omega) | exact kdQ (by omega) | rfl) (by assumption) | exact kd_sb (by first | assumption | exact kdL (by omega) | exact kdQ (by omega) | rfl) (by assumption) | exact kd_sv (by assumption) | exact kdL (by omega) | exact kdQ (by omega) | rfl) qf_X4_25 dX4_leaseAt_6 ?_
    refine j_icmp_ge (tgt := 30) C dX4_leaseAt_9 (by decide) (fun h9 => ?_) (fun h9 => ?_)
    · refine j_null C dX4_leaseAt_30 ?_
      exact j_aretnull C dX4_leaseAt_31 (by rfl) (by rfl) (by rfl)
    · exfalso
      exact hx ⟨Int32.not_lt.mp h1, Int32.not_le.mp h9⟩
set_option maxHeartbeats 4000000 in
theorem c_X4_subleaseAt {l : Launch} {g : GC} {V : Mem} {L : LMem} {b ns k r : Nat} (hb : kd b = 0) (hc : V b 3 = nI ns) (h12 : ns ≤ 12) (hk : k < ns) (hr : r = b + 19 + k) : MC l yX4_subleaseAt cX4_subleaseAt 2 (some (.object "LeaseBook$Sublease")) 0 g V L [.ref (ad g b), .int (nI k)] (some (.ref (ad g r))) V L := by
  refine MC.of [some (.ref (ad g b)), some (.int (nI k))] (by decide +kernel) rfl (Nat.le_of_ble_eq_true rfl) (fun p e s m args below meth c C => ?_)
  refine j_iload_n C dX4_subleaseAt_0 rfl rfl ?_
  refine j_if_lt (tgt := 30) C dX4_subleaseAt_1 (by decide) (fun h1 => absurd h1 (nI_pos (by omega))) (fun h1 => ?_)
  refine j_iload_n C dX4_subleaseAt_4 rfl rfl ?_
  refine j_aload_n C dX4_subleaseAt_5 rfl rfl ?_
  refine jg_State_subleaseCount C (by first | assumption | exact kd_sums (by assumption) | exact kd_st1 (by assumption) | exact kd_st2 (by assumption) | exact kd_ls (by first | assumption | exact kdL (by omega) | exact kdQ (by omega) | rfl) (by assumption) | exact kd_sb (by first | assumption | exact kdL (by omega) | exact kdQ (by omega) | rfl) (by assumption) | exact kd_sv (by assumption) | exact kdL (by omega) | exact kdQ (by omega) | rfl) qf_X4_29 dX4_subleaseAt_6 ?_
  refine j_icmp_ge (tgt := 30) C dX4_subleaseAt_9 (by decide) (fun h9 => (by exact absurd h9 (by rw [hc]; exact nI_ge (by omega) (by omega)))) (fun h9 => ?_)
  refine j_iload_n C dX4_subleaseAt_12 rfl rfl ?_
  refine j_aload_n C dX4_subleaseAt_13 rfl rfl ?_
  refine jg_State_subleases C (by first | assumption | exact kd_sums (by assumption) | exact kd_st1 (by assumption) | exact kd_st2 (by assumption) | exact kd_ls (by first | assumption | exact kdL (by omega) | exact kdQ (by omega) | rfl) (by assumption) | exact kd_sb (by first | assumption | exact kdL (by omega) | exact kdQ (by omega) | rfl) (by assumption) | exact kd_sv (by assumption) | exact kdL (by omega) | exact kdQ (by omega) | rfl) qf_X4_19 dX4_subleaseAt_14 ?_
  refine j_alen2 C (by first | assumption | exact kd_sums (by assumption) | exact kd_st1 (by assumption) | exact kd_st2 (by assumption) | exact kd_ls (by first | assumption | exact kdL (by omega) | exact kdQ (by omega) | rfl) (by assumption) | exact kd_sb (by first | assumption | exact kdL (by omega) | exact kdQ (by omega) | rfl) (by assumption) | exact kd_sv (by assumption) | exact kdL (by omega) | exact kdQ (by omega) | rfl) rfl dX4_subleaseAt_17 ?_
  refine j_icmp_ge (tgt := 30) C dX4_subleaseAt_18 (by decide) (fun h18 => absurd h18 (nI_ge (by omega) (by omega))) (fun h18 => ?_)
  refine j_aload_n C dX4_subleaseAt_21 rfl rfl ?_
  refine jg_State_subleases C (by first | assumption | exact kd_sums (by assumption) | exact kd_st1 (by assumption) | exact kd_st2 (by assumption) | exact kd_ls (by first | assumption | exact kdL (by omega) | exact kdQ (by omega) | rfl) (by assumption) | exact kd_sb (by first | assumption | exact kdL (by omega) | exact kdQ (by omega) | rfl) (by assumption) | exact kd_sv (by assumption) | exact kdL (by omega) | exact kdQ (by omega) | rfl) qf_X4_19 dX4_subleaseAt_22 ?_
  refine j_iload_n C dX4_subleaseAt_25 rfl rfl ?_
  refine j_aald2 C (by first | assumption | exact kd_sums (by assumption) | exact kd_st1 (by assumption) | exact kd_st2 (by assumption) | exact kd_ls (by first | assumption | exact kdL (by omega) | exact kdQ (by omega) | rfl) (by assumption) | exact kd_sb (by first | assumption | exact kdL (by omega) | exact kdQ (by omega) | rfl) (by assumption) | exact kd_sv (by assumption) | exact kdL (by omega) | exact kdQ (by omega) | rfl) rfl (by omega) dX4_subleaseAt_26 ?_
  subst hr
  refine j_goto (tgt := 31) C dX4_subleaseAt_27 (by decide) ?_
  exact j_aret C dX4_subleaseAt_31 (by rfl) (by rfl) (by rfl)
set_option maxHeartbeats 4000000 in
theorem c_X4_subleaseAt_null {l : Launch} {g : GC} {V : Mem} {L : LMem} {b : Nat} {x : Int32} (hb : kd b = 0) (hx : ¬ (nI 0 ≤ x ∧ x < V b 3)) : MC l yX4_subleaseAt cX4_subleaseAt 2 (some (.object "LeaseBook$Sublease")) 0 g V L [.ref (ad g b), .int x] (some (.null)) V L := by
  refine MC.of [some (.ref (ad g b)), some (.int x)] (by decide +kernel) rfl (Nat.le_of_ble_eq_true rfl) (fun p e s m args below meth c C => ?_)
  refine j_iload_n C dX4_subleaseAt_0 rfl rfl ?_
  refine j_if_lt (tgt := 30) C dX4_subleaseAt_1 (by decide) (fun h1 => ?_) (fun h1 => ?_)
  · refine j_null C dX4_subleaseAt_30 ?_
    exact j_aretnull C dX4_subleaseAt_31 (by rfl) (by rfl) (by rfl)
  · refine j_iload_n C dX4_subleaseAt_4 rfl rfl ?_
    refine j_aload_n C dX4_subleaseAt_5 rfl rfl ?_
    refine jg_State_subleaseCount C (by first | assumption | exact kd_sums (by assumption) | exact kd_st1 (by assumption) | exact kd_st2 (by assumption) | exact kd_ls (by first | assumption | exact kdL (by omega) | exact kdQ (by omega) | rfl) (by assumption) | exact kd_sb (by first | assumption | exact kdL (by omega) | exact kdQ (by omega) | rfl) (by assumption) | exact kd_sv (by assumption) | exact kdL (by omega) | exact kdQ (by omega) | rfl) qf_X4_29 dX4_subleaseAt_6 ?_
    refine j_icmp_ge (tgt := 30) C dX4_subleaseAt_9 (by decide) (fun h9 => ?_) (fun h9 => ?_)
    · refine j_null C dX4_subleaseAt_30 ?_
      exact j_aretnull C dX4_subleaseAt_31 (by rfl) (by rfl) (by rfl)
    · exfalso
      exact hx ⟨Int32.not_lt.mp h1, Int32.not_le.mp h9⟩
abbrev LC (nl : Nat) (V : Mem) : Prop := V 0 2 = nI nl ∧ nl ≤ 8
abbrev SC (ns : Nat) (V : Mem) : Prop := V 0 3 = nI ns ∧ ns ≤ 12
theorem at_L {l : Launch} {g : GC} {V : Mem} {L : LMem} {nl k : Nat} (h : LC nl V) (hk : k < nl) : MC l yX4_leaseAt cX4_leaseAt 2 (some (.object "LeaseBook$Lease")) 0 g V L [.ref (ad g 0), .int (nI k)] (some (.ref (ad g (3 + k)))) V L := c_X4_leaseAt rfl h.1 h.2 hk (by omega)
theorem at_S {l : Launch} {g : GC} {V : Mem} {L : LMem} {ns q : Nat} (h : SC ns V) (hq : q < ns) : MC l yX4_subleaseAt cX4_subleaseAt 2 (some (.object "LeaseBook$Sublease")) 0 g V L [.ref (ad g 0), .int (nI q)] (some (.ref (ad g (19 + q)))) V L := c_X4_subleaseAt rfl h.1 h.2 hq (by omega)
def cSub (V : Mem) (ns k w : Nat) : Int32 := sF (runU V k) (fun q => V (19 + q) w) ns
def cLoss (V : Mem) (ns k : Nat) (n : Int32) : Int32 := sF (runU V k) (fun q => V (19 + q) 5 - wor (V (19 + q) 2) (mn (V (19 + q) 3) n) (V (19 + q) 4)) ns
def cRecB (V : Mem) (ns k : Nat) (d : Int32) : Int32 := sF (runU V k) (fun q => wor (V (19 + q) 2) (V (19 + q) 3 - d) (V (19 + q) 4)) ns
def cRunOf (V : Mem) (ns k : Nat) : Int32 := sF (runU V k) (fun _ => nI 1) ns
def cRunL (V : Mem) (nl : Nat) : Int32 := sF (fun k => decide (0 < V (3 + k) 1)) (fun _ => nI 1) nl
def cProp (V : Mem) (ns k w : Nat) : Int32 := if w < 5 then V (3 + k) w else if w = 5 then cSub V ns k 5 else if w = 6 then V (3 + k) 3 - cSub V ns k 5 else if w = 7 then cSub V ns k 1 else cRunOf V ns k
def cSumL (V : Mem) (nl ns w : Nat) : Int32 := sF (fun _ => true) (fun k => cProp V ns k w) nl
def cAllP (V : Mem) (nl : Nat) : Int32 := sF (fun _ => true) (fun k => cProf0 (3 + k) V) nl
def cEF (V : Mem) : Nat → Int32 × Int32
  | 0 => (-1, nI 61)
  | k + 1 => if 0 < V (3 + k) 1 ∧ V (3 + k) 1 < (cEF V k).2 then (nI k, V (3 + k) 1) else cEF V k
abbrev rateS (ns : Nat) (V : Mem) : Prop := ∀ q, q < ns → rateR (V (19 + q) 4)
set_option maxHeartbeats 4000000 in
theorem lp_X4_sumOfSubleases {p : Program} {l : Launch} {e : Env} {s : State} {m : MethodId} {args : Array Value} {below : List Frame} {meth : Method} {c : Code} {g : GC} {Q : State → Prop} {V : Mem} {L : LMem} {k ns : Nat} {w : Nat} (C : Cx p s args m meth c cX4_sumOfSubleases 6 yX4_sumOfSubleases.cls (some .int) g) (h : SC ns V) (hw : w < 6) (kx : J p l e (RM 1) s m args below meth c 6 g 0 0 Q V L 51 [some (.ref (ad g 0)), some (.int (nI k)), some (.int (nI w)), some (.int (sF (runU V k) (fun q => V (19 + q) w) (ns))), some (.int (nI (ns))), none] []) : ∀ j i : Nat, i + j = ns → J p l e (RM 1) s m args below meth c 6 g 0 0 Q V L 5 [some (.ref (ad g 0)), some (.int (nI k)), some (.int (nI w)), some (.int (sF (runU V k) (fun q => V (19 + q) w) i)), some (.int (nI i)), none] [] := by
  intro j
  induction j with
  | zero =>
    intro i hi
    have hi : ns = i := by omega
    subst hi
    refine j_iload C dX4_sumOfSubleases_5 rfl ?_
    refine j_aload_n C dX4_sumOfSubleases_7 rfl rfl ?_
    refine jg_State_subleaseCount C (by first | assumption | exact kd_sums (by assumption) | exact kd_st1 (by assumption) | exact kd_st2 (by assumption) | exact kd_ls (by first | assumption | exact kdL (by omega) | exact kdQ (by omega) | rfl) (by assumption) | exact kd_sb (by first | assumption | exact kdL (by omega) | exact kdQ (by omega) | rfl) (by assumption) | exact kd_sv (by assumption) | exact kdL (by omega) | exact kdQ (by omega) | rfl) qf_X4_29 dX4_sumOfSubleases_8 ?_
    refine j_tope (y := nI ns) (by exact h.1) ?_
    refine j_icmp_ge (tgt := 51) C dX4_sumOfSubleases_11 (by decide) (fun h11 => ?_) (fun h11 => absurd (nI_le (by omega) (by have := h.2; omega)) h11)
    exact kx
  | succ j ih =>
    intro i hi
    have h12 := h.2
    refine j_iload C dX4_sumOfSubleases_5 rfl ?_
    refine j_aload_n C dX4_sumOfSubleases_7 rfl rfl ?_
    refine jg_State_subleaseCount C (by first | assumption | exact kd_sums (by assumption) | exact kd_st1 (by assumption) | exact kd_st2 (by assumption) | exact kd_ls (by first | assumption | exact kdL (by omega) | exact kdQ (by omega) | rfl) (by assumption) | exact kd_sb (by first | assumption | exact kdL (by omega) | exact kdQ (by omega) | rfl) (by assumption) | exact kd_sv (by assumption) | exact kdL (by omega) | exact kdQ (by omega) | rfl) qf_X4_29 dX4_sumOfSubleases_8 ?_
    refine j_tope (y := nI ns) (by exact h.1) ?_
    refine j_icmp_ge (tgt := 51) C dX4_sumOfSubleases_11 (by decide) (fun h11 => absurd h11 (nI_ge (by omega) (by have := h.2; omega))) (fun h11 => ?_)
    refine j_aload_n C dX4_sumOfSubleases_14 rfl rfl ?_
    refine j_iload C dX4_sumOfSubleases_15 rfl ?_
    refine j_callV1r C (oa_X4 (by first | assumption | exact kd_sums (by assumption) | exact kd_st1 (by assumption) | exact kd_st2 (by assumption) | exact kd_ls (by first | assumption | exact kdL (by omega) | exact kdQ (by omega) | rfl) (by assumption) | exact kd_sb (by first | assumption | exact kdL (by omega) | exact kdQ (by omega) | rfl) (by assumption) | exact kd_sv (by assumption) | exact kdL (by omega) | exact kdQ (by omega) | rfl)) rfl rfl (at_S h (by omega)) qm_X4_43 qi_X4_subleaseAt qs_X4_subleaseAt qn_X4 qc_X4_subleaseAt fit_X4_subleaseAt ⟨Nat.le_of_ble_eq_true rfl, Nat.le_of_ble_eq_true rfl, Nat.le_of_ble_eq_true rfl, Nat.le_of_ble_eq_true rfl⟩ (Nat.le_of_ble_eq_true rfl) dX4_sumOfSubleases_17 ?_
    refine j_ast5 C dX4_sumOfSubleases_20 (Nat.le_of_ble_eq_true rfl) rfl ?_
    refine j_aload C dX4_sumOfSubleases_22 rfl ?_
    refine j_ifnull C dX4_sumOfSubleases_24 ?_
    refine j_aload C dX4_sumOfSubleases_27 rfl ?_
    refine j_iload_n C dX4_sumOfSubleases_29 rfl rfl ?_
    refine j_callV1r C (oa_X5 (by first | assumption | exact kd_sums (by assumption) | exact kd_st1 (by assumption) | exact kd_st2 (by assumption) | exact kd_ls (by first | assumption | exact kdL (by omega) | exact kdQ (by omega) | rfl) (by assumption) | exact kd_sb (by first | assumption | exact kdL (by omega) | exact kdQ (by omega) | rfl) (by assumption) | exact kd_sv (by assumption) | exact kdL (by omega) | exact kdQ (by omega) | rfl)) rfl rfl (c_X5_runsUnder (kdQ (by omega))) qm_X4_114 qi_X5_runsUnder qs_X5_runsUnder qn_X5 qc_X5_runsUnder fit_X5_runsUnder ⟨Nat.le_of_ble_eq_true rfl, Nat.le_of_ble_eq_true rfl, Nat.le_of_ble_eq_true rfl, Nat.le_of_ble_eq_true rfl⟩ (Nat.le_of_ble_eq_true rfl) dX4_sumOfSubleases_30 ?_
    refine j_if_eq (tgt := 45) C dX4_sumOfSubleases_33 (by decide) (fun h33 => ?_) (fun h33 => ?_)
    · replace h33 := b2i_0 h33
      refine j_incN4 (q := 1) C dX4_sumOfSubleases_45 (by decide) (Nat.le_of_ble_eq_true rfl) rfl ?_
      refine j_goto (tgt := 5) C dX4_sumOfSubleases_48 (by decide) ?_
      refine j_mem (V' := V) (L' := L) (by rfl) rfl ?_
      exact j_dr (lv' := [some (.ref (ad g 0)), some (.int (nI k)), some (.int (nI w)), some (.int (sF (runU V k) (fun q => V (19 + q) w) (i + 1))), some (.int (nI (i + 1))), none]) (And.intro rfl (And.intro rfl (And.intro rfl (And.intro (by first | exact congrArg (fun z => some (Value.int z)) (sF_t (runU_t h33)) | exact congrArg (fun z => some (Value.int z)) (sF_f (runU_f h33))) (And.intro rfl True.intro))))) (ih (i + 1) (by omega))
    · replace h33 := b2i_1 h33
      refine j_iload_n C dX4_sumOfSubleases_36 rfl rfl ?_
      refine j_aload C dX4_sumOfSubleases_37 rfl ?_
      refine j_iload_n C dX4_sumOfSubleases_39 rfl rfl ?_
      refine j_callV1r C (oa_X5 (by first | assumption | exact kd_sums (by assumption) | exact kd_st1 (by assumption) | exact kd_st2 (by assumption) | exact kd_ls (by first | assumption | exact kdL (by omega) | exact kdQ (by omega) | rfl) (by assumption) | exact kd_sb (by first | assumption | exact kdL (by omega) | exact kdQ (by omega) | rfl) (by assumption) | exact kd_sv (by assumption) | exact kdL (by omega) | exact kdQ (by omega) | rfl)) rfl rfl (c_X5_valueOf (kdQ (by omega)) hw) qm_X4_98 qi_X5_valueOf qs_X5_valueOf qn_X5 qc_X5_valueOf fit_X5_valueOf ⟨Nat.le_of_ble_eq_true rfl, Nat.le_of_ble_eq_true rfl, Nat.le_of_ble_eq_true rfl, Nat.le_of_ble_eq_true rfl⟩ (Nat.le_of_ble_eq_true rfl) dX4_sumOfSubleases_40 ?_
      refine j_iadd C dX4_sumOfSubleases_43 ?_
      refine j_ist3 C dX4_sumOfSubleases_44 rfl (Nat.le_of_ble_eq_true rfl) rfl ?_
      refine j_incN4 (q := 1) C dX4_sumOfSubleases_45 (by decide) (Nat.le_of_ble_eq_true rfl) rfl ?_
      refine j_goto (tgt := 5) C dX4_sumOfSubleases_48 (by decide) ?_
      refine j_mem (V' := V) (L' := L) (by rfl) rfl ?_
      exact j_dr (lv' := [some (.ref (ad g 0)), some (.int (nI k)), some (.int (nI w)), some (.int (sF (runU V k) (fun q => V (19 + q) w) (i + 1))), some (.int (nI (i + 1))), none]) (And.intro rfl (And.intro rfl (And.intro rfl (And.intro (by first | exact congrArg (fun z => some (Value.int z)) (sF_t (runU_t h33)) | exact congrArg (fun z => some (Value.int z)) (sF_f (runU_f h33))) (And.intro rfl True.intro))))) (ih (i + 1) (by omega))
set_option maxHeartbeats 4000000 in
theorem c_X4_sumOfSubleases {l : Launch} {g : GC} {V : Mem} {L : LMem} {k ns w : Nat} (h : SC ns V) (hw : w < 6) : MC l yX4_sumOfSubleases cX4_sumOfSubleases 6 (some .int) 1 g V L [.ref (ad g 0), .int (nI k), .int (nI w)] (some (.int (cSub V ns k w))) V L := by
  refine MC.of [some (.ref (ad g 0)), some (.int (nI k)), some (.int (nI w)), none, none, none] (by decide +kernel) rfl (Nat.le_of_ble_eq_true rfl) (fun p e s m args below meth c C => ?_)
  refine j_iconst (v := (nI 0)) C dX4_sumOfSubleases_0 (by decide) ?_
  refine j_ist3 C dX4_sumOfSubleases_1 rfl (Nat.le_of_ble_eq_true rfl) rfl ?_
  refine j_iconst (v := (nI 0)) C dX4_sumOfSubleases_2 (by decide) ?_
  refine j_ist4 C dX4_sumOfSubleases_3 (Nat.le_of_ble_eq_true rfl) rfl ?_
  refine lp_X4_sumOfSubleases C h hw ?_ ns 0 (by omega)
  refine j_iload_n C dX4_sumOfSubleases_51 rfl rfl ?_
  exact j_iret C dX4_sumOfSubleases_52 (by rfl) (by rfl) (by rfl)
set_option maxHeartbeats 4000000 in
theorem lp_X4_lossByCutOff {p : Program} {l : Launch} {e : Env} {s : State} {m : MethodId} {args : Array Value} {below : List Frame} {meth : Method} {c : Code} {g : GC} {Q : State → Prop} {V : Mem} {L : LMem} {k ns : Nat} {x : Int32} (C : Cx p s args m meth c cX4_lossByCutOff 6 yX4_lossByCutOff.cls (some .int) g) (h : SC ns V) (hr : rateS ns V) (kx : J p l e (RM 3) s m args below meth c 6 g 0 0 Q V L 51 [some (.ref (ad g 0)), some (.int (nI k)), some (.int x), some (.int (sF (runU V k) (fun q => V (19 + q) 5 - wor (V (19 + q) 2) (mn (V (19 + q) 3) x) (V (19 + q) 4)) (ns))), some (.int (nI (ns))), none] []) : ∀ j i : Nat, i + j = ns → J p l e (RM 3) s m args below meth c 6 g 0 0 Q V L 5 [some (.ref (ad g 0)), some (.int (nI k)), some (.int x), some (.int (sF (runU V k) (fun q => V (19 + q) 5 - wor (V (19 + q) 2) (mn (V (19 + q) 3) x) (V (19 + q) 4)) i)), some (.int (nI i)), none] [] := by
  intro j
  induction j with
  | zero =>
    intro i hi
    have hi : ns = i := by omega
    subst hi
    refine j_iload C dX4_lossByCutOff_5 rfl ?_
    refine j_aload_n C dX4_lossByCutOff_7 rfl rfl ?_
    refine jg_State_subleaseCount C (by first | assumption | exact kd_sums (by assumption) | exact kd_st1 (by assumption) | exact kd_st2 (by assumption) | exact kd_ls (by first | assumption | exact kdL (by omega) | exact kdQ (by omega) | rfl) (by assumption) | exact kd_sb (by first | assumption | exact kdL (by omega) | exact kdQ (by omega) | rfl) (by assumption) | exact kd_sv (by assumption) | exact kdL (by omega) | exact kdQ (by omega) | rfl) qf_X4_29 dX4_lossByCutOff_8 ?_
    refine j_tope (y := nI ns) (by exact h.1) ?_
    refine j_icmp_ge (tgt := 51) C dX4_lossByCutOff_11 (by decide) (fun h11 => ?_) (fun h11 => absurd (nI_le (by omega) (by have := h.2; omega)) h11)
    exact kx
  | succ j ih =>
    intro i hi
    have h12 := h.2
    refine j_iload C dX4_lossByCutOff_5 rfl ?_
    refine j_aload_n C dX4_lossByCutOff_7 rfl rfl ?_
    refine jg_State_subleaseCount C (by first | assumption | exact kd_sums (by assumption) | exact kd_st1 (by assumption) | exact kd_st2 (by assumption) | exact kd_ls (by first | assumption | exact kdL (by omega) | exact kdQ (by omega) | rfl) (by assumption) | exact kd_sb (by first | assumption | exact kdL (by omega) | exact kdQ (by omega) | rfl) (by assumption) | exact kd_sv (by assumption) | exact kdL (by omega) | exact kdQ (by omega) | rfl) qf_X4_29 dX4_lossByCutOff_8 ?_
    refine j_tope (y := nI ns) (by exact h.1) ?_
    refine j_icmp_ge (tgt := 51) C dX4_lossByCutOff_11 (by decide) (fun h11 => absurd h11 (nI_ge (by omega) (by have := h.2; omega))) (fun h11 => ?_)
    refine j_aload_n C dX4_lossByCutOff_14 rfl rfl ?_
    refine j_iload C dX4_lossByCutOff_15 rfl ?_
    refine j_callV1r C (oa_X4 (by first | assumption | exact kd_sums (by assumption) | exact kd_st1 (by assumption) | exact kd_st2 (by assumption) | exact kd_ls (by first | assumption | exact kdL (by omega) | exact kdQ (by omega) | rfl) (by assumption) | exact kd_sb (by first | assumption | exact kdL (by omega) | exact kdQ (by omega) | rfl) (by assumption) | exact kd_sv (by assumption) | exact kdL (by omega) | exact kdQ (by omega) | rfl)) rfl rfl (at_S h (by omega)) qm_X4_43 qi_X4_subleaseAt qs_X4_subleaseAt qn_X4 qc_X4_subleaseAt fit_X4_subleaseAt ⟨Nat.le_of_ble_eq_true rfl, Nat.le_of_ble_eq_true rfl, Nat.le_of_ble_eq_true rfl, Nat.le_of_ble_eq_true rfl⟩ (Nat.le_of_ble_eq_true rfl) dX4_lossByCutOff_17 ?_
    refine j_ast5 C dX4_lossByCutOff_20 (Nat.le_of_ble_eq_true rfl) rfl ?_
    refine j_aload C dX4_lossByCutOff_22 rfl ?_
    refine j_ifnull C dX4_lossByCutOff_24 ?_
    refine j_aload C dX4_lossByCutOff_27 rfl ?_
    refine j_iload_n C dX4_lossByCutOff_29 rfl rfl ?_
    refine j_callV1r C (oa_X5 (by first | assumption | exact kd_sums (by assumption) | exact kd_st1 (by assumption) | exact kd_st2 (by assumption) | exact kd_ls (by first | assumption | exact kdL (by omega) | exact kdQ (by omega) | rfl) (by assumption) | exact kd_sb (by first | assumption | exact kdL (by omega) | exact kdQ (by omega) | rfl) (by assumption) | exact kd_sv (by assumption) | exact kdL (by omega) | exact kdQ (by omega) | rfl)) rfl rfl (c_X5_runsUnder (kdQ (by omega))) qm_X4_114 qi_X5_runsUnder qs_X5_runsUnder qn_X5 qc_X5_runsUnder fit_X5_runsUnder ⟨Nat.le_of_ble_eq_true rfl, Nat.le_of_ble_eq_true rfl, Nat.le_of_ble_eq_true rfl, Nat.le_of_ble_eq_true rfl⟩ (Nat.le_of_ble_eq_true rfl) dX4_lossByCutOff_30 ?_
    refine j_if_eq (tgt := 45) C dX4_lossByCutOff_33 (by decide) (fun h33 => ?_) (fun h33 => ?_)
    · replace h33 := b2i_0 h33
      refine j_incN4 (q := 1) C dX4_lossByCutOff_45 (by decide) (Nat.le_of_ble_eq_true rfl) rfl ?_
      refine j_goto (tgt := 5) C dX4_lossByCutOff_48 (by decide) ?_
      refine j_mem (V' := V) (L' := L) (by rfl) rfl ?_
      exact j_dr (lv' := [some (.ref (ad g 0)), some (.int (nI k)), some (.int x), some (.int (sF (runU V k) (fun q => V (19 + q) 5 - wor (V (19 + q) 2) (mn (V (19 + q) 3) x) (V (19 + q) 4)) (i + 1))), some (.int (nI (i + 1))), none]) (And.intro rfl (And.intro rfl (And.intro rfl (And.intro (by first | exact congrArg (fun z => some (Value.int z)) (sF_t (runU_t h33)) | exact congrArg (fun z => some (Value.int z)) (sF_f (runU_f h33))) (And.intro rfl True.intro))))) (ih (i + 1) (by omega))
    · replace h33 := b2i_1 h33
      refine j_iload_n C dX4_lossByCutOff_36 rfl rfl ?_
      refine j_aload C dX4_lossByCutOff_37 rfl ?_
      refine j_iload_n C dX4_lossByCutOff_39 rfl rfl ?_
      refine j_callV1r C (oa_X5 (by first | assumption | exact kd_sums (by assumption) | exact kd_st1 (by assumption) | exact kd_st2 (by assumption) | exact kd_ls (by first | assumption | exact kdL (by omega) | exact kdQ (by omega) | rfl) (by assumption) | exact kd_sb (by first | assumption | exact kdL (by omega) | exact kdQ (by omega) | rfl) (by assumption) | exact kd_sv (by assumption) | exact kdL (by omega) | exact kdQ (by omega) | rfl)) rfl rfl (c_X5_lossByCutTo (kdQ (by omega)) (hr i (by omega))) qm_X4_123 qi_X5_lossByCutTo qs_X5_lossByCutTo qn_X5 qc_X5_lossByCutTo fit_X5_lossByCutTo ⟨Nat.le_of_ble_eq_true rfl, Nat.le_of_ble_eq_true rfl, Nat.le_of_ble_eq_true rfl, Nat.le_of_ble_eq_true rfl⟩ (Nat.le_of_ble_eq_true rfl) dX4_lossByCutOff_40 ?_
      refine j_iadd C dX4_lossByCutOff_43 ?_
      refine j_ist3 C dX4_lossByCutOff_44 rfl (Nat.le_of_ble_eq_true rfl) rfl ?_
      refine j_incN4 (q := 1) C dX4_lossByCutOff_45 (by decide) (Nat.le_of_ble_eq_true rfl) rfl ?_
      refine j_goto (tgt := 5) C dX4_lossByCutOff_48 (by decide) ?_
      refine j_mem (V' := V) (L' := L) (by rfl) rfl ?_
      exact j_dr (lv' := [some (.ref (ad g 0)), some (.int (nI k)), some (.int x), some (.int (sF (runU V k) (fun q => V (19 + q) 5 - wor (V (19 + q) 2) (mn (V (19 + q) 3) x) (V (19 + q) 4)) (i + 1))), some (.int (nI (i + 1))), none]) (And.intro rfl (And.intro rfl (And.intro rfl (And.intro (by first | exact congrArg (fun z => some (Value.int z)) (sF_t (runU_t h33)) | exact congrArg (fun z => some (Value.int z)) (sF_f (runU_f h33))) (And.intro rfl True.intro))))) (ih (i + 1) (by omega))
set_option maxHeartbeats 4000000 in
theorem c_X4_lossByCutOff {l : Launch} {g : GC} {V : Mem} {L : LMem} {k ns : Nat} {x : Int32} (h : SC ns V) (hr : rateS ns V) : MC l yX4_lossByCutOff cX4_lossByCutOff 6 (some .int) 3 g V L [.ref (ad g 0), .int (nI k), .int x] (some (.int (cLoss V ns k x))) V L := by
  refine MC.of [some (.ref (ad g 0)), some (.int (nI k)), some (.int x), none, none, none] (by decide +kernel) rfl (Nat.le_of_ble_eq_true rfl) (fun p e s m args below meth c C => ?_)
  refine j_iconst (v := (nI 0)) C dX4_lossByCutOff_0 (by decide) ?_
  refine j_ist3 C dX4_lossByCutOff_1 rfl (Nat.le_of_ble_eq_true rfl) rfl ?_
  refine j_iconst (v := (nI 0)) C dX4_lossByCutOff_2 (by decide) ?_
  refine j_ist4 C dX4_lossByCutOff_3 (Nat.le_of_ble_eq_true rfl) rfl ?_
  refine lp_X4_lossByCutOff C h hr ?_ ns 0 (by omega)
  refine j_iload_n C dX4_lossByCutOff_51 rfl rfl ?_
  exact j_iret C dX4_lossByCutOff_52 (by rfl) (by rfl) (by rfl)


set_option maxHeartbeats 4000000 in
theorem lp_X4_runningOf {p : Program} {l : Launch} {e : Env} {s : State} {m : MethodId} {args : Array Value} {below : List Frame} {meth : Method} {c : Code} {g : GC} {Q : State → Prop} {V : Mem} {L : LMem} {k ns : Nat} (C : Cx p s args m meth c cX4_runningOf 5 yX4_runningOf.cls (some .int) g) (h : SC ns V) (kx : J p l e (RM 1) s m args below meth c 5 g 0 0 Q V L 42 [some (.ref (ad g 0)), some (.int (nI k)), some (.int (sF (runU V k) (fun _ => nI 1) (ns))), some (.int (nI (ns))), none] []) : ∀ j i : Nat, i + j = ns → J p l e (RM 1) s m args below meth c 5 g 0 0 Q V L 4 [some (.ref (ad g 0)), some (.int (nI k)), some (.int (sF (runU V k) (fun _ => nI 1) i)), some (.int (nI i)), none] [] := by
  intro j
  induction j with
  | zero =>
    intro i hi
    have hi : ns = i := by omega
    subst hi
    refine j_iload_n C dX4_runningOf_4 rfl rfl ?_
    refine j_aload_n C dX4_runningOf_5 rfl rfl ?_
    refine jg_State_subleaseCount C (by first | assumption | exact kd_sums (by assumption) | exact kd_st1 (by assumption) | exact kd_st2 (by assumption) | exact kd_ls (by first | assumption | exact kdL (by omega) | exact kdQ (by omega) | rfl) (by assumption) | exact kd_sb (by first | assumption | exact kdL (by omega) | exact kdQ (by omega) | rfl) (by assumption) | exact kd_sv (by assumption) | exact kdL (by omega) | exact kdQ (by omega) | rfl) qf_X4_29 dX4_runningOf_6 ?_
    refine j_tope (y := nI ns) (by exact h.1) ?_
    refine j_icmp_ge (tgt := 42) C dX4_runningOf_9 (by decide) (fun h9 => ?_) (fun h9 => absurd (nI_le (by omega) (by have := h.2; omega)) h9)
    exact kx
  | succ j ih =>
    intro i hi
    have h12 := h.2
    refine j_iload_n C dX4_runningOf_4 rfl rfl ?_
    refine j_aload_n C dX4_runningOf_5 rfl rfl ?_
    refine jg_State_subleaseCount C (by first | assumption | exact kd_sums (by assumption) | exact kd_st1 (by assumption) | exact kd_st2 (by assumption) | exact kd_ls (by first | assumption | exact kdL (by omega) | exact kdQ (by omega) | rfl) (by assumption) | exact kd_sb (by first | assumption | exact kdL (by omega) | exact kdQ (by omega) | rfl) (by assumption) | exact kd_sv (by assumption) | exact kdL (by omega) | exact kdQ (by omega) | rfl) qf_X4_29 dX4_runningOf_6 ?_
    refine j_tope (y := nI ns) (by exact h.1) ?_
    refine j_icmp_ge (tgt := 42) C dX4_runningOf_9 (by decide) (fun h9 => absurd h9 (nI_ge (by omega) (by have := h.2; omega))) (fun h9 => ?_)
    refine j_aload_n C dX4_runningOf_12 rfl rfl ?_
    refine j_iload_n C dX4_runningOf_13 rfl rfl ?_
    refine j_callV1r C (oa_X4 (by first | assumption | exact kd_sums (by assumption) | exact kd_st1 (by assumption) | exact kd_st2 (by assumption) | exact kd_ls (by first | assumption | exact kdL (by omega) | exact kdQ (by omega) | rfl) (by assumption) | exact kd_sb (by first | assumption | exact kdL (by omega) | exact kdQ (by omega) | rfl) (by assumption) | exact kd_sv (by assumption) | exact kdL (by omega) | exact kdQ (by omega) | rfl)) rfl rfl (at_S h (by omega)) qm_X4_43 qi_X4_subleaseAt qs_X4_subleaseAt qn_X4 qc_X4_subleaseAt fit_X4_subleaseAt ⟨Nat.le_of_ble_eq_true rfl, Nat.le_of_ble_eq_true rfl, Nat.le_of_ble_eq_true rfl, Nat.le_of_ble_eq_true rfl⟩ (Nat.le_of_ble_eq_true rfl) dX4_runningOf_14 ?_
    refine j_ast4 C dX4_runningOf_17 (Nat.le_of_ble_eq_true rfl) rfl ?_
    refine j_aload C dX4_runningOf_19 rfl ?_
    refine j_ifnull C dX4_runningOf_21 ?_
    refine j_aload C dX4_runningOf_24 rfl ?_
    refine j_iload_n C dX4_runningOf_26 rfl rfl ?_
    refine j_callV1r C (oa_X5 (by first | assumption | exact kd_sums (by assumption) | exact kd_st1 (by assumption) | exact kd_st2 (by assumption) | exact kd_ls (by first | assumption | exact kdL (by omega) | exact kdQ (by omega) | rfl) (by assumption) | exact kd_sb (by first | assumption | exact kdL (by omega) | exact kdQ (by omega) | rfl) (by assumption) | exact kd_sv (by assumption) | exact kdL (by omega) | exact kdQ (by omega) | rfl)) rfl rfl (c_X5_runsUnder (kdQ (by omega))) qm_X4_114 qi_X5_runsUnder qs_X5_runsUnder qn_X5 qc_X5_runsUnder fit_X5_runsUnder ⟨Nat.le_of_ble_eq_true rfl, Nat.le_of_ble_eq_true rfl, Nat.le_of_ble_eq_true rfl, Nat.le_of_ble_eq_true rfl⟩ (Nat.le_of_ble_eq_true rfl) dX4_runningOf_27 ?_
    refine j_if_eq (tgt := 36) C dX4_runningOf_30 (by decide) (fun h30 => ?_) (fun h30 => ?_)
    · replace h30 := b2i_0 h30
      refine j_incN3 (q := 1) C dX4_runningOf_36 (by decide) (Nat.le_of_ble_eq_true rfl) rfl ?_
      refine j_goto (tgt := 4) C dX4_runningOf_39 (by decide) ?_
      refine j_mem (V' := V) (L' := L) (by rfl) rfl ?_
      exact j_dr (lv' := [some (.ref (ad g 0)), some (.int (nI k)), some (.int (sF (runU V k) (fun _ => nI 1) (i + 1))), some (.int (nI (i + 1))), none]) (And.intro rfl (And.intro rfl (And.intro (by first | exact congrArg (fun z => some (Value.int z)) (sF_t (runU_t h30)) | exact congrArg (fun z => some (Value.int z)) (sF_f (runU_f h30))) (And.intro rfl True.intro)))) (ih (i + 1) (by omega))
    · replace h30 := b2i_1 h30
      refine j_inc2 C dX4_runningOf_33 rfl (Nat.le_of_ble_eq_true rfl) rfl ?_
      refine j_incN3 (q := 1) C dX4_runningOf_36 (by decide) (Nat.le_of_ble_eq_true rfl) rfl ?_
      refine j_goto (tgt := 4) C dX4_runningOf_39 (by decide) ?_
      refine j_mem (V' := V) (L' := L) (by rfl) rfl ?_
      exact j_dr (lv' := [some (.ref (ad g 0)), some (.int (nI k)), some (.int (sF (runU V k) (fun _ => nI 1) (i + 1))), some (.int (nI (i + 1))), none]) (And.intro rfl (And.intro rfl (And.intro (by first | exact congrArg (fun z => some (Value.int z)) (sF_t (runU_t h30)) | exact congrArg (fun z => some (Value.int z)) (sF_f (runU_f h30))) (And.intro rfl True.intro)))) (ih (i + 1) (by omega))
set_option maxHeartbeats 4000000 in
theorem c_X4_runningOf {l : Launch} {g : GC} {V : Mem} {L : LMem} {k ns : Nat} (h : SC ns V) : MC l yX4_runningOf cX4_runningOf 5 (some .int) 1 g V L [.ref (ad g 0), .int (nI k)] (some (.int (cRunOf V ns k))) V L := by
  refine MC.of [some (.ref (ad g 0)), some (.int (nI k)), none, none, none] (by decide +kernel) rfl (Nat.le_of_ble_eq_true rfl) (fun p e s m args below meth c C => ?_)
  refine j_iconst (v := (nI 0)) C dX4_runningOf_0 (by decide) ?_
  refine j_ist2 C dX4_runningOf_1 rfl (Nat.le_of_ble_eq_true rfl) rfl ?_
  refine j_iconst (v := (nI 0)) C dX4_runningOf_2 (by decide) ?_
  refine j_ist3 C dX4_runningOf_3 rfl (Nat.le_of_ble_eq_true rfl) rfl ?_
  refine lp_X4_runningOf C h ?_ ns 0 (by omega)
  refine j_iload_n C dX4_runningOf_42 rfl rfl ?_
  exact j_iret C dX4_runningOf_43 (by rfl) (by rfl) (by rfl)
set_option maxHeartbeats 4000000 in
theorem lp_X4_runningLeases {p : Program} {l : Launch} {e : Env} {s : State} {m : MethodId} {args : Array Value} {below : List Frame} {meth : Method} {c : Code} {g : GC} {Q : State → Prop} {V : Mem} {L : LMem} {nl : Nat} (C : Cx p s args m meth c cX4_runningLeases 4 yX4_runningLeases.cls (some .int) g) (h : LC nl V) (kx : J p l e (RM 1) s m args below meth c 4 g 0 0 Q V L 38 [some (.ref (ad g 0)), some (.int (sF (fun k => decide (0 < V (3 + k) 1)) (fun _ => nI 1) (nl))), some (.int (nI (nl))), none] []) : ∀ j i : Nat, i + j = nl → J p l e (RM 1) s m args below meth c 4 g 0 0 Q V L 4 [some (.ref (ad g 0)), some (.int (sF (fun k => decide (0 < V (3 + k) 1)) (fun _ => nI 1) i)), some (.int (nI i)), none] [] := by
  intro j
  induction j with
  | zero =>
    intro i hi
    have hi : nl = i := by omega
    subst hi
    refine j_iload_n C dX4_runningLeases_4 rfl rfl ?_
    refine j_aload_n C dX4_runningLeases_5 rfl rfl ?_
    refine jg_State_leaseCount C (by first | assumption | exact kd_sums (by assumption) | exact kd_st1 (by assumption) | exact kd_st2 (by assumption) | exact kd_ls (by first | assumption | exact kdL (by omega) | exact kdQ (by omega) | rfl) (by assumption) | exact kd_sb (by first | assumption | exact kdL (by omega) | exact kdQ (by omega) | rfl) (by assumption) | exact kd_sv (by assumption) | exact kdL (by omega) | exact kdQ (by omega) | rfl) qf_X4_25 dX4_runningLeases_6 ?_
    refine j_tope (y := nI nl) (by exact h.1) ?_
    refine j_icmp_ge (tgt := 38) C dX4_runningLeases_9 (by decide) (fun h9 => ?_) (fun h9 => absurd (nI_le (by omega) (by have := h.2; omega)) h9)
    exact kx
  | succ j ih =>
    intro i hi
    have h8 := h.2
    refine j_iload_n C dX4_runningLeases_4 rfl rfl ?_
    refine j_aload_n C dX4_runningLeases_5 rfl rfl ?_
    refine jg_State_leaseCount C (by first | assumption | exact kd_sums (by assumption) | exact kd_st1 (by assumption) | exact kd_st2 (by assumption) | exact kd_ls (by first | assumption | exact kdL (by omega) | exact kdQ (by omega) | rfl) (by assumption) | exact kd_sb (by first | assumption | exact kdL (by omega) | exact kdQ (by omega) | rfl) (by assumption) | exact kd_sv (by assumption) | exact kdL (by omega) | exact kdQ (by omega) | rfl) qf_X4_25 dX4_runningLeases_6 ?_
    refine j_tope (y := nI nl) (by exact h.1) ?_
    refine j_icmp_ge (tgt := 38) C dX4_runningLeases_9 (by decide) (fun h9 => absurd h9 (nI_ge (by omega) (by have := h.2; omega))) (fun h9 => ?_)
    refine j_aload_n C dX4_runningLeases_12 rfl rfl ?_
    refine j_iload_n C dX4_runningLeases_13 rfl rfl ?_
    refine j_callV1r C (oa_X4 (by first | assumption | exact kd_sums (by assumption) | exact kd_st1 (by assumption) | exact kd_st2 (by assumption) | exact kd_ls (by first | assumption | exact kdL (by omega) | exact kdQ (by omega) | rfl) (by assumption) | exact kd_sb (by first | assumption | exact kdL (by omega) | exact kdQ (by omega) | rfl) (by assumption) | exact kd_sv (by assumption) | exact kdL (by omega) | exact kdQ (by omega) | rfl)) rfl rfl (at_L h (by omega)) qm_X4_35 qi_X4_leaseAt qs_X4_leaseAt qn_X4 qc_X4_leaseAt fit_X4_leaseAt ⟨Nat.le_of_ble_eq_true rfl, Nat.le_of_ble_eq_true rfl, Nat.le_of_ble_eq_true rfl, Nat.le_of_ble_eq_true rfl⟩ (Nat.le_of_ble_eq_true rfl) dX4_runningLeases_14 ?_
    refine j_ast3 C dX4_runningLeases_17 rfl (Nat.le_of_ble_eq_true rfl) rfl ?_
    refine j_aload_n C dX4_runningLeases_18 rfl rfl ?_
    refine j_ifnull C dX4_runningLeases_19 ?_
    refine j_aload_n C dX4_runningLeases_22 rfl rfl ?_
    refine j_callV0r C (oa_X2 (by first | assumption | exact kd_sums (by assumption) | exact kd_st1 (by assumption) | exact kd_st2 (by assumption) | exact kd_ls (by first | assumption | exact kdL (by omega) | exact kdQ (by omega) | rfl) (by assumption) | exact kd_sb (by first | assumption | exact kdL (by omega) | exact kdQ (by omega) | rfl) (by assumption) | exact kd_sv (by assumption) | exact kdL (by omega) | exact kdQ (by omega) | rfl)) rfl rfl (c_X2_runs (kdL (by omega))) qm_X4_126 qi_X2_runs qs_X2_runs qn_X2 qc_X2_runs fit_X2_runs ⟨Nat.le_of_ble_eq_true rfl, Nat.le_of_ble_eq_true rfl, Nat.le_of_ble_eq_true rfl, Nat.le_of_ble_eq_true rfl⟩ (Nat.le_of_ble_eq_true rfl) dX4_runningLeases_23 ?_
    refine j_if_eq (tgt := 32) C dX4_runningLeases_26 (by decide) (fun h26 => ?_) (fun h26 => ?_)
    · replace h26 := b2i_0 h26
      refine j_incN2 (q := 1) C dX4_runningLeases_32 (by decide) (Nat.le_of_ble_eq_true rfl) rfl ?_
      refine j_goto (tgt := 4) C dX4_runningLeases_35 (by decide) ?_
      refine j_mem (V' := V) (L' := L) (by rfl) rfl ?_
      exact j_dr (lv' := [some (.ref (ad g 0)), some (.int (sF (fun k => decide (0 < V (3 + k) 1)) (fun _ => nI 1) (i + 1))), some (.int (nI (i + 1))), none]) (And.intro rfl (And.intro (by first | exact congrArg (fun z => some (Value.int z)) (sF_t (decide_eq_true h26)) | exact congrArg (fun z => some (Value.int z)) (sF_f (mt of_decide_eq_true h26))) (And.intro rfl True.intro))) (ih (i + 1) (by omega))
    · replace h26 := b2i_1 h26
      refine j_inc1 C dX4_runningLeases_29 rfl (Nat.le_of_ble_eq_true rfl) rfl ?_
      refine j_incN2 (q := 1) C dX4_runningLeases_32 (by decide) (Nat.le_of_ble_eq_true rfl) rfl ?_
      refine j_goto (tgt := 4) C dX4_runningLeases_35 (by decide) ?_
      refine j_mem (V' := V) (L' := L) (by rfl) rfl ?_
      exact j_dr (lv' := [some (.ref (ad g 0)), some (.int (sF (fun k => decide (0 < V (3 + k) 1)) (fun _ => nI 1) (i + 1))), some (.int (nI (i + 1))), none]) (And.intro rfl (And.intro (by first | exact congrArg (fun z => some (Value.int z)) (sF_t (decide_eq_true h26)) | exact congrArg (fun z => some (Value.int z)) (sF_f (mt of_decide_eq_true h26))) (And.intro rfl True.intro))) (ih (i + 1) (by omega))
set_option maxHeartbeats 4000000 in
theorem c_X4_runningLeases {l : Launch} {g : GC} {V : Mem} {L : LMem} {nl : Nat} (h : LC nl V) : MC l yX4_runningLeases cX4_runningLeases 4 (some .int) 1 g V L [.ref (ad g 0)] (some (.int (cRunL V nl))) V L := by
  refine MC.of [some (.ref (ad g 0)), none, none, none] (by decide +kernel) rfl (Nat.le_of_ble_eq_true rfl) (fun p e s m args below meth c C => ?_)
  refine j_iconst (v := (nI 0)) C dX4_runningLeases_0 (by decide) ?_
  refine j_ist1 C dX4_runningLeases_1 rfl (Nat.le_of_ble_eq_true rfl) rfl ?_
  refine j_iconst (v := (nI 0)) C dX4_runningLeases_2 (by decide) ?_
  refine j_ist2 C dX4_runningLeases_3 rfl (Nat.le_of_ble_eq_true rfl) rfl ?_
  refine lp_X4_runningLeases C h ?_ nl 0 (by omega)
  refine j_iload_n C dX4_runningLeases_38 rfl rfl ?_
  exact j_iret C dX4_runningLeases_39 (by rfl) (by rfl) (by rfl)
set_option maxHeartbeats 4000000 in
theorem c_X4_leaseProperty {l : Launch} {g : GC} {V : Mem} {L : LMem} {k nl ns w : Nat} (h : LC nl V) (hs : SC ns V) (hk : k < nl) (hw : w < 9) : MC l yX4_leaseProperty cX4_leaseProperty 4 (some .int) 2 g V L [.ref (ad g 0), .int (nI k), .int (nI w)] (some (.int (cProp V ns k w))) V L := by
  refine MC.of [some (.ref (ad g 0)), some (.int (nI k)), some (.int (nI w)), none] (by decide +kernel) rfl (Nat.le_of_ble_eq_true rfl) (fun p e s m args below meth c C => ?_)
  have hk8 : k < 8 := Nat.lt_of_lt_of_le hk h.2
  have hkk := kdL hk8
  refine j_aload_n C dX4_leaseProperty_0 rfl rfl ?_
  refine j_iload_n C dX4_leaseProperty_1 rfl rfl ?_
  refine j_callV1r C (oa_X4 (by first | assumption | exact kd_sums (by assumption) | exact kd_st1 (by assumption) | exact kd_st2 (by assumption) | exact kd_ls (by first | assumption | exact kdL (by omega) | exact kdQ (by omega) | rfl) (by assumption) | exact kd_sb (by first | assumption | exact kdL (by omega) | exact kdQ (by omega) | rfl) (by assumption) | exact kd_sv (by assumption) | exact kdL (by omega) | exact kdQ (by omega) | rfl)) rfl rfl (at_L h hk) qm_X4_35 qi_X4_leaseAt qs_X4_leaseAt qn_X4 qc_X4_leaseAt fit_X4_leaseAt ⟨Nat.le_of_ble_eq_true rfl, Nat.le_of_ble_eq_true rfl, Nat.le_of_ble_eq_true rfl, Nat.le_of_ble_eq_true rfl⟩ (Nat.le_of_ble_eq_true rfl) dX4_leaseProperty_2 ?_
  refine j_ast3 C dX4_leaseProperty_5 rfl (Nat.le_of_ble_eq_true rfl) rfl ?_
  refine j_aload_n C dX4_leaseProperty_6 rfl rfl ?_
  refine j_ifnonnull (tgt := 12) C dX4_leaseProperty_7 (by decide) ?_
  refine j_iload_n C dX4_leaseProperty_12 rfl rfl ?_
  rcases (show w = 0 ∨ w = 1 ∨ w = 2 ∨ w = 3 ∨ w = 4 ∨ w = 5 ∨ w = 6 ∨ w = 7 ∨ w = 8 by omega) with rfl | rfl | rfl | rfl | rfl | rfl | rfl | rfl | rfl
  · refine j_tabIn (tgt := 60) (off := 47) C dX4_leaseProperty_13 (by decide) (by decide) (by decide) (by decide) ?_
    refine j_aload_n C dX4_leaseProperty_60 rfl rfl ?_
    refine jg_Lease_payment C (by first | assumption | exact kd_sums (by assumption) | exact kd_st1 (by assumption) | exact kd_st2 (by assumption) | exact kd_ls (by first | assumption | exact kdL (by omega) | exact kdQ (by omega) | rfl) (by assumption) | exact kd_sb (by first | assumption | exact kdL (by omega) | exact kdQ (by omega) | rfl) (by assumption) | exact kd_sv (by assumption) | exact kdL (by omega) | exact kdQ (by omega) | rfl) qf_X4_81 dX4_leaseProperty_61 ?_
    exact j_iret C dX4_leaseProperty_64 (by rfl) (by rfl) (by rfl)
  · refine j_tabIn (tgt := 65) (off := 52) C dX4_leaseProperty_13 (by decide) (by decide) (by decide) (by decide) ?_
    refine j_aload_n C dX4_leaseProperty_65 rfl rfl ?_
    refine jg_Lease_periods C (by first | assumption | exact kd_sums (by assumption) | exact kd_st1 (by assumption) | exact kd_st2 (by assumption) | exact kd_ls (by first | assumption | exact kdL (by omega) | exact kdQ (by omega) | rfl) (by assumption) | exact kd_sb (by first | assumption | exact kdL (by omega) | exact kdQ (by omega) | rfl) (by assumption) | exact kd_sv (by assumption) | exact kdL (by omega) | exact kdQ (by omega) | rfl) qf_X4_84 dX4_leaseProperty_66 ?_
    exact j_iret C dX4_leaseProperty_69 (by rfl) (by rfl) (by rfl)
  · refine j_tabIn (tgt := 70) (off := 57) C dX4_leaseProperty_13 (by decide) (by decide) (by decide) (by decide) ?_
    refine j_aload_n C dX4_leaseProperty_70 rfl rfl ?_
    refine jg_Lease_rate C (by first | assumption | exact kd_sums (by assumption) | exact kd_st1 (by assumption) | exact kd_st2 (by assumption) | exact kd_ls (by first | assumption | exact kdL (by omega) | exact kdQ (by omega) | rfl) (by assumption) | exact kd_sb (by first | assumption | exact kdL (by omega) | exact kdQ (by omega) | rfl) (by assumption) | exact kd_sv (by assumption) | exact kdL (by omega) | exact kdQ (by omega) | rfl) qf_X4_66 dX4_leaseProperty_71 ?_
    exact j_iret C dX4_leaseProperty_74 (by rfl) (by rfl) (by rfl)
  · refine j_tabIn (tgt := 75) (off := 62) C dX4_leaseProperty_13 (by decide) (by decide) (by decide) (by decide) ?_
    refine j_aload_n C dX4_leaseProperty_75 rfl rfl ?_
    refine jg_Lease_liability C (by first | assumption | exact kd_sums (by assumption) | exact kd_st1 (by assumption) | exact kd_st2 (by assumption) | exact kd_ls (by first | assumption | exact kdL (by omega) | exact kdQ (by omega) | rfl) (by assumption) | exact kd_sb (by first | assumption | exact kdL (by omega) | exact kdQ (by omega) | rfl) (by assumption) | exact kd_sv (by assumption) | exact kdL (by omega) | exact kdQ (by omega) | rfl) qf_X4_85 dX4_leaseProperty_76 ?_
    exact j_iret C dX4_leaseProperty_79 (by rfl) (by rfl) (by rfl)
  · refine j_tabIn (tgt := 80) (off := 67) C dX4_leaseProperty_13 (by decide) (by decide) (by decide) (by decide) ?_
    refine j_aload_n C dX4_leaseProperty_80 rfl rfl ?_
    refine jg_Lease_asset C (by first | assumption | exact kd_sums (by assumption) | exact kd_st1 (by assumption) | exact kd_st2 (by assumption) | exact kd_ls (by first | assumption | exact kdL (by omega) | exact kdQ (by omega) | rfl) (by assumption) | exact kd_sb (by first | assumption | exact kdL (by omega) | exact kdQ (by omega) | rfl) (by assumption) | exact kd_sv (by assumption) | exact kdL (by omega) | exact kdQ (by omega) | rfl) qf_X4_88 dX4_leaseProperty_81 ?_
    exact j_iret C dX4_leaseProperty_84 (by rfl) (by rfl) (by rfl)
  · refine j_tabIn (tgt := 85) (off := 72) C dX4_leaseProperty_13 (by decide) (by decide) (by decide) (by decide) ?_
    refine j_aload_n C dX4_leaseProperty_85 rfl rfl ?_
    refine j_iload_n C dX4_leaseProperty_86 rfl rfl ?_
    refine j_iconst (v := (nI 5)) C dX4_leaseProperty_87 (by decide) ?_
    refine j_callV2r C (oa_X4 (by first | assumption | exact kd_sums (by assumption) | exact kd_st1 (by assumption) | exact kd_st2 (by assumption) | exact kd_ls (by first | assumption | exact kdL (by omega) | exact kdQ (by omega) | rfl) (by assumption) | exact kd_sb (by first | assumption | exact kdL (by omega) | exact kdQ (by omega) | rfl) (by assumption) | exact kd_sv (by assumption) | exact kdL (by omega) | exact kdQ (by omega) | rfl)) rfl rfl (c_X4_sumOfSubleases hs (by omega)) qm_X4_91 qi_X4_sumOfSubleases qs_X4_sumOfSubleases qn_X4 qc_X4_sumOfSubleases fit_X4_sumOfSubleases ⟨Nat.le_of_ble_eq_true rfl, Nat.le_of_ble_eq_true rfl, Nat.le_of_ble_eq_true rfl, Nat.le_of_ble_eq_true rfl⟩ (Nat.le_of_ble_eq_true rfl) dX4_leaseProperty_88 ?_
    exact j_iret C dX4_leaseProperty_91 (by rfl) (by rfl) (by rfl)
  · refine j_tabIn (tgt := 92) (off := 79) C dX4_leaseProperty_13 (by decide) (by decide) (by decide) (by decide) ?_
    refine j_aload_n C dX4_leaseProperty_92 rfl rfl ?_
    refine jg_Lease_liability C (by first | assumption | exact kd_sums (by assumption) | exact kd_st1 (by assumption) | exact kd_st2 (by assumption) | exact kd_ls (by first | assumption | exact kdL (by omega) | exact kdQ (by omega) | rfl) (by assumption) | exact kd_sb (by first | assumption | exact kdL (by omega) | exact kdQ (by omega) | rfl) (by assumption) | exact kd_sv (by assumption) | exact kdL (by omega) | exact kdQ (by omega) | rfl) qf_X4_85 dX4_leaseProperty_93 ?_
    refine j_aload_n C dX4_leaseProperty_96 rfl rfl ?_
    refine j_iload_n C dX4_leaseProperty_97 rfl rfl ?_
    refine j_iconst (v := (nI 5)) C dX4_leaseProperty_98 (by decide) ?_
    refine j_callV2r C (oa_X4 (by first | assumption | exact kd_sums (by assumption) | exact kd_st1 (by assumption) | exact kd_st2 (by assumption) | exact kd_ls (by first | assumption | exact kdL (by omega) | exact kdQ (by omega) | rfl) (by assumption) | exact kd_sb (by first | assumption | exact kdL (by omega) | exact kdQ (by omega) | rfl) (by assumption) | exact kd_sv (by assumption) | exact kdL (by omega) | exact kdQ (by omega) | rfl)) rfl rfl (c_X4_sumOfSubleases hs (by omega)) qm_X4_91 qi_X4_sumOfSubleases qs_X4_sumOfSubleases qn_X4 qc_X4_sumOfSubleases fit_X4_sumOfSubleases ⟨Nat.le_of_ble_eq_true rfl, Nat.le_of_ble_eq_true rfl, Nat.le_of_ble_eq_true rfl, Nat.le_of_ble_eq_true rfl⟩ (Nat.le_of_ble_eq_true rfl) dX4_leaseProperty_99 ?_
    refine j_isub C dX4_leaseProperty_102 ?_
    exact j_iret C dX4_leaseProperty_103 (by rfl) (by rfl) (by rfl)
  · refine j_tabIn (tgt := 104) (off := 91) C dX4_leaseProperty_13 (by decide) (by decide) (by decide) (by decide) ?_
    refine j_aload_n C dX4_leaseProperty_104 rfl rfl ?_
    refine j_iload_n C dX4_leaseProperty_105 rfl rfl ?_
    refine j_iconst (v := (nI 1)) C dX4_leaseProperty_106 (by decide) ?_
    refine j_callV2r C (oa_X4 (by first | assumption | exact kd_sums (by assumption) | exact kd_st1 (by assumption) | exact kd_st2 (by assumption) | exact kd_ls (by first | assumption | exact kdL (by omega) | exact kdQ (by omega) | rfl) (by assumption) | exact kd_sb (by first | assumption | exact kdL (by omega) | exact kdQ (by omega) | rfl) (by assumption) | exact kd_sv (by assumption) | exact kdL (by omega) | exact kdQ (by omega) | rfl)) rfl rfl (c_X4_sumOfSubleases hs (by omega)) qm_X4_91 qi_X4_sumOfSubleases qs_X4_sumOfSubleases qn_X4 qc_X4_sumOfSubleases fit_X4_sumOfSubleases ⟨Nat.le_of_ble_eq_true rfl, Nat.le_of_ble_eq_true rfl, Nat.le_of_ble_eq_true rfl, Nat.le_of_ble_eq_true rfl⟩ (Nat.le_of_ble_eq_true rfl) dX4_leaseProperty_107 ?_
    exact j_iret C dX4_leaseProperty_110 (by rfl) (by rfl) (by rfl)
  · refine j_tabOut (tgt := 111) C dX4_leaseProperty_13 (by decide) (by decide) ?_
    refine j_aload_n C dX4_leaseProperty_111 rfl rfl ?_
    refine j_iload_n C dX4_leaseProperty_112 rfl rfl ?_
    refine j_callV1r C (oa_X4 (by first | assumption | exact kd_sums (by assumption) | exact kd_st1 (by assumption) | exact kd_st2 (by assumption) | exact kd_ls (by first | assumption | exact kdL (by omega) | exact kdQ (by omega) | rfl) (by assumption) | exact kd_sb (by first | assumption | exact kdL (by omega) | exact kdQ (by omega) | rfl) (by assumption) | exact kd_sv (by assumption) | exact kdL (by omega) | exact kdQ (by omega) | rfl)) rfl rfl (c_X4_runningOf hs) qm_X4_95 qi_X4_runningOf qs_X4_runningOf qn_X4 qc_X4_runningOf fit_X4_runningOf ⟨Nat.le_of_ble_eq_true rfl, Nat.le_of_ble_eq_true rfl, Nat.le_of_ble_eq_true rfl, Nat.le_of_ble_eq_true rfl⟩ (Nat.le_of_ble_eq_true rfl) dX4_leaseProperty_113 ?_
    exact j_iret C dX4_leaseProperty_116 (by rfl) (by rfl) (by rfl)
set_option maxHeartbeats 4000000 in
theorem c_X4_subleaseProperty {l : Launch} {g : GC} {V : Mem} {L : LMem} {q ns w : Nat} (hs : SC ns V) (hq : q < ns) (hw : w < 6) : MC l yX4_subleaseProperty cX4_subleaseProperty 4 (some .int) 1 g V L [.ref (ad g 0), .int (nI q), .int (nI w)] (some (.int (V (19 + q) w))) V L := by
  refine MC.of [some (.ref (ad g 0)), some (.int (nI q)), some (.int (nI w)), none] (by decide +kernel) rfl (Nat.le_of_ble_eq_true rfl) (fun p e s m args below meth c C => ?_)
  have h12 : q < 12 := Nat.lt_of_lt_of_le hq hs.2
  refine j_aload_n C dX4_subleaseProperty_0 rfl rfl ?_
  refine j_iload_n C dX4_subleaseProperty_1 rfl rfl ?_
  refine j_callV1r C (oa_X4 (by first | assumption | exact kd_sums (by assumption) | exact kd_st1 (by assumption) | exact kd_st2 (by assumption) | exact kd_ls (by first | assumption | exact kdL (by omega) | exact kdQ (by omega) | rfl) (by assumption) | exact kd_sb (by first | assumption | exact kdL (by omega) | exact kdQ (by omega) | rfl) (by assumption) | exact kd_sv (by assumption) | exact kdL (by omega) | exact kdQ (by omega) | rfl)) rfl rfl (at_S hs hq) qm_X4_43 qi_X4_subleaseAt qs_X4_subleaseAt qn_X4 qc_X4_subleaseAt fit_X4_subleaseAt ⟨Nat.le_of_ble_eq_true rfl, Nat.le_of_ble_eq_true rfl, Nat.le_of_ble_eq_true rfl, Nat.le_of_ble_eq_true rfl⟩ (Nat.le_of_ble_eq_true rfl) dX4_subleaseProperty_2 ?_
  refine j_ast3 C dX4_subleaseProperty_5 rfl (Nat.le_of_ble_eq_true rfl) rfl ?_
  refine j_aload_n C dX4_subleaseProperty_6 rfl rfl ?_
  refine j_ifnonnull (tgt := 14) C dX4_subleaseProperty_7 (by decide) ?_
  refine j_aload_n C dX4_subleaseProperty_14 rfl rfl ?_
  refine j_iload_n C dX4_subleaseProperty_15 rfl rfl ?_
  refine j_callV1r C (oa_X5 (by first | assumption | exact kd_sums (by assumption) | exact kd_st1 (by assumption) | exact kd_st2 (by assumption) | exact kd_ls (by first | assumption | exact kdL (by omega) | exact kdQ (by omega) | rfl) (by assumption) | exact kd_sb (by first | assumption | exact kdL (by omega) | exact kdQ (by omega) | rfl) (by assumption) | exact kd_sv (by assumption) | exact kdL (by omega) | exact kdQ (by omega) | rfl)) rfl rfl (c_X5_valueOf (kdQ h12) hw) qm_X4_98 qi_X5_valueOf qs_X5_valueOf qn_X5 qc_X5_valueOf fit_X5_valueOf ⟨Nat.le_of_ble_eq_true rfl, Nat.le_of_ble_eq_true rfl, Nat.le_of_ble_eq_true rfl, Nat.le_of_ble_eq_true rfl⟩ (Nat.le_of_ble_eq_true rfl) dX4_subleaseProperty_16 ?_
  exact j_iret C dX4_subleaseProperty_19 (by rfl) (by rfl) (by rfl)
set_option maxHeartbeats 4000000 in
theorem c_X4_canSublet {l : Launch} {g : GC} {V : Mem} {L : LMem} {k nl ns : Nat} {t n : Int32} (h : LC nl V) (hs : SC ns V) (hk : k < nl) : MC l yX4_canSublet cX4_canSublet 5 (some .boolean) 2 g V L [.ref (ad g 0), .int (nI k), .int t, .int n] (some (.int (b2i (n ≤ V (3 + k) 1 ∧ V 0 3 < nI 12 ∧ cSub V ns k 1 + t ≤ nI 1000)))) V L := by
  refine MC.of [some (.ref (ad g 0)), some (.int (nI k)), some (.int t), some (.int n), none] (by decide +kernel) rfl (Nat.le_of_ble_eq_true rfl) (fun p e s m args below meth c C => ?_)
  have hk8 : k < 8 := Nat.lt_of_lt_of_le hk h.2
  have hkk := kdL hk8
  refine j_aload_n C dX4_canSublet_0 rfl rfl ?_
  refine j_iload_n C dX4_canSublet_1 rfl rfl ?_
  refine j_callV1r C (oa_X4 (by first | assumption | exact kd_sums (by assumption) | exact kd_st1 (by assumption) | exact kd_st2 (by assumption) | exact kd_ls (by first | assumption | exact kdL (by omega) | exact kdQ (by omega) | rfl) (by assumption) | exact kd_sb (by first | assumption | exact kdL (by omega) | exact kdQ (by omega) | rfl) (by assumption) | exact kd_sv (by assumption) | exact kdL (by omega) | exact kdQ (by omega) | rfl)) rfl rfl (at_L h hk) qm_X4_35 qi_X4_leaseAt qs_X4_leaseAt qn_X4 qc_X4_leaseAt fit_X4_leaseAt ⟨Nat.le_of_ble_eq_true rfl, Nat.le_of_ble_eq_true rfl, Nat.le_of_ble_eq_true rfl, Nat.le_of_ble_eq_true rfl⟩ (Nat.le_of_ble_eq_true rfl) dX4_canSublet_2 ?_
  refine j_ast4 C dX4_canSublet_5 (Nat.le_of_ble_eq_true rfl) rfl ?_
  refine j_aload C dX4_canSublet_7 rfl ?_
  refine j_ifnull C dX4_canSublet_9 ?_
  refine j_iload_n C dX4_canSublet_12 rfl rfl ?_
  refine j_aload C dX4_canSublet_13 rfl ?_
  refine jg_Lease_periods C (by first | assumption | exact kd_sums (by assumption) | exact kd_st1 (by assumption) | exact kd_st2 (by assumption) | exact kd_ls (by first | assumption | exact kdL (by omega) | exact kdQ (by omega) | rfl) (by assumption) | exact kd_sb (by first | assumption | exact kdL (by omega) | exact kdQ (by omega) | rfl) (by assumption) | exact kd_sv (by assumption) | exact kdL (by omega) | exact kdQ (by omega) | rfl) qf_X4_84 dX4_canSublet_15 ?_
  refine j_icmp_gt (tgt := 48) C dX4_canSublet_18 (by decide) (fun h18 => ?_) (fun h18 => ?_)
  · refine j_iconst (v := (nI 0)) C dX4_canSublet_48 (by decide) ?_
    exact j_zret C dX4_canSublet_49 (by first | rfl | exact nar_b2i) (by first | (refine b2i_t ?_; simp_all; done) | (refine b2i_f ?_; simp_all; done) | (refine b2i_t ?_; simp only [Int32.lt_iff_toInt_lt, Int32.le_iff_toInt_le] at *; omega) | (refine b2i_f ?_; simp only [Int32.lt_iff_toInt_lt, Int32.le_iff_toInt_le] at *; omega)) (by rfl) (by rfl)
  · refine j_aload_n C dX4_canSublet_21 rfl rfl ?_
    refine jg_State_subleaseCount C (by first | assumption | exact kd_sums (by assumption) | exact kd_st1 (by assumption) | exact kd_st2 (by assumption) | exact kd_ls (by first | assumption | exact kdL (by omega) | exact kdQ (by omega) | rfl) (by assumption) | exact kd_sb (by first | assumption | exact kdL (by omega) | exact kdQ (by omega) | rfl) (by assumption) | exact kd_sv (by assumption) | exact kdL (by omega) | exact kdQ (by omega) | rfl) qf_X4_29 dX4_canSublet_22 ?_
    refine j_bipush (v := (nI 12)) C dX4_canSublet_25 (by decide) ?_
    refine j_icmp_ge (tgt := 48) C dX4_canSublet_27 (by decide) (fun h27 => ?_) (fun h27 => ?_)
    · refine j_iconst (v := (nI 0)) C dX4_canSublet_48 (by decide) ?_
      exact j_zret C dX4_canSublet_49 (by first | rfl | exact nar_b2i) (by first | (refine b2i_t ?_; simp_all; done) | (refine b2i_f ?_; simp_all; done) | (refine b2i_t ?_; simp only [Int32.lt_iff_toInt_lt, Int32.le_iff_toInt_le] at *; omega) | (refine b2i_f ?_; simp only [Int32.lt_iff_toInt_lt, Int32.le_iff_toInt_le] at *; omega)) (by rfl) (by rfl)
    · refine j_aload_n C dX4_canSublet_30 rfl rfl ?_
      refine j_iload_n C dX4_canSublet_31 rfl rfl ?_
      refine j_iconst (v := (nI 1)) C dX4_canSublet_32 (by decide) ?_
      refine j_callV2r C (oa_X4 (by first | assumption | exact kd_sums (by assumption) | exact kd_st1 (by assumption) | exact kd_st2 (by assumption) | exact kd_ls (by first | assumption | exact kdL (by omega) | exact kdQ (by omega) | rfl) (by assumption) | exact kd_sb (by first | assumption | exact kdL (by omega) | exact kdQ (by omega) | rfl) (by assumption) | exact kd_sv (by assumption) | exact kdL (by omega) | exact kdQ (by omega) | rfl)) rfl rfl (c_X4_sumOfSubleases hs (by omega)) qm_X4_91 qi_X4_sumOfSubleases qs_X4_sumOfSubleases qn_X4 qc_X4_sumOfSubleases fit_X4_sumOfSubleases ⟨Nat.le_of_ble_eq_true rfl, Nat.le_of_ble_eq_true rfl, Nat.le_of_ble_eq_true rfl, Nat.le_of_ble_eq_true rfl⟩ (Nat.le_of_ble_eq_true rfl) dX4_canSublet_33 ?_
      refine j_iload_n C dX4_canSublet_36 rfl rfl ?_
      refine j_iadd C dX4_canSublet_37 ?_
      refine j_sipush (v := (nI 1000)) C dX4_canSublet_38 (by decide) ?_
      refine j_icmp_gt (tgt := 48) C dX4_canSublet_41 (by decide) (fun h41 => ?_) (fun h41 => ?_)
      · refine j_iconst (v := (nI 0)) C dX4_canSublet_48 (by decide) ?_
        exact j_zret C dX4_canSublet_49 (by first | rfl | exact nar_b2i) (by first | (refine b2i_t ?_; simp_all; done) | (refine b2i_f ?_; simp_all; done) | (refine b2i_t ?_; simp only [Int32.lt_iff_toInt_lt, Int32.le_iff_toInt_le] at *; omega) | (refine b2i_f ?_; simp only [Int32.lt_iff_toInt_lt, Int32.le_iff_toInt_le] at *; omega)) (by rfl) (by rfl)
      · refine j_iconst (v := (nI 1)) C dX4_canSublet_44 (by decide) ?_
        refine j_goto (tgt := 49) C dX4_canSublet_45 (by decide) ?_
        exact j_zret C dX4_canSublet_49 (by first | rfl | exact nar_b2i) (by first | (refine b2i_t ?_; simp_all; done) | (refine b2i_f ?_; simp_all; done) | (refine b2i_t ?_; simp only [Int32.lt_iff_toInt_lt, Int32.le_iff_toInt_le] at *; omega) | (refine b2i_f ?_; simp only [Int32.lt_iff_toInt_lt, Int32.le_iff_toInt_le] at *; omega)) (by rfl) (by rfl)
set_option maxHeartbeats 4000000 in
theorem lp_X4_sumOfLeases {p : Program} {l : Launch} {e : Env} {s : State} {m : MethodId} {args : Array Value} {below : List Frame} {meth : Method} {c : Code} {g : GC} {Q : State → Prop} {V : Mem} {L : LMem} {w nl ns : Nat} (C : Cx p s args m meth c cX4_sumOfLeases 4 yX4_sumOfLeases.cls (some .int) g) (h : LC nl V) (hs : SC ns V) (hw : w < 9) (kx : J p l e (RM 3) s m args below meth c 4 g 0 0 Q V L 27 [some (.ref (ad g 0)), some (.int (nI w)), some (.int (sF (fun _ => true) (fun k => cProp V ns k w) (nl))), some (.int (nI (nl)))] []) : ∀ j i : Nat, i + j = nl → J p l e (RM 3) s m args below meth c 4 g 0 0 Q V L 4 [some (.ref (ad g 0)), some (.int (nI w)), some (.int (sF (fun _ => true) (fun k => cProp V ns k w) i)), some (.int (nI i))] [] := by
  intro j
  induction j with
  | zero =>
    intro i hi
    have hi : nl = i := by omega
    subst hi
    refine j_iload_n C dX4_sumOfLeases_4 rfl rfl ?_
    refine j_aload_n C dX4_sumOfLeases_5 rfl rfl ?_
    refine jg_State_leaseCount C (by first | assumption | exact kd_sums (by assumption) | exact kd_st1 (by assumption) | exact kd_st2 (by assumption) | exact kd_ls (by first | assumption | exact kdL (by omega) | exact kdQ (by omega) | rfl) (by assumption) | exact kd_sb (by first | assumption | exact kdL (by omega) | exact kdQ (by omega) | rfl) (by assumption) | exact kd_sv (by assumption) | exact kdL (by omega) | exact kdQ (by omega) | rfl) qf_X4_25 dX4_sumOfLeases_6 ?_
    refine j_tope (y := nI nl) (by exact h.1) ?_
    refine j_icmp_ge (tgt := 27) C dX4_sumOfLeases_9 (by decide) (fun h9 => ?_) (fun h9 => absurd (nI_le (by omega) (by have := h.2; omega)) h9)
    exact kx
  | succ j ih =>
    intro i hi
    have h8 := h.2
    refine j_iload_n C dX4_sumOfLeases_4 rfl rfl ?_
    refine j_aload_n C dX4_sumOfLeases_5 rfl rfl ?_
    refine jg_State_leaseCount C (by first | assumption | exact kd_sums (by assumption) | exact kd_st1 (by assumption) | exact kd_st2 (by assumption) | exact kd_ls (by first | assumption | exact kdL (by omega) | exact kdQ (by omega) | rfl) (by assumption) | exact kd_sb (by first | assumption | exact kdL (by omega) | exact kdQ (by omega) | rfl) (by assumption) | exact kd_sv (by assumption) | exact kdL (by omega) | exact kdQ (by omega) | rfl) qf_X4_25 dX4_sumOfLeases_6 ?_
    refine j_tope (y := nI nl) (by exact h.1) ?_
    refine j_icmp_ge (tgt := 27) C dX4_sumOfLeases_9 (by decide) (fun h9 => absurd h9 (nI_ge (by omega) (by have := h.2; omega))) (fun h9 => ?_)
    refine j_iload_n C dX4_sumOfLeases_12 rfl rfl ?_
    refine j_aload_n C dX4_sumOfLeases_13 rfl rfl ?_
    refine j_iload_n C dX4_sumOfLeases_14 rfl rfl ?_
    refine j_iload_n C dX4_sumOfLeases_15 rfl rfl ?_
    refine j_callV2r C (oa_X4 (by first | assumption | exact kd_sums (by assumption) | exact kd_st1 (by assumption) | exact kd_st2 (by assumption) | exact kd_ls (by first | assumption | exact kdL (by omega) | exact kdQ (by omega) | rfl) (by assumption) | exact kd_sb (by first | assumption | exact kdL (by omega) | exact kdQ (by omega) | rfl) (by assumption) | exact kd_sv (by assumption) | exact kdL (by omega) | exact kdQ (by omega) | rfl)) rfl rfl (c_X4_leaseProperty h hs (by omega) hw) qm_X4_130 qi_X4_leaseProperty qs_X4_leaseProperty qn_X4 qc_X4_leaseProperty fit_X4_leaseProperty ⟨Nat.le_of_ble_eq_true rfl, Nat.le_of_ble_eq_true rfl, Nat.le_of_ble_eq_true rfl, Nat.le_of_ble_eq_true rfl⟩ (Nat.le_of_ble_eq_true rfl) dX4_sumOfLeases_16 ?_
    refine j_iadd C dX4_sumOfLeases_19 ?_
    refine j_ist2 C dX4_sumOfLeases_20 rfl (Nat.le_of_ble_eq_true rfl) rfl ?_
    refine j_incN3 (q := 1) C dX4_sumOfLeases_21 (by decide) (Nat.le_of_ble_eq_true rfl) rfl ?_
    refine j_goto (tgt := 4) C dX4_sumOfLeases_24 (by decide) ?_
    refine j_mem (V' := V) (L' := L) (by rfl) rfl ?_
    exact j_dr (lv' := [some (.ref (ad g 0)), some (.int (nI w)), some (.int (sF (fun _ => true) (fun k => cProp V ns k w) (i + 1))), some (.int (nI (i + 1)))]) (And.intro rfl (And.intro rfl (And.intro (by exact congrArg (fun z => some (Value.int z)) (sF_t rfl)) (And.intro rfl True.intro)))) (ih (i + 1) (by omega))
set_option maxHeartbeats 4000000 in
theorem c_X4_sumOfLeases {l : Launch} {g : GC} {V : Mem} {L : LMem} {w nl ns : Nat} (h : LC nl V) (hs : SC ns V) (hw : w < 9) : MC l yX4_sumOfLeases cX4_sumOfLeases 4 (some .int) 3 g V L [.ref (ad g 0), .int (nI w)] (some (.int (cSumL V nl ns w))) V L := by
  refine MC.of [some (.ref (ad g 0)), some (.int (nI w)), none, none] (by decide +kernel) rfl (Nat.le_of_ble_eq_true rfl) (fun p e s m args below meth c C => ?_)
  refine j_iconst (v := (nI 0)) C dX4_sumOfLeases_0 (by decide) ?_
  refine j_ist2 C dX4_sumOfLeases_1 rfl (Nat.le_of_ble_eq_true rfl) rfl ?_
  refine j_iconst (v := (nI 0)) C dX4_sumOfLeases_2 (by decide) ?_
  refine j_ist3 C dX4_sumOfLeases_3 rfl (Nat.le_of_ble_eq_true rfl) rfl ?_
  refine lp_X4_sumOfLeases C h hs hw ?_ nl 0 (by omega)
  refine j_iload_n C dX4_sumOfLeases_27 rfl rfl ?_
  exact j_iret C dX4_sumOfLeases_28 (by rfl) (by rfl) (by rfl)
set_option maxHeartbeats 4000000 in
theorem lp_X4_allProfits {p : Program} {l : Launch} {e : Env} {s : State} {m : MethodId} {args : Array Value} {below : List Frame} {meth : Method} {c : Code} {g : GC} {Q : State → Prop} {V : Mem} {L : LMem} {nl : Nat} (C : Cx p s args m meth c cX4_allProfits 4 yX4_allProfits.cls (some .int) g) (h : LC nl V) (kx : J p l e (RM 3) s m args below meth c 4 g 0 0 Q V L 39 [some (.ref (ad g 0)), some (.int (sF (fun _ => true) (fun k => cProf0 (3 + k) V) (nl))), some (.int (nI (nl))), none] []) : ∀ j i : Nat, i + j = nl → J p l e (RM 3) s m args below meth c 4 g 0 0 Q V L 4 [some (.ref (ad g 0)), some (.int (sF (fun _ => true) (fun k => cProf0 (3 + k) V) i)), some (.int (nI i)), none] [] := by
  intro j
  induction j with
  | zero =>
    intro i hi
    have hi : nl = i := by omega
    subst hi
    refine j_iload_n C dX4_allProfits_4 rfl rfl ?_
    refine j_aload_n C dX4_allProfits_5 rfl rfl ?_
    refine jg_State_leaseCount C (by first | assumption | exact kd_sums (by assumption) | exact kd_st1 (by assumption) | exact kd_st2 (by assumption) | exact kd_ls (by first | assumption | exact kdL (by omega) | exact kdQ (by omega) | rfl) (by assumption) | exact kd_sb (by first | assumption | exact kdL (by omega) | exact kdQ (by omega) | rfl) (by assumption) | exact kd_sv (by assumption) | exact kdL (by omega) | exact kdQ (by omega) | rfl) qf_X4_25 dX4_allProfits_6 ?_
    refine j_tope (y := nI nl) (by exact h.1) ?_
    refine j_icmp_ge (tgt := 39) C dX4_allProfits_9 (by decide) (fun h9 => ?_) (fun h9 => absurd (nI_le (by omega) (by have := h.2; omega)) h9)
    exact kx
  | succ j ih =>
    intro i hi
    have h8 := h.2
    refine j_iload_n C dX4_allProfits_4 rfl rfl ?_
    refine j_aload_n C dX4_allProfits_5 rfl rfl ?_
    refine jg_State_leaseCount C (by first | assumption | exact kd_sums (by assumption) | exact kd_st1 (by assumption) | exact kd_st2 (by assumption) | exact kd_ls (by first | assumption | exact kdL (by omega) | exact kdQ (by omega) | rfl) (by assumption) | exact kd_sb (by first | assumption | exact kdL (by omega) | exact kdQ (by omega) | rfl) (by assumption) | exact kd_sv (by assumption) | exact kdL (by omega) | exact kdQ (by omega) | rfl) qf_X4_25 dX4_allProfits_6 ?_
    refine j_tope (y := nI nl) (by exact h.1) ?_
    refine j_icmp_ge (tgt := 39) C dX4_allProfits_9 (by decide) (fun h9 => absurd h9 (nI_ge (by omega) (by have := h.2; omega))) (fun h9 => ?_)
    refine j_aload_n C dX4_allProfits_12 rfl rfl ?_
    refine j_iload_n C dX4_allProfits_13 rfl rfl ?_
    refine j_callV1r C (oa_X4 (by first | assumption | exact kd_sums (by assumption) | exact kd_st1 (by assumption) | exact kd_st2 (by assumption) | exact kd_ls (by first | assumption | exact kdL (by omega) | exact kdQ (by omega) | rfl) (by assumption) | exact kd_sb (by first | assumption | exact kdL (by omega) | exact kdQ (by omega) | rfl) (by assumption) | exact kd_sv (by assumption) | exact kdL (by omega) | exact kdQ (by omega) | rfl)) rfl rfl (at_L h (by omega)) qm_X4_35 qi_X4_leaseAt qs_X4_leaseAt qn_X4 qc_X4_leaseAt fit_X4_leaseAt ⟨Nat.le_of_ble_eq_true rfl, Nat.le_of_ble_eq_true rfl, Nat.le_of_ble_eq_true rfl, Nat.le_of_ble_eq_true rfl⟩ (Nat.le_of_ble_eq_true rfl) dX4_allProfits_14 ?_
    refine j_ast3 C dX4_allProfits_17 rfl (Nat.le_of_ble_eq_true rfl) rfl ?_
    refine j_iload_n C dX4_allProfits_18 rfl rfl ?_
    refine j_aload_n C dX4_allProfits_19 rfl rfl ?_
    refine j_ifnonnull (tgt := 27) C dX4_allProfits_20 (by decide) ?_
    refine j_aload_n C dX4_allProfits_27 rfl rfl ?_
    refine j_callV0r C (oa_X2 (by first | assumption | exact kd_sums (by assumption) | exact kd_st1 (by assumption) | exact kd_st2 (by assumption) | exact kd_ls (by first | assumption | exact kdL (by omega) | exact kdQ (by omega) | rfl) (by assumption) | exact kd_sb (by first | assumption | exact kdL (by omega) | exact kdQ (by omega) | rfl) (by assumption) | exact kd_sv (by assumption) | exact kdL (by omega) | exact kdQ (by omega) | rfl)) rfl rfl (c_X2_profitByMovements (kdL (by omega))) qm_X4_133 qi_X2_profitByMovements qs_X2_profitByMovements qn_X2 qc_X2_profitByMovements fit_X2_profitByMovements ⟨Nat.le_of_ble_eq_true rfl, Nat.le_of_ble_eq_true rfl, Nat.le_of_ble_eq_true rfl, Nat.le_of_ble_eq_true rfl⟩ (Nat.le_of_ble_eq_true rfl) dX4_allProfits_28 ?_
    refine j_iadd C dX4_allProfits_31 ?_
    refine j_ist1 C dX4_allProfits_32 rfl (Nat.le_of_ble_eq_true rfl) rfl ?_
    refine j_incN2 (q := 1) C dX4_allProfits_33 (by decide) (Nat.le_of_ble_eq_true rfl) rfl ?_
    refine j_goto (tgt := 4) C dX4_allProfits_36 (by decide) ?_
    refine j_mem (V' := V) (L' := L) (by rfl) rfl ?_
    exact j_dr (lv' := [some (.ref (ad g 0)), some (.int (sF (fun _ => true) (fun k => cProf0 (3 + k) V) (i + 1))), some (.int (nI (i + 1))), none]) (And.intro rfl (And.intro (by exact congrArg (fun z => some (Value.int z)) (sF_t rfl)) (And.intro rfl True.intro))) (ih (i + 1) (by omega))
set_option maxHeartbeats 4000000 in
theorem c_X4_allProfits {l : Launch} {g : GC} {V : Mem} {L : LMem} {nl : Nat} (h : LC nl V) : MC l yX4_allProfits cX4_allProfits 4 (some .int) 3 g V L [.ref (ad g 0)] (some (.int (cAllP V nl))) V L := by
  refine MC.of [some (.ref (ad g 0)), none, none, none] (by decide +kernel) rfl (Nat.le_of_ble_eq_true rfl) (fun p e s m args below meth c C => ?_)
  refine j_iconst (v := (nI 0)) C dX4_allProfits_0 (by decide) ?_
  refine j_ist1 C dX4_allProfits_1 rfl (Nat.le_of_ble_eq_true rfl) rfl ?_
  refine j_iconst (v := (nI 0)) C dX4_allProfits_2 (by decide) ?_
  refine j_ist2 C dX4_allProfits_3 rfl (Nat.le_of_ble_eq_true rfl) rfl ?_
  refine lp_X4_allProfits C h ?_ nl 0 (by omega)
  refine j_iload_n C dX4_allProfits_39 rfl rfl ?_
  exact j_iret C dX4_allProfits_40 (by rfl) (by rfl) (by rfl)
set_option maxHeartbeats 4000000 in
theorem lp_X4_endingFirst {p : Program} {l : Launch} {e : Env} {s : State} {m : MethodId} {args : Array Value} {below : List Frame} {meth : Method} {c : Code} {g : GC} {Q : State → Prop} {V : Mem} {L : LMem} {nl : Nat} (C : Cx p s args m meth c cX4_endingFirst 5 yX4_endingFirst.cls (some .int) g) (h : LC nl V) (kx : J p l e (RM 1) s m args below meth c 5 g 0 0 Q V L 58 [some (.ref (ad g 0)), some (.int (cEF V (nl)).1), some (.int (cEF V (nl)).2), some (.int (nI (nl))), none] []) : ∀ j i : Nat, i + j = nl → J p l e (RM 1) s m args below meth c 5 g 0 0 Q V L 7 [some (.ref (ad g 0)), some (.int (cEF V i).1), some (.int (cEF V i).2), some (.int (nI i)), none] [] := by
  intro j
  induction j with
  | zero =>
    intro i hi
    have hi : nl = i := by omega
    subst hi
    refine j_iload_n C dX4_endingFirst_7 rfl rfl ?_
    refine j_aload_n C dX4_endingFirst_8 rfl rfl ?_
    refine jg_State_leaseCount C (by first | assumption | exact kd_sums (by assumption) | exact kd_st1 (by assumption) | exact kd_st2 (by assumption) | exact kd_ls (by first | assumption | exact kdL (by omega) | exact kdQ (by omega) | rfl) (by assumption) | exact kd_sb (by first | assumption | exact kdL (by omega) | exact kdQ (by omega) | rfl) (by assumption) | exact kd_sv (by assumption) | exact kdL (by omega) | exact kdQ (by omega) | rfl) qf_X4_25 dX4_endingFirst_9 ?_
    refine j_tope (y := nI nl) (by exact h.1) ?_
    refine j_icmp_ge (tgt := 58) C dX4_endingFirst_12 (by decide) (fun h12 => ?_) (fun h12 => absurd (nI_le (by omega) (by have := h.2; omega)) h12)
    exact kx
  | succ j ih =>
    intro i hi
    have h8 := h.2
    refine j_iload_n C dX4_endingFirst_7 rfl rfl ?_
    refine j_aload_n C dX4_endingFirst_8 rfl rfl ?_
    refine jg_State_leaseCount C (by first | assumption | exact kd_sums (by assumption) | exact kd_st1 (by assumption) | exact kd_st2 (by assumption) | exact kd_ls (by first | assumption | exact kdL (by omega) | exact kdQ (by omega) | rfl) (by assumption) | exact kd_sb (by first | assumption | exact kdL (by omega) | exact kdQ (by omega) | rfl) (by assumption) | exact kd_sv (by assumption) | exact kdL (by omega) | exact kdQ (by omega) | rfl) qf_X4_25 dX4_endingFirst_9 ?_
    refine j_tope (y := nI nl) (by exact h.1) ?_
    refine j_icmp_ge (tgt := 58) C dX4_endingFirst_12 (by decide) (fun h12 => absurd h12 (nI_ge (by omega) (by have := h.2; omega))) (fun h12 => ?_)
    refine j_aload_n C dX4_endingFirst_15 rfl rfl ?_
    refine j_iload_n C dX4_endingFirst_16 rfl rfl ?_
    refine j_callV1r C (oa_X4 (by first | assumption | exact kd_sums (by assumption) | exact kd_st1 (by assumption) | exact kd_st2 (by assumption) | exact kd_ls (by first | assumption | exact kdL (by omega) | exact kdQ (by omega) | rfl) (by assumption) | exact kd_sb (by first | assumption | exact kdL (by omega) | exact kdQ (by omega) | rfl) (by assumption) | exact kd_sv (by assumption) | exact kdL (by omega) | exact kdQ (by omega) | rfl)) rfl rfl (at_L h (by omega)) qm_X4_35 qi_X4_leaseAt qs_X4_leaseAt qn_X4 qc_X4_leaseAt fit_X4_leaseAt ⟨Nat.le_of_ble_eq_true rfl, Nat.le_of_ble_eq_true rfl, Nat.le_of_ble_eq_true rfl, Nat.le_of_ble_eq_true rfl⟩ (Nat.le_of_ble_eq_true rfl) dX4_endingFirst_17 ?_
    refine j_ast4 C dX4_endingFirst_20 (Nat.le_of_ble_eq_true rfl) rfl ?_
    refine j_aload C dX4_endingFirst_22 rfl ?_
    refine j_ifnull C dX4_endingFirst_24 ?_
    refine j_aload C dX4_endingFirst_27 rfl ?_
    refine j_callV0r C (oa_X2 (by first | assumption | exact kd_sums (by assumption) | exact kd_st1 (by assumption) | exact kd_st2 (by assumption) | exact kd_ls (by first | assumption | exact kdL (by omega) | exact kdQ (by omega) | rfl) (by assumption) | exact kd_sb (by first | assumption | exact kdL (by omega) | exact kdQ (by omega) | rfl) (by assumption) | exact kd_sv (by assumption) | exact kdL (by omega) | exact kdQ (by omega) | rfl)) rfl rfl (c_X2_runs (kdL (by omega))) qm_X4_126 qi_X2_runs qs_X2_runs qn_X2 qc_X2_runs fit_X2_runs ⟨Nat.le_of_ble_eq_true rfl, Nat.le_of_ble_eq_true rfl, Nat.le_of_ble_eq_true rfl, Nat.le_of_ble_eq_true rfl⟩ (Nat.le_of_ble_eq_true rfl) dX4_endingFirst_29 ?_
    refine j_if_eq (tgt := 52) C dX4_endingFirst_32 (by decide) (fun h32 => ?_) (fun h32 => ?_)
    · replace h32 := b2i_0 h32
      refine j_incN3 (q := 1) C dX4_endingFirst_52 (by decide) (Nat.le_of_ble_eq_true rfl) rfl ?_
      refine j_goto (tgt := 7) C dX4_endingFirst_55 (by decide) ?_
      refine j_mem (V' := V) (L' := L) (by rfl) rfl ?_
      exact j_dr (lv' := [some (.ref (ad g 0)), some (.int (cEF V (i + 1)).1), some (.int (cEF V (i + 1)).2), some (.int (nI (i + 1))), none]) (And.intro rfl (And.intro (by simp only [cEF]; first | (rw [if_pos ⟨h32, h41⟩]; done) | (rw [if_neg (fun z => h32 z.1)]; done) | (rw [if_neg (fun z => h41 z.2)]; done) | (rw [if_pos ⟨h32, Int32.not_le.mp h41⟩]; done) | (rw [if_neg (fun z => absurd z.2 (Int32.not_lt.mpr h41))]; done)) (And.intro (by simp only [cEF]; first | (rw [if_pos ⟨h32, h41⟩]; done) | (rw [if_neg (fun z => h32 z.1)]; done) | (rw [if_neg (fun z => h41 z.2)]; done) | (rw [if_pos ⟨h32, Int32.not_le.mp h41⟩]; done) | (rw [if_neg (fun z => absurd z.2 (Int32.not_lt.mpr h41))]; done)) (And.intro rfl True.intro)))) (ih (i + 1) (by omega))
    · replace h32 := b2i_1 h32
      refine j_aload C dX4_endingFirst_35 rfl ?_
      refine jg_Lease_periods C (by exact kdL (by omega)) qf_X4_84 dX4_endingFirst_37 ?_
      refine j_iload_n C dX4_endingFirst_40 rfl rfl ?_
      refine j_icmp_ge (tgt := 52) C dX4_endingFirst_41 (by decide) (fun h41 => ?_) (fun h41 => ?_)
      · refine j_incN3 (q := 1) C dX4_endingFirst_52 (by decide) (Nat.le_of_ble_eq_true rfl) rfl ?_
        refine j_goto (tgt := 7) C dX4_endingFirst_55 (by decide) ?_
        refine j_mem (V' := V) (L' := L) (by rfl) rfl ?_
        exact j_dr (lv' := [some (.ref (ad g 0)), some (.int (cEF V (i + 1)).1), some (.int (cEF V (i + 1)).2), some (.int (nI (i + 1))), none]) (And.intro rfl (And.intro (by simp only [cEF]; first | (rw [if_pos ⟨h32, h41⟩]; done) | (rw [if_neg (fun z => h32 z.1)]; done) | (rw [if_neg (fun z => h41 z.2)]; done) | (rw [if_pos ⟨h32, Int32.not_le.mp h41⟩]; done) | (rw [if_neg (fun z => absurd z.2 (Int32.not_lt.mpr h41))]; done)) (And.intro (by simp only [cEF]; first | (rw [if_pos ⟨h32, h41⟩]; done) | (rw [if_neg (fun z => h32 z.1)]; done) | (rw [if_neg (fun z => h41 z.2)]; done) | (rw [if_pos ⟨h32, Int32.not_le.mp h41⟩]; done) | (rw [if_neg (fun z => absurd z.2 (Int32.not_lt.mpr h41))]; done)) (And.intro rfl True.intro)))) (ih (i + 1) (by omega))
      · refine j_iload_n C dX4_endingFirst_44 rfl rfl ?_
        refine j_ist1 C dX4_endingFirst_45 rfl (Nat.le_of_ble_eq_true rfl) rfl ?_
        refine j_aload C dX4_endingFirst_46 rfl ?_
        refine jg_Lease_periods C (by exact kdL (by omega)) qf_X4_84 dX4_endingFirst_48 ?_
        refine j_ist2 C dX4_endingFirst_51 rfl (Nat.le_of_ble_eq_true rfl) rfl ?_
        refine j_incN3 (q := 1) C dX4_endingFirst_52 (by decide) (Nat.le_of_ble_eq_true rfl) rfl ?_
        refine j_goto (tgt := 7) C dX4_endingFirst_55 (by decide) ?_
        refine j_mem (V' := V) (L' := L) (by rfl) rfl ?_
        exact j_dr (lv' := [some (.ref (ad g 0)), some (.int (cEF V (i + 1)).1), some (.int (cEF V (i + 1)).2), some (.int (nI (i + 1))), none]) (And.intro rfl (And.intro (by simp only [cEF]; first | (rw [if_pos ⟨h32, h41⟩]; done) | (rw [if_neg (fun z => h32 z.1)]; done) | (rw [if_neg (fun z => h41 z.2)]; done) | (rw [if_pos ⟨h32, Int32.not_le.mp h41⟩]; done) | (rw [if_neg (fun z => absurd z.2 (Int32.not_lt.mpr h41))]; done)) (And.intro (by simp only [cEF]; first | (rw [if_pos ⟨h32, h41⟩]; done) | (rw [if_neg (fun z => h32 z.1)]; done) | (rw [if_neg (fun z => h41 z.2)]; done) | (rw [if_pos ⟨h32, Int32.not_le.mp h41⟩]; done) | (rw [if_neg (fun z => absurd z.2 (Int32.not_lt.mpr h41))]; done)) (And.intro rfl True.intro)))) (ih (i + 1) (by omega))
set_option maxHeartbeats 4000000 in
theorem c_X4_endingFirst {l : Launch} {g : GC} {V : Mem} {L : LMem} {nl : Nat} (h : LC nl V) : MC l yX4_endingFirst cX4_endingFirst 5 (some .int) 1 g V L [.ref (ad g 0)] (some (.int (cEF V nl).1)) V L := by
  refine MC.of [some (.ref (ad g 0)), none, none, none, none] (by decide +kernel) rfl (Nat.le_of_ble_eq_true rfl) (fun p e s m args below meth c C => ?_)
  refine j_iconst (v := (-1)) C dX4_endingFirst_0 (by decide) ?_
  refine j_ist1 C dX4_endingFirst_1 rfl (Nat.le_of_ble_eq_true rfl) rfl ?_
  refine j_bipush (v := (nI 61)) C dX4_endingFirst_2 (by decide) ?_
  refine j_ist2 C dX4_endingFirst_4 rfl (Nat.le_of_ble_eq_true rfl) rfl ?_
  refine j_iconst (v := (nI 0)) C dX4_endingFirst_5 (by decide) ?_
  refine j_ist3 C dX4_endingFirst_6 rfl (Nat.le_of_ble_eq_true rfl) rfl ?_
  refine lp_X4_endingFirst C h ?_ nl 0 (by omega)
  refine j_iload_n C dX4_endingFirst_58 rfl rfl ?_
  exact j_iret C dX4_endingFirst_59 (by rfl) (by rfl) (by rfl)
