/-! THE CLASS: its public methods, where they answer (laid by wip/whole/p28.py) -/
theorem off_n64 {a b : Int32} (h : ¬ b = 0) : vf_n64 (FP.ddiv (FP.i2d a) (FP.i2d b)) := Jvm.Free.Fl.ddiv_out (Jvm.Free.Fl.i2d_fin a).noNaN (Jvm.Free.Fl.i2d_fin b) (Jvm.Free.Fl.i2d_nz h)
theorem b2i_nz {P : Prop} [Decidable P] (h : P) : ¬ b2i P = 0 := by unfold b2i; rw [if_pos h]; decide
def HI (o n : Nat) (V : Mem) : Prop := V 217 1 = nI o ∧ o < 6 ∧ V 217 2 = nI n ∧ n ≤ 6
def CI (nl ns : Nat) (V : Mem) : Prop := LC nl V ∧ SC ns V ∧ (∀ k, k < nl → perR (V (3 + k) 1)) ∧ (∀ k, k < nl → rateR (V (3 + k) 2)) ∧ hdR nl ns V ∧ rateS ns V
theorem CI.row {nl ns : Nat} {V V' : Mem} (h : CI nl ns V) (e : ∀ r, r < 31 → V' r = V r) : CI nl ns V' := by
  obtain ⟨h1, h2, h3, h4, h5, h6⟩ := h
  have a1 := h1.2
  have a2 := h2.2
  refine ⟨⟨by rw [e 0 (by omega)]; exact h1.1, h1.2⟩, ⟨by rw [e 0 (by omega)]; exact h2.1, h2.2⟩, fun k hk => by rw [e _ (by omega)]; exact h3 k hk, fun k hk => by rw [e _ (by omega)]; exact h4 k hk, fun q hq => by rw [e _ (by omega)]; exact h5 q hq, fun q hq => by rw [e _ (by omega)]; exact h6 q hq⟩
def cSave (o n nl ns : Nat) (V : Mem) : Mem := if n = 6 then hSave6 o nl ns V else hSave o n nl ns V
theorem cSave_o {o n nl ns r : Nat} {V : Mem} (h8 : nl ≤ 8) (h12 : ns ≤ 12) (h : r < 31 ∨ 217 < r) : cSave o n nl ns V r = V r := by
  unfold cSave
  split
  · unfold hSave6 hSave
    have := Nat.mod_lt ((o + 1) % 6 + 5) (show 0 < 6 by omega)
    rw [mset_o (by omega), cpySt_o h8 h12 (by first | omega | (unfold slR; omega)), mset_o (by omega), mset_o (by omega)]
  · unfold hSave
    have := Nat.mod_lt (o + n) (show 0 < 6 by omega)
    rw [mset_o (by omega), cpySt_o h8 h12 (by first | omega | (unfold slR; omega))]
theorem CI.save {o n nl ns : Nat} {V : Mem} (h : CI nl ns V) : CI nl ns (cSave o n nl ns V) := h.row (fun r hr => cSave_o h.1.2 h.2.1.2 (Or.inl hr))
theorem c_X0_save {l : Launch} {g : GC} {V : Mem} {L : LMem} {o n nl ns : Nat} (hH : HI o n V) (hI : CI nl ns V) : MC l yX0_save cX0_save 3 (Option.none : Option Jvm.ClassFile.FieldType) 2 g V L [.ref (ad g 217), .ref (ad g 0)] none (cSave o n nl ns V) L := by
  obtain ⟨a1, a2, a3, a4⟩ := hH
  unfold cSave
  split
  · exact c_X0_save_6 a1 a2 (by rw [a3]; congr 1) hI.1.1 hI.2.1.1 hI.1.2 hI.2.1.2
  · exact c_X0_save_lt a1 a2 a3 (by omega) hI.1.1 hI.2.1.1 hI.1.2 hI.2.1.2
set_option maxHeartbeats 4000000 in
theorem c_X6_isMoney {l : Launch} {g : GC} {V : Mem} {L : LMem} {v : Int32} : MC l yX6_isMoney cX6_isMoney 1 (some .boolean) 1 g V L [.int v] (some (.int (b2i (money v)))) V L := by
  refine MC.of [some (.int v)] (by decide +kernel) rfl (Nat.le_of_ble_eq_true rfl) (fun p e s m args below meth c C => ?_)
  refine j_iload_n C dX6_isMoney_0 rfl rfl ?_
  refine j_iconst (v := (nI 0)) C dX6_isMoney_1 (by decide) ?_
  refine j_ldcw (v := nI 100000) C qk_X6_314 dX6_isMoney_2 ?_
  refine j_callS3r C (c_X6_isWithin) qm_X6_108 qt_X6_isWithin qn_X6 qc_X6_isWithin fit_X6_isWithin ⟨Nat.le_of_ble_eq_true rfl, Nat.le_of_ble_eq_true rfl, Nat.le_of_ble_eq_true rfl, Nat.le_of_ble_eq_true rfl⟩ (Nat.le_of_ble_eq_true rfl) dX6_isMoney_5 ?_
  exact j_zret C dX6_isMoney_8 (by first | rfl | exact nar_b2i) (by rfl) (by rfl) (by rfl)
set_option maxHeartbeats 4000000 in
theorem c_X6_isPeriods {l : Launch} {g : GC} {V : Mem} {L : LMem} {v : Int32} : MC l yX6_isPeriods cX6_isPeriods 1 (some .boolean) 1 g V L [.int v] (some (.int (b2i (termR v)))) V L := by
  refine MC.of [some (.int v)] (by decide +kernel) rfl (Nat.le_of_ble_eq_true rfl) (fun p e s m args below meth c C => ?_)
  refine j_iload_n C dX6_isPeriods_0 rfl rfl ?_
  refine j_iconst (v := (nI 1)) C dX6_isPeriods_1 (by decide) ?_
  refine j_bipush (v := (nI 60)) C dX6_isPeriods_2 (by decide) ?_
  refine j_callS3r C (c_X6_isWithin) qm_X6_108 qt_X6_isWithin qn_X6 qc_X6_isWithin fit_X6_isWithin ⟨Nat.le_of_ble_eq_true rfl, Nat.le_of_ble_eq_true rfl, Nat.le_of_ble_eq_true rfl, Nat.le_of_ble_eq_true rfl⟩ (Nat.le_of_ble_eq_true rfl) dX6_isPeriods_4 ?_
  exact j_zret C dX6_isPeriods_7 (by first | rfl | exact nar_b2i) (by rfl) (by rfl) (by rfl)
set_option maxHeartbeats 4000000 in
theorem c_X6_isRate {l : Launch} {g : GC} {V : Mem} {L : LMem} {v : Int32} : MC l yX6_isRate cX6_isRate 1 (some .boolean) 1 g V L [.int v] (some (.int (b2i (rateR v)))) V L := by
  refine MC.of [some (.int v)] (by decide +kernel) rfl (Nat.le_of_ble_eq_true rfl) (fun p e s m args below meth c C => ?_)
  refine j_iload_n C dX6_isRate_0 rfl rfl ?_
  refine j_iconst (v := (nI 0)) C dX6_isRate_1 (by decide) ?_
  refine j_sipush (v := (nI 2000)) C dX6_isRate_2 (by decide) ?_
  refine j_callS3r C (c_X6_isWithin) qm_X6_108 qt_X6_isWithin qn_X6 qc_X6_isWithin fit_X6_isWithin ⟨Nat.le_of_ble_eq_true rfl, Nat.le_of_ble_eq_true rfl, Nat.le_of_ble_eq_true rfl, Nat.le_of_ble_eq_true rfl⟩ (Nat.le_of_ble_eq_true rfl) dX6_isRate_5 ?_
  exact j_zret C dX6_isRate_8 (by first | rfl | exact nar_b2i) (by rfl) (by rfl) (by rfl)
set_option maxHeartbeats 4000000 in
theorem c_X6_isThousandths {l : Launch} {g : GC} {V : Mem} {L : LMem} {v : Int32} : MC l yX6_isThousandths cX6_isThousandths 1 (some .boolean) 1 g V L [.int v] (some (.int (b2i (partR v)))) V L := by
  refine MC.of [some (.int v)] (by decide +kernel) rfl (Nat.le_of_ble_eq_true rfl) (fun p e s m args below meth c C => ?_)
  refine j_iload_n C dX6_isThousandths_0 rfl rfl ?_
  refine j_iconst (v := (nI 1)) C dX6_isThousandths_1 (by decide) ?_
  refine j_sipush (v := (nI 1000)) C dX6_isThousandths_2 (by decide) ?_
  refine j_callS3r C (c_X6_isWithin) qm_X6_108 qt_X6_isWithin qn_X6 qc_X6_isWithin fit_X6_isWithin ⟨Nat.le_of_ble_eq_true rfl, Nat.le_of_ble_eq_true rfl, Nat.le_of_ble_eq_true rfl, Nat.le_of_ble_eq_true rfl⟩ (Nat.le_of_ble_eq_true rfl) dX6_isThousandths_5 ?_
  exact j_zret C dX6_isThousandths_8 (by first | rfl | exact nar_b2i) (by rfl) (by rfl) (by rfl)
set_option maxHeartbeats 4000000 in
theorem c_X6_demandArguments {l : Launch} {g : GC} {V : Mem} {L : LMem} {x : Int32} (hx : ¬ x = 0) : MC l yX6_demandArguments cX6_demandArguments 1 (Option.none : Option Jvm.ClassFile.FieldType) 0 g V L [.int x] none V L := by
  refine MC.of [some (.int x)] (by decide +kernel) rfl (Nat.le_of_ble_eq_true rfl) (fun p e s m args below meth c C => ?_)
  refine j_iload_n C dX6_demandArguments_0 rfl rfl ?_
  refine j_if_ne (tgt := 15) C dX6_demandArguments_1 (by decide) (fun h1 => ?_) (fun h1 => (by exact absurd h1 hx))
  exact j_vret C dX6_demandArguments_15 rfl (by rfl) (by rfl)
set_option maxHeartbeats 4000000 in
theorem c_X6_demandState {l : Launch} {g : GC} {V : Mem} {L : LMem} {x : Int32} (hx : ¬ x = 0) : MC l yX6_demandState cX6_demandState 1 (Option.none : Option Jvm.ClassFile.FieldType) 0 g V L [.int x] none V L := by
  refine MC.of [some (.int x)] (by decide +kernel) rfl (Nat.le_of_ble_eq_true rfl) (fun p e s m args below meth c C => ?_)
  refine j_iload_n C dX6_demandState_0 rfl rfl ?_
  refine j_if_ne (tgt := 15) C dX6_demandState_1 (by decide) (fun h1 => ?_) (fun h1 => (by exact absurd h1 hx))
  exact j_vret C dX6_demandState_15 rfl (by rfl) (by rfl)
set_option maxHeartbeats 4000000 in
theorem c_X6_demandIndex {l : Launch} {g : GC} {V : Mem} {L : LMem} {x : Int32} (hx : ¬ x = 0) : MC l yX6_demandIndex cX6_demandIndex 1 (Option.none : Option Jvm.ClassFile.FieldType) 0 g V L [.int x] none V L := by
  refine MC.of [some (.int x)] (by decide +kernel) rfl (Nat.le_of_ble_eq_true rfl) (fun p e s m args below meth c C => ?_)
  refine j_iload_n C dX6_demandIndex_0 rfl rfl ?_
  refine j_if_ne (tgt := 15) C dX6_demandIndex_1 (by decide) (fun h1 => ?_) (fun h1 => (by exact absurd h1 hx))
  exact j_vret C dX6_demandIndex_15 rfl (by rfl) (by rfl)
set_option maxHeartbeats 4000000 in
theorem c_X6_demandLease {l : Launch} {g : GC} {V : Mem} {L : LMem} {k nl : Nat} (h : LC nl V) (hk : k < nl) : MC l yX6_demandLease cX6_demandLease 3 (some (.object "LeaseBook$Lease")) 1 g V L [.ref (ad g 223), .int (nI k)] (some (.ref (ad g (3 + k)))) V L := by
  refine MC.of [some (.ref (ad g 223)), some (.int (nI k)), none] (by decide +kernel) rfl (Nat.le_of_ble_eq_true rfl) (fun p e s m args below meth c C => ?_)
  refine j_aload_n C dX6_demandLease_0 rfl rfl ?_
  refine jg_LeaseBook_now C (by first | assumption | exact kd_sums (by assumption) | exact kd_st1 (by assumption) | exact kd_st2 (by assumption) | exact kd_ls (by first | assumption | exact kdL (by omega) | exact kdQ (by omega) | rfl) (by assumption) | exact kd_sb (by first | assumption | exact kdL (by omega) | exact kdQ (by omega) | rfl) (by assumption) | exact kd_sv (by assumption) | exact kdL (by omega) | exact kdQ (by omega) | rfl) qf_X6_12 dX6_demandLease_1 ?_
  refine j_iload_n C dX6_demandLease_4 rfl rfl ?_
  refine j_callV1r C (oa_X4 (by first | assumption | exact kd_sums (by assumption) | exact kd_st1 (by assumption) | exact kd_st2 (by assumption) | exact kd_ls (by first | assumption | exact kdL (by omega) | exact kdQ (by omega) | rfl) (by assumption) | exact kd_sb (by first | assumption | exact kdL (by omega) | exact kdQ (by omega) | rfl) (by assumption) | exact kd_sv (by assumption) | exact kdL (by omega) | exact kdQ (by omega) | rfl)) rfl rfl (at_L h hk) qm_X6_292 qi_X4_leaseAt qs_X4_leaseAt qn_X4 qc_X4_leaseAt fit_X4_leaseAt ⟨Nat.le_of_ble_eq_true rfl, Nat.le_of_ble_eq_true rfl, Nat.le_of_ble_eq_true rfl, Nat.le_of_ble_eq_true rfl⟩ (Nat.le_of_ble_eq_true rfl) dX6_demandLease_5 ?_
  refine j_ast2 C dX6_demandLease_8 rfl (Nat.le_of_ble_eq_true rfl) rfl ?_
  refine j_aload_n C dX6_demandLease_9 rfl rfl ?_
  refine j_ifnonnull (tgt := 24) C dX6_demandLease_10 (by decide) ?_
  refine j_aload_n C dX6_demandLease_24 rfl rfl ?_
  exact j_aret C dX6_demandLease_25 (by rfl) (by rfl) (by rfl)
theorem cMeas_o {k r1 : Nat} {p n r : Int32} {V : Mem} (h : r1 ≠ k) (h2 : r1 ≠ k + 8) : cMeas k p n r V r1 = V r1 := by
  unfold cMeas
  rw [mset_o h, mset_o h, mset_o h, mset_o h, mset_o h, cMv_o h2, cMv_o h2]
def cMeasSt (k ns : Nat) (n r : Int32) (V : Mem) : Mem := cCutO k ns (cMeas (3 + k) (V (3 + k) 0) n r V)
set_option maxHeartbeats 4000000 in
theorem c_X6_open {l : Launch} {g : GC} {V : Mem} {L : LMem} {nl ns o0 n0 : Nat} (hH : HI o0 n0 V) (hI : CI nl ns V) {p1 n r c0 : Int32} (h1 : money p1) (h2 : termR n) (h3 : rateR r) (h4 : money c0) (hl : nl < 8) : MC l yX6_open cX6_open 5 (some .int) 5 g V L [.ref (ad g 223), .int p1, .int n, .int r, .int c0] (some (.int (nI nl))) (cAddL nl p1 n r c0 (cSave o0 n0 nl ns V)) L := by
  refine MC.of [some (.ref (ad g 223)), some (.int p1), some (.int n), some (.int r), some (.int c0)] (by decide +kernel) rfl (Nat.le_of_ble_eq_true rfl) (fun p e s m args below meth c C => ?_)
  have hS : CI nl ns (cSave o0 n0 nl ns V) := hI.save
  refine j_iload_n C dX6_open_0 rfl rfl ?_
  refine j_callS1r C (c_X6_isMoney) qm_X6_37 qt_X6_isMoney qn_X6 qc_X6_isMoney fit_X6_isMoney ⟨Nat.le_of_ble_eq_true rfl, Nat.le_of_ble_eq_true rfl, Nat.le_of_ble_eq_true rfl, Nat.le_of_ble_eq_true rfl⟩ (Nat.le_of_ble_eq_true rfl) dX6_open_1 ?_
  refine j_if_eq (tgt := 33) C dX6_open_4 (by decide) (fun h4 => ?_) (fun h4 => ?_)
  · replace h4 := b2i_0 h4
    exfalso
    first | contradiction | exact absurd (by assumption) hbad | exact absurd (i_ge (a := 8) (b := nl) (by omega) (by omega) h46) (by omega)
  · replace h4 := b2i_1 h4
    refine j_iload_n C dX6_open_7 rfl rfl ?_
    refine j_callS1r C (c_X6_isPeriods) qm_X6_41 qt_X6_isPeriods qn_X6 qc_X6_isPeriods fit_X6_isPeriods ⟨Nat.le_of_ble_eq_true rfl, Nat.le_of_ble_eq_true rfl, Nat.le_of_ble_eq_true rfl, Nat.le_of_ble_eq_true rfl⟩ (Nat.le_of_ble_eq_true rfl) dX6_open_8 ?_
    refine j_if_eq (tgt := 33) C dX6_open_11 (by decide) (fun h11 => ?_) (fun h11 => ?_)
    · replace h11 := b2i_0 h11
      exfalso
      first | contradiction | exact absurd (by assumption) hbad | exact absurd (i_ge (a := 8) (b := nl) (by omega) (by omega) h46) (by omega)
    · replace h11 := b2i_1 h11
      refine j_iload_n C dX6_open_14 rfl rfl ?_
      refine j_callS1r C (c_X6_isRate) qm_X6_44 qt_X6_isRate qn_X6 qc_X6_isRate fit_X6_isRate ⟨Nat.le_of_ble_eq_true rfl, Nat.le_of_ble_eq_true rfl, Nat.le_of_ble_eq_true rfl, Nat.le_of_ble_eq_true rfl⟩ (Nat.le_of_ble_eq_true rfl) dX6_open_15 ?_
      refine j_if_eq (tgt := 33) C dX6_open_18 (by decide) (fun h18 => ?_) (fun h18 => ?_)
      · replace h18 := b2i_0 h18
        exfalso
        first | contradiction | exact absurd (by assumption) hbad | exact absurd (i_ge (a := 8) (b := nl) (by omega) (by omega) h46) (by omega)
      · replace h18 := b2i_1 h18
        refine j_iload C dX6_open_21 rfl ?_
        refine j_callS1r C (c_X6_isMoney) qm_X6_37 qt_X6_isMoney qn_X6 qc_X6_isMoney fit_X6_isMoney ⟨Nat.le_of_ble_eq_true rfl, Nat.le_of_ble_eq_true rfl, Nat.le_of_ble_eq_true rfl, Nat.le_of_ble_eq_true rfl⟩ (Nat.le_of_ble_eq_true rfl) dX6_open_23 ?_
        refine j_if_eq (tgt := 33) C dX6_open_26 (by decide) (fun h26 => ?_) (fun h26 => ?_)
        · replace h26 := b2i_0 h26
          exfalso
          first | contradiction | exact absurd (by assumption) hbad | exact absurd (i_ge (a := 8) (b := nl) (by omega) (by omega) h46) (by omega)
        · replace h26 := b2i_1 h26
          refine j_iconst (v := (nI 1)) C dX6_open_29 (by decide) ?_
          refine j_goto (tgt := 34) C dX6_open_30 (by decide) ?_
          refine j_callS1v C (c_X6_demandArguments (by first | decide | exact b2i_nz (by assumption))) qm_X6_47 qt_X6_demandArguments qn_X6 qc_X6_demandArguments fit_X6_demandArguments ⟨Nat.le_of_ble_eq_true rfl, Nat.le_of_ble_eq_true rfl, Nat.le_of_ble_eq_true rfl, Nat.le_of_ble_eq_true rfl⟩ (Nat.le_of_ble_eq_true rfl) dX6_open_34 ?_
          refine j_aload_n C dX6_open_37 rfl rfl ?_
          refine jg_LeaseBook_now C (by first | assumption | exact kd_sums (by assumption) | exact kd_st1 (by assumption) | exact kd_st2 (by assumption) | exact kd_ls (by first | assumption | exact kdL (by omega) | exact kdQ (by omega) | rfl) (by assumption) | exact kd_sb (by first | assumption | exact kdL (by omega) | exact kdQ (by omega) | rfl) (by assumption) | exact kd_sv (by assumption) | exact kdL (by omega) | exact kdQ (by omega) | rfl) qf_X6_12 dX6_open_38 ?_
          refine jg_State_leaseCount C (by first | assumption | exact kd_sums (by assumption) | exact kd_st1 (by assumption) | exact kd_st2 (by assumption) | exact kd_ls (by first | assumption | exact kdL (by omega) | exact kdQ (by omega) | rfl) (by assumption) | exact kd_sb (by first | assumption | exact kdL (by omega) | exact kdQ (by omega) | rfl) (by assumption) | exact kd_sv (by assumption) | exact kdL (by omega) | exact kdQ (by omega) | rfl) qf_X6_51 dX6_open_41 ?_
          refine j_tope (y := nI nl) (by exact hI.1.1) ?_
          refine j_bipush (v := (nI 8)) C dX6_open_44 (by decide) ?_
          refine j_icmp_ge (tgt := 53) C dX6_open_46 (by decide) (fun h46 => ?_) (fun h46 => ?_)
          · exfalso
            first | contradiction | exact absurd (by assumption) hbad | exact absurd (i_ge (a := 8) (b := nl) (by omega) (by omega) h46) (by omega)
          · refine j_iconst (v := (nI 1)) C dX6_open_49 (by decide) ?_
            refine j_goto (tgt := 54) C dX6_open_50 (by decide) ?_
            refine j_callS1v C (c_X6_demandState (by first | decide | exact b2i_nz (by assumption))) qm_X6_55 qt_X6_demandState qn_X6 qc_X6_demandState fit_X6_demandState ⟨Nat.le_of_ble_eq_true rfl, Nat.le_of_ble_eq_true rfl, Nat.le_of_ble_eq_true rfl, Nat.le_of_ble_eq_true rfl⟩ (Nat.le_of_ble_eq_true rfl) dX6_open_54 ?_
            refine j_aload_n C dX6_open_57 rfl rfl ?_
            refine jg_LeaseBook_history C (by first | assumption | exact kd_sums (by assumption) | exact kd_st1 (by assumption) | exact kd_st2 (by assumption) | exact kd_ls (by first | assumption | exact kdL (by omega) | exact kdQ (by omega) | rfl) (by assumption) | exact kd_sb (by first | assumption | exact kdL (by omega) | exact kdQ (by omega) | rfl) (by assumption) | exact kd_sv (by assumption) | exact kdL (by omega) | exact kdQ (by omega) | rfl) qf_X6_19 dX6_open_58 ?_
            refine j_aload_n C dX6_open_61 rfl rfl ?_
            refine jg_LeaseBook_now C (by first | assumption | exact kd_sums (by assumption) | exact kd_st1 (by assumption) | exact kd_st2 (by assumption) | exact kd_ls (by first | assumption | exact kdL (by omega) | exact kdQ (by omega) | rfl) (by assumption) | exact kd_sb (by first | assumption | exact kdL (by omega) | exact kdQ (by omega) | rfl) (by assumption) | exact kd_sv (by assumption) | exact kdL (by omega) | exact kdQ (by omega) | rfl) qf_X6_12 dX6_open_62 ?_
            refine j_callV1v C (oa_X0 (by first | assumption | exact kd_sums (by assumption) | exact kd_st1 (by assumption) | exact kd_st2 (by assumption) | exact kd_ls (by first | assumption | exact kdL (by omega) | exact kdQ (by omega) | rfl) (by assumption) | exact kd_sb (by first | assumption | exact kdL (by omega) | exact kdQ (by omega) | rfl) (by assumption) | exact kd_sv (by assumption) | exact kdL (by omega) | exact kdQ (by omega) | rfl)) rfl rfl (c_X0_save hH hI) qm_X6_58 qi_X0_save qs_X0_save qn_X0 qc_X0_save fit_X0_save ⟨Nat.le_of_ble_eq_true rfl, Nat.le_of_ble_eq_true rfl, Nat.le_of_ble_eq_true rfl, Nat.le_of_ble_eq_true rfl⟩ (Nat.le_of_ble_eq_true rfl) dX6_open_65 ?_
            refine j_aload_n C dX6_open_68 rfl rfl ?_
            refine jg_LeaseBook_now C (by first | assumption | exact kd_sums (by assumption) | exact kd_st1 (by assumption) | exact kd_st2 (by assumption) | exact kd_ls (by first | assumption | exact kdL (by omega) | exact kdQ (by omega) | rfl) (by assumption) | exact kd_sb (by first | assumption | exact kdL (by omega) | exact kdQ (by omega) | rfl) (by assumption) | exact kd_sv (by assumption) | exact kdL (by omega) | exact kdQ (by omega) | rfl) qf_X6_12 dX6_open_69 ?_
            refine j_iload_n C dX6_open_72 rfl rfl ?_
            refine j_iload_n C dX6_open_73 rfl rfl ?_
            refine j_iload_n C dX6_open_74 rfl rfl ?_
            refine j_iload C dX6_open_75 rfl ?_
            refine j_callV4r C (oa_X4 (by first | assumption | exact kd_sums (by assumption) | exact kd_st1 (by assumption) | exact kd_st2 (by assumption) | exact kd_ls (by first | assumption | exact kdL (by omega) | exact kdQ (by omega) | rfl) (by assumption) | exact kd_sb (by first | assumption | exact kdL (by omega) | exact kdQ (by omega) | rfl) (by assumption) | exact kd_sv (by assumption) | exact kdL (by omega) | exact kdQ (by omega) | rfl)) rfl rfl (c_X4_addLease hS.1 hl h3) qm_X6_62 qi_X4_addLease qs_X4_addLease qn_X4 qc_X4_addLease fit_X4_addLease ⟨Nat.le_of_ble_eq_true rfl, Nat.le_of_ble_eq_true rfl, Nat.le_of_ble_eq_true rfl, Nat.le_of_ble_eq_true rfl⟩ (Nat.le_of_ble_eq_true rfl) dX6_open_77 ?_
            exact j_iret C dX6_open_80 (by rfl) (by rfl) (by rfl)
set_option maxHeartbeats 4000000 in
theorem c_X6_term {l : Launch} {g : GC} {V : Mem} {L : LMem} {k nl ns o0 n0 : Nat} (hH : HI o0 n0 V) (hI : CI nl ns V) (hk : k < nl) {n r : Int32} (h1 : termR n) (h2 : rateR r) (h3 : 0 < V (3 + k) 1) : MC l yX6_term cX6_term 5 (some .int) 5 g V L [.ref (ad g 223), .int (nI k), .int n, .int r] (some (.int (cMeasSt k ns n r (cSave o0 n0 nl ns V) (3 + k) 3))) (cMeasSt k ns n r (cSave o0 n0 nl ns V)) L := by
  refine MC.of [some (.ref (ad g 223)), some (.int (nI k)), some (.int n), some (.int r), none] (by decide +kernel) rfl (Nat.le_of_ble_eq_true rfl) (fun p e s m args below meth c C => ?_)
  have hk8 : k < 8 := Nat.lt_of_lt_of_le hk hI.1.2
  have hkk := kdL hk8
  have hS : CI nl ns (cSave o0 n0 nl ns V) := hI.save
  have eM : ∀ r1, (r1 = 0 ∨ 19 ≤ r1) → cMeas (3 + k) (cSave o0 n0 nl ns V (3 + k) 0) n r (cSave o0 n0 nl ns V) r1 = cSave o0 n0 nl ns V r1 := fun r1 hr => cMeas_o (by omega) (by omega)
  refine j_aload_n C dX6_term_0 rfl rfl ?_
  refine j_iload_n C dX6_term_1 rfl rfl ?_
  refine j_callV1r C (oa_X6 (by first | assumption | exact kd_sums (by assumption) | exact kd_st1 (by assumption) | exact kd_st2 (by assumption) | exact kd_ls (by first | assumption | exact kdL (by omega) | exact kdQ (by omega) | rfl) (by assumption) | exact kd_sb (by first | assumption | exact kdL (by omega) | exact kdQ (by omega) | rfl) (by assumption) | exact kd_sv (by assumption) | exact kdL (by omega) | exact kdQ (by omega) | rfl)) rfl rfl (c_X6_demandLease hI.1 hk) qm_X6_66 qi_X6_demandLease qs_X6_demandLease qn_X6 qc_X6_demandLease fit_X6_demandLease ⟨Nat.le_of_ble_eq_true rfl, Nat.le_of_ble_eq_true rfl, Nat.le_of_ble_eq_true rfl, Nat.le_of_ble_eq_true rfl⟩ (Nat.le_of_ble_eq_true rfl) dX6_term_2 ?_
  refine j_ast4 C dX6_term_5 (Nat.le_of_ble_eq_true rfl) rfl ?_
  refine j_iload_n C dX6_term_7 rfl rfl ?_
  refine j_callS1r C (c_X6_isPeriods) qm_X6_41 qt_X6_isPeriods qn_X6 qc_X6_isPeriods fit_X6_isPeriods ⟨Nat.le_of_ble_eq_true rfl, Nat.le_of_ble_eq_true rfl, Nat.le_of_ble_eq_true rfl, Nat.le_of_ble_eq_true rfl⟩ (Nat.le_of_ble_eq_true rfl) dX6_term_8 ?_
  refine j_if_eq (tgt := 25) C dX6_term_11 (by decide) (fun h11 => ?_) (fun h11 => ?_)
  · replace h11 := b2i_0 h11
    exfalso
    first | contradiction | exact absurd (by assumption) hbad | exact absurd (i_ge (a := 8) (b := nl) (by omega) (by omega) h46) (by omega)
  · replace h11 := b2i_1 h11
    refine j_iload_n C dX6_term_14 rfl rfl ?_
    refine j_callS1r C (c_X6_isRate) qm_X6_44 qt_X6_isRate qn_X6 qc_X6_isRate fit_X6_isRate ⟨Nat.le_of_ble_eq_true rfl, Nat.le_of_ble_eq_true rfl, Nat.le_of_ble_eq_true rfl, Nat.le_of_ble_eq_true rfl⟩ (Nat.le_of_ble_eq_true rfl) dX6_term_15 ?_
    refine j_if_eq (tgt := 25) C dX6_term_18 (by decide) (fun h18 => ?_) (fun h18 => ?_)
    · replace h18 := b2i_0 h18
      exfalso
      first | contradiction | exact absurd (by assumption) hbad | exact absurd (i_ge (a := 8) (b := nl) (by omega) (by omega) h46) (by omega)
    · replace h18 := b2i_1 h18
      refine j_iconst (v := (nI 1)) C dX6_term_21 (by decide) ?_
      refine j_goto (tgt := 26) C dX6_term_22 (by decide) ?_
      refine j_callS1v C (c_X6_demandArguments (by first | decide | exact b2i_nz (by assumption))) qm_X6_47 qt_X6_demandArguments qn_X6 qc_X6_demandArguments fit_X6_demandArguments ⟨Nat.le_of_ble_eq_true rfl, Nat.le_of_ble_eq_true rfl, Nat.le_of_ble_eq_true rfl, Nat.le_of_ble_eq_true rfl⟩ (Nat.le_of_ble_eq_true rfl) dX6_term_26 ?_
      refine j_aload C dX6_term_29 rfl ?_
      refine j_callV0r C (oa_X2 (by first | assumption | exact kd_sums (by assumption) | exact kd_st1 (by assumption) | exact kd_st2 (by assumption) | exact kd_ls (by first | assumption | exact kdL (by omega) | exact kdQ (by omega) | rfl) (by assumption) | exact kd_sb (by first | assumption | exact kdL (by omega) | exact kdQ (by omega) | rfl) (by assumption) | exact kd_sv (by assumption) | exact kdL (by omega) | exact kdQ (by omega) | rfl)) rfl rfl (c_X2_runs hkk) qm_X6_70 qi_X2_runs qs_X2_runs qn_X2 qc_X2_runs fit_X2_runs ⟨Nat.le_of_ble_eq_true rfl, Nat.le_of_ble_eq_true rfl, Nat.le_of_ble_eq_true rfl, Nat.le_of_ble_eq_true rfl⟩ (Nat.le_of_ble_eq_true rfl) dX6_term_31 ?_
      refine j_callS1v C (c_X6_demandState (by first | decide | exact b2i_nz (by assumption))) qm_X6_55 qt_X6_demandState qn_X6 qc_X6_demandState fit_X6_demandState ⟨Nat.le_of_ble_eq_true rfl, Nat.le_of_ble_eq_true rfl, Nat.le_of_ble_eq_true rfl, Nat.le_of_ble_eq_true rfl⟩ (Nat.le_of_ble_eq_true rfl) dX6_term_34 ?_
      refine j_aload_n C dX6_term_37 rfl rfl ?_
      refine jg_LeaseBook_history C (by first | assumption | exact kd_sums (by assumption) | exact kd_st1 (by assumption) | exact kd_st2 (by assumption) | exact kd_ls (by first | assumption | exact kdL (by omega) | exact kdQ (by omega) | rfl) (by assumption) | exact kd_sb (by first | assumption | exact kdL (by omega) | exact kdQ (by omega) | rfl) (by assumption) | exact kd_sv (by assumption) | exact kdL (by omega) | exact kdQ (by omega) | rfl) qf_X6_19 dX6_term_38 ?_
      refine j_aload_n C dX6_term_41 rfl rfl ?_
      refine jg_LeaseBook_now C (by first | assumption | exact kd_sums (by assumption) | exact kd_st1 (by assumption) | exact kd_st2 (by assumption) | exact kd_ls (by first | assumption | exact kdL (by omega) | exact kdQ (by omega) | rfl) (by assumption) | exact kd_sb (by first | assumption | exact kdL (by omega) | exact kdQ (by omega) | rfl) (by assumption) | exact kd_sv (by assumption) | exact kdL (by omega) | exact kdQ (by omega) | rfl) qf_X6_12 dX6_term_42 ?_
      refine j_callV1v C (oa_X0 (by first | assumption | exact kd_sums (by assumption) | exact kd_st1 (by assumption) | exact kd_st2 (by assumption) | exact kd_ls (by first | assumption | exact kdL (by omega) | exact kdQ (by omega) | rfl) (by assumption) | exact kd_sb (by first | assumption | exact kdL (by omega) | exact kdQ (by omega) | rfl) (by assumption) | exact kd_sv (by assumption) | exact kdL (by omega) | exact kdQ (by omega) | rfl)) rfl rfl (c_X0_save hH hI) qm_X6_58 qi_X0_save qs_X0_save qn_X0 qc_X0_save fit_X0_save ⟨Nat.le_of_ble_eq_true rfl, Nat.le_of_ble_eq_true rfl, Nat.le_of_ble_eq_true rfl, Nat.le_of_ble_eq_true rfl⟩ (Nat.le_of_ble_eq_true rfl) dX6_term_45 ?_
      refine j_aload C dX6_term_48 rfl ?_
      refine j_aload C dX6_term_50 rfl ?_
      refine jg_Lease_payment C (by first | assumption | exact kd_sums (by assumption) | exact kd_st1 (by assumption) | exact kd_st2 (by assumption) | exact kd_ls (by first | assumption | exact kdL (by omega) | exact kdQ (by omega) | rfl) (by assumption) | exact kd_sb (by first | assumption | exact kdL (by omega) | exact kdQ (by omega) | rfl) (by assumption) | exact kd_sv (by assumption) | exact kdL (by omega) | exact kdQ (by omega) | rfl) qf_X6_76 dX6_term_52 ?_
      refine j_iload_n C dX6_term_55 rfl rfl ?_
      refine j_iload_n C dX6_term_56 rfl rfl ?_
      refine j_callV3v C (oa_X2 (by first | assumption | exact kd_sums (by assumption) | exact kd_st1 (by assumption) | exact kd_st2 (by assumption) | exact kd_ls (by first | assumption | exact kdL (by omega) | exact kdQ (by omega) | rfl) (by assumption) | exact kd_sb (by first | assumption | exact kdL (by omega) | exact kdQ (by omega) | rfl) (by assumption) | exact kd_sv (by assumption) | exact kdL (by omega) | exact kdQ (by omega) | rfl)) rfl rfl (c_X2_measure hkk h2) qm_X6_79 qi_X2_measure qs_X2_measure qn_X2 qc_X2_measure fit_X2_measure ⟨Nat.le_of_ble_eq_true rfl, Nat.le_of_ble_eq_true rfl, Nat.le_of_ble_eq_true rfl, Nat.le_of_ble_eq_true rfl⟩ (Nat.le_of_ble_eq_true rfl) dX6_term_57 ?_
      refine j_aload_n C dX6_term_60 rfl rfl ?_
      refine jg_LeaseBook_now C (by first | assumption | exact kd_sums (by assumption) | exact kd_st1 (by assumption) | exact kd_st2 (by assumption) | exact kd_ls (by first | assumption | exact kdL (by omega) | exact kdQ (by omega) | rfl) (by assumption) | exact kd_sb (by first | assumption | exact kdL (by omega) | exact kdQ (by omega) | rfl) (by assumption) | exact kd_sv (by assumption) | exact kdL (by omega) | exact kdQ (by omega) | rfl) qf_X6_12 dX6_term_61 ?_
      refine j_iload_n C dX6_term_64 rfl rfl ?_
      refine j_aload C dX6_term_65 rfl ?_
      refine j_callV2v C (oa_X4 (by first | assumption | exact kd_sums (by assumption) | exact kd_st1 (by assumption) | exact kd_st2 (by assumption) | exact kd_ls (by first | assumption | exact kdL (by omega) | exact kdQ (by omega) | rfl) (by assumption) | exact kd_sb (by first | assumption | exact kdL (by omega) | exact kdQ (by omega) | rfl) (by assumption) | exact kd_sv (by assumption) | exact kdL (by omega) | exact kdQ (by omega) | rfl)) rfl rfl (c_X4_cutOff ⟨by rw [eM _ (by omega)]; exact hS.2.1.1, hS.2.1.2⟩ hk8 (fun q hq => by rw [eM _ (by omega)]; exact hS.2.2.2.2.2 q hq)) qm_X6_83 qi_X4_cutOff qs_X4_cutOff qn_X4 qc_X4_cutOff fit_X4_cutOff ⟨Nat.le_of_ble_eq_true rfl, Nat.le_of_ble_eq_true rfl, Nat.le_of_ble_eq_true rfl, Nat.le_of_ble_eq_true rfl⟩ (Nat.le_of_ble_eq_true rfl) dX6_term_67 ?_
      refine j_aload C dX6_term_70 rfl ?_
      refine jg_Lease_liability C (by first | assumption | exact kd_sums (by assumption) | exact kd_st1 (by assumption) | exact kd_st2 (by assumption) | exact kd_ls (by first | assumption | exact kdL (by omega) | exact kdQ (by omega) | rfl) (by assumption) | exact kd_sb (by first | assumption | exact kdL (by omega) | exact kdQ (by omega) | rfl) (by assumption) | exact kd_sv (by assumption) | exact kdL (by omega) | exact kdQ (by omega) | rfl) qf_X6_87 dX6_term_72 ?_
      exact j_iret C dX6_term_75 (by rfl) (by rfl) (by rfl)
set_option maxHeartbeats 4000000 in
theorem c_X6_rent {l : Launch} {g : GC} {V : Mem} {L : LMem} {k nl ns o0 n0 : Nat} (hH : HI o0 n0 V) (hI : CI nl ns V) (hk : k < nl) {p1 : Int32} (h1 : money p1) (h3 : 0 < V (3 + k) 1) : MC l yX6_rent cX6_rent 4 (some .int) 5 g V L [.ref (ad g 223), .int (nI k), .int p1] (some (.int (cMeas (3 + k) p1 ((cSave o0 n0 nl ns V) (3 + k) 1) ((cSave o0 n0 nl ns V) (3 + k) 2) (cSave o0 n0 nl ns V) (3 + k) 3))) (cMeas (3 + k) p1 ((cSave o0 n0 nl ns V) (3 + k) 1) ((cSave o0 n0 nl ns V) (3 + k) 2) (cSave o0 n0 nl ns V)) L := by
  refine MC.of [some (.ref (ad g 223)), some (.int (nI k)), some (.int p1), none] (by decide +kernel) rfl (Nat.le_of_ble_eq_true rfl) (fun p e s m args below meth c C => ?_)
  have hk8 : k < 8 := Nat.lt_of_lt_of_le hk hI.1.2
  have hkk := kdL hk8
  have hS : CI nl ns (cSave o0 n0 nl ns V) := hI.save
  refine j_aload_n C dX6_rent_0 rfl rfl ?_
  refine j_iload_n C dX6_rent_1 rfl rfl ?_
  refine j_callV1r C (oa_X6 (by first | assumption | exact kd_sums (by assumption) | exact kd_st1 (by assumption) | exact kd_st2 (by assumption) | exact kd_ls (by first | assumption | exact kdL (by omega) | exact kdQ (by omega) | rfl) (by assumption) | exact kd_sb (by first | assumption | exact kdL (by omega) | exact kdQ (by omega) | rfl) (by assumption) | exact kd_sv (by assumption) | exact kdL (by omega) | exact kdQ (by omega) | rfl)) rfl rfl (c_X6_demandLease hI.1 hk) qm_X6_66 qi_X6_demandLease qs_X6_demandLease qn_X6 qc_X6_demandLease fit_X6_demandLease ⟨Nat.le_of_ble_eq_true rfl, Nat.le_of_ble_eq_true rfl, Nat.le_of_ble_eq_true rfl, Nat.le_of_ble_eq_true rfl⟩ (Nat.le_of_ble_eq_true rfl) dX6_rent_2 ?_
  refine j_ast3 C dX6_rent_5 rfl (Nat.le_of_ble_eq_true rfl) rfl ?_
  refine j_iload_n C dX6_rent_6 rfl rfl ?_
  refine j_callS1r C (c_X6_isMoney) qm_X6_37 qt_X6_isMoney qn_X6 qc_X6_isMoney fit_X6_isMoney ⟨Nat.le_of_ble_eq_true rfl, Nat.le_of_ble_eq_true rfl, Nat.le_of_ble_eq_true rfl, Nat.le_of_ble_eq_true rfl⟩ (Nat.le_of_ble_eq_true rfl) dX6_rent_7 ?_
  refine j_callS1v C (c_X6_demandArguments (by first | decide | exact b2i_nz (by assumption))) qm_X6_47 qt_X6_demandArguments qn_X6 qc_X6_demandArguments fit_X6_demandArguments ⟨Nat.le_of_ble_eq_true rfl, Nat.le_of_ble_eq_true rfl, Nat.le_of_ble_eq_true rfl, Nat.le_of_ble_eq_true rfl⟩ (Nat.le_of_ble_eq_true rfl) dX6_rent_10 ?_
  refine j_aload_n C dX6_rent_13 rfl rfl ?_
  refine j_callV0r C (oa_X2 (by first | assumption | exact kd_sums (by assumption) | exact kd_st1 (by assumption) | exact kd_st2 (by assumption) | exact kd_ls (by first | assumption | exact kdL (by omega) | exact kdQ (by omega) | rfl) (by assumption) | exact kd_sb (by first | assumption | exact kdL (by omega) | exact kdQ (by omega) | rfl) (by assumption) | exact kd_sv (by assumption) | exact kdL (by omega) | exact kdQ (by omega) | rfl)) rfl rfl (c_X2_runs hkk) qm_X6_70 qi_X2_runs qs_X2_runs qn_X2 qc_X2_runs fit_X2_runs ⟨Nat.le_of_ble_eq_true rfl, Nat.le_of_ble_eq_true rfl, Nat.le_of_ble_eq_true rfl, Nat.le_of_ble_eq_true rfl⟩ (Nat.le_of_ble_eq_true rfl) dX6_rent_14 ?_
  refine j_callS1v C (c_X6_demandState (by first | decide | exact b2i_nz (by assumption))) qm_X6_55 qt_X6_demandState qn_X6 qc_X6_demandState fit_X6_demandState ⟨Nat.le_of_ble_eq_true rfl, Nat.le_of_ble_eq_true rfl, Nat.le_of_ble_eq_true rfl, Nat.le_of_ble_eq_true rfl⟩ (Nat.le_of_ble_eq_true rfl) dX6_rent_17 ?_
  refine j_aload_n C dX6_rent_20 rfl rfl ?_
  refine jg_LeaseBook_history C (by first | assumption | exact kd_sums (by assumption) | exact kd_st1 (by assumption) | exact kd_st2 (by assumption) | exact kd_ls (by first | assumption | exact kdL (by omega) | exact kdQ (by omega) | rfl) (by assumption) | exact kd_sb (by first | assumption | exact kdL (by omega) | exact kdQ (by omega) | rfl) (by assumption) | exact kd_sv (by assumption) | exact kdL (by omega) | exact kdQ (by omega) | rfl) qf_X6_19 dX6_rent_21 ?_
  refine j_aload_n C dX6_rent_24 rfl rfl ?_
  refine jg_LeaseBook_now C (by first | assumption | exact kd_sums (by assumption) | exact kd_st1 (by assumption) | exact kd_st2 (by assumption) | exact kd_ls (by first | assumption | exact kdL (by omega) | exact kdQ (by omega) | rfl) (by assumption) | exact kd_sb (by first | assumption | exact kdL (by omega) | exact kdQ (by omega) | rfl) (by assumption) | exact kd_sv (by assumption) | exact kdL (by omega) | exact kdQ (by omega) | rfl) qf_X6_12 dX6_rent_25 ?_
  refine j_callV1v C (oa_X0 (by first | assumption | exact kd_sums (by assumption) | exact kd_st1 (by assumption) | exact kd_st2 (by assumption) | exact kd_ls (by first | assumption | exact kdL (by omega) | exact kdQ (by omega) | rfl) (by assumption) | exact kd_sb (by first | assumption | exact kdL (by omega) | exact kdQ (by omega) | rfl) (by assumption) | exact kd_sv (by assumption) | exact kdL (by omega) | exact kdQ (by omega) | rfl)) rfl rfl (c_X0_save hH hI) qm_X6_58 qi_X0_save qs_X0_save qn_X0 qc_X0_save fit_X0_save ⟨Nat.le_of_ble_eq_true rfl, Nat.le_of_ble_eq_true rfl, Nat.le_of_ble_eq_true rfl, Nat.le_of_ble_eq_true rfl⟩ (Nat.le_of_ble_eq_true rfl) dX6_rent_28 ?_
  refine j_aload_n C dX6_rent_31 rfl rfl ?_
  refine j_iload_n C dX6_rent_32 rfl rfl ?_
  refine j_aload_n C dX6_rent_33 rfl rfl ?_
  refine jg_Lease_periods C (by first | assumption | exact kd_sums (by assumption) | exact kd_st1 (by assumption) | exact kd_st2 (by assumption) | exact kd_ls (by first | assumption | exact kdL (by omega) | exact kdQ (by omega) | rfl) (by assumption) | exact kd_sb (by first | assumption | exact kdL (by omega) | exact kdQ (by omega) | rfl) (by assumption) | exact kd_sv (by assumption) | exact kdL (by omega) | exact kdQ (by omega) | rfl) qf_X6_90 dX6_rent_34 ?_
  refine j_aload_n C dX6_rent_37 rfl rfl ?_
  refine jg_Lease_rate C (by first | assumption | exact kd_sums (by assumption) | exact kd_st1 (by assumption) | exact kd_st2 (by assumption) | exact kd_ls (by first | assumption | exact kdL (by omega) | exact kdQ (by omega) | rfl) (by assumption) | exact kd_sb (by first | assumption | exact kdL (by omega) | exact kdQ (by omega) | rfl) (by assumption) | exact kd_sv (by assumption) | exact kdL (by omega) | exact kdQ (by omega) | rfl) qf_X6_93 dX6_rent_38 ?_
  refine j_callV3v C (oa_X2 (by first | assumption | exact kd_sums (by assumption) | exact kd_st1 (by assumption) | exact kd_st2 (by assumption) | exact kd_ls (by first | assumption | exact kdL (by omega) | exact kdQ (by omega) | rfl) (by assumption) | exact kd_sb (by first | assumption | exact kdL (by omega) | exact kdQ (by omega) | rfl) (by assumption) | exact kd_sv (by assumption) | exact kdL (by omega) | exact kdQ (by omega) | rfl)) rfl rfl (c_X2_measure hkk (hS.2.2.2.1 k hk)) qm_X6_79 qi_X2_measure qs_X2_measure qn_X2 qc_X2_measure fit_X2_measure ⟨Nat.le_of_ble_eq_true rfl, Nat.le_of_ble_eq_true rfl, Nat.le_of_ble_eq_true rfl, Nat.le_of_ble_eq_true rfl⟩ (Nat.le_of_ble_eq_true rfl) dX6_rent_41 ?_
  refine j_aload_n C dX6_rent_44 rfl rfl ?_
  refine jg_Lease_liability C (by first | assumption | exact kd_sums (by assumption) | exact kd_st1 (by assumption) | exact kd_st2 (by assumption) | exact kd_ls (by first | assumption | exact kdL (by omega) | exact kdQ (by omega) | rfl) (by assumption) | exact kd_sb (by first | assumption | exact kdL (by omega) | exact kdQ (by omega) | rfl) (by assumption) | exact kd_sv (by assumption) | exact kdL (by omega) | exact kdQ (by omega) | rfl) qf_X6_87 dX6_rent_45 ?_
  exact j_iret C dX6_rent_48 (by rfl) (by rfl) (by rfl)
set_option maxHeartbeats 4000000 in
theorem c_X6_endPart {l : Launch} {g : GC} {V : Mem} {L : LMem} {k nl ns o0 n0 : Nat} (hH : HI o0 n0 V) (hI : CI nl ns V) (hk : k < nl) {t fee : Int32} (h1 : partR t) (h2 : money fee) (h3 : 0 < V (3 + k) 1) (h4 : cRunOf V ns k = 0) : MC l yX6_endPart cX6_endPart 5 (some .int) 5 g V L [.ref (ad g 223), .int (nI k), .int t, .int fee] (some (.int (cEndL (3 + k) t (cSave o0 n0 nl ns V) - cEndA (3 + k) t (cSave o0 n0 nl ns V) - fee))) (cEnd (3 + k) t fee (cSave o0 n0 nl ns V)) L := by
  refine MC.of [some (.ref (ad g 223)), some (.int (nI k)), some (.int t), some (.int fee), none] (by decide +kernel) rfl (Nat.le_of_ble_eq_true rfl) (fun p e s m args below meth c C => ?_)
  have hk8 : k < 8 := Nat.lt_of_lt_of_le hk hI.1.2
  have hkk := kdL hk8
  have hS : CI nl ns (cSave o0 n0 nl ns V) := hI.save
  refine j_aload_n C dX6_endPart_0 rfl rfl ?_
  refine j_iload_n C dX6_endPart_1 rfl rfl ?_
  refine j_callV1r C (oa_X6 (by first | assumption | exact kd_sums (by assumption) | exact kd_st1 (by assumption) | exact kd_st2 (by assumption) | exact kd_ls (by first | assumption | exact kdL (by omega) | exact kdQ (by omega) | rfl) (by assumption) | exact kd_sb (by first | assumption | exact kdL (by omega) | exact kdQ (by omega) | rfl) (by assumption) | exact kd_sv (by assumption) | exact kdL (by omega) | exact kdQ (by omega) | rfl)) rfl rfl (c_X6_demandLease hI.1 hk) qm_X6_66 qi_X6_demandLease qs_X6_demandLease qn_X6 qc_X6_demandLease fit_X6_demandLease ⟨Nat.le_of_ble_eq_true rfl, Nat.le_of_ble_eq_true rfl, Nat.le_of_ble_eq_true rfl, Nat.le_of_ble_eq_true rfl⟩ (Nat.le_of_ble_eq_true rfl) dX6_endPart_2 ?_
  refine j_ast4 C dX6_endPart_5 (Nat.le_of_ble_eq_true rfl) rfl ?_
  refine j_iload_n C dX6_endPart_7 rfl rfl ?_
  refine j_callS1r C (c_X6_isThousandths) qm_X6_96 qt_X6_isThousandths qn_X6 qc_X6_isThousandths fit_X6_isThousandths ⟨Nat.le_of_ble_eq_true rfl, Nat.le_of_ble_eq_true rfl, Nat.le_of_ble_eq_true rfl, Nat.le_of_ble_eq_true rfl⟩ (Nat.le_of_ble_eq_true rfl) dX6_endPart_8 ?_
  refine j_if_eq (tgt := 25) C dX6_endPart_11 (by decide) (fun h11 => ?_) (fun h11 => ?_)
  · replace h11 := b2i_0 h11
    exfalso
    first | contradiction | exact absurd (by assumption) hbad | exact absurd (i_ge (a := 8) (b := nl) (by omega) (by omega) h46) (by omega)
  · replace h11 := b2i_1 h11
    refine j_iload_n C dX6_endPart_14 rfl rfl ?_
    refine j_callS1r C (c_X6_isMoney) qm_X6_37 qt_X6_isMoney qn_X6 qc_X6_isMoney fit_X6_isMoney ⟨Nat.le_of_ble_eq_true rfl, Nat.le_of_ble_eq_true rfl, Nat.le_of_ble_eq_true rfl, Nat.le_of_ble_eq_true rfl⟩ (Nat.le_of_ble_eq_true rfl) dX6_endPart_15 ?_
    refine j_if_eq (tgt := 25) C dX6_endPart_18 (by decide) (fun h18 => ?_) (fun h18 => ?_)
    · replace h18 := b2i_0 h18
      exfalso
      first | contradiction | exact absurd (by assumption) hbad | exact absurd (i_ge (a := 8) (b := nl) (by omega) (by omega) h46) (by omega)
    · replace h18 := b2i_1 h18
      refine j_iconst (v := (nI 1)) C dX6_endPart_21 (by decide) ?_
      refine j_goto (tgt := 26) C dX6_endPart_22 (by decide) ?_
      refine j_callS1v C (c_X6_demandArguments (by first | decide | exact b2i_nz (by assumption))) qm_X6_47 qt_X6_demandArguments qn_X6 qc_X6_demandArguments fit_X6_demandArguments ⟨Nat.le_of_ble_eq_true rfl, Nat.le_of_ble_eq_true rfl, Nat.le_of_ble_eq_true rfl, Nat.le_of_ble_eq_true rfl⟩ (Nat.le_of_ble_eq_true rfl) dX6_endPart_26 ?_
      refine j_aload C dX6_endPart_29 rfl ?_
      refine j_callV0r C (oa_X2 (by first | assumption | exact kd_sums (by assumption) | exact kd_st1 (by assumption) | exact kd_st2 (by assumption) | exact kd_ls (by first | assumption | exact kdL (by omega) | exact kdQ (by omega) | rfl) (by assumption) | exact kd_sb (by first | assumption | exact kdL (by omega) | exact kdQ (by omega) | rfl) (by assumption) | exact kd_sv (by assumption) | exact kdL (by omega) | exact kdQ (by omega) | rfl)) rfl rfl (c_X2_runs hkk) qm_X6_70 qi_X2_runs qs_X2_runs qn_X2 qc_X2_runs fit_X2_runs ⟨Nat.le_of_ble_eq_true rfl, Nat.le_of_ble_eq_true rfl, Nat.le_of_ble_eq_true rfl, Nat.le_of_ble_eq_true rfl⟩ (Nat.le_of_ble_eq_true rfl) dX6_endPart_31 ?_
      refine j_if_eq (tgt := 52) C dX6_endPart_34 (by decide) (fun h34 => ?_) (fun h34 => ?_)
      · replace h34 := b2i_0 h34
        exfalso
        first | contradiction | exact absurd (by assumption) hbad | exact absurd (i_ge (a := 8) (b := nl) (by omega) (by omega) h46) (by omega)
      · replace h34 := b2i_1 h34
        refine j_aload_n C dX6_endPart_37 rfl rfl ?_
        refine jg_LeaseBook_now C (by first | assumption | exact kd_sums (by assumption) | exact kd_st1 (by assumption) | exact kd_st2 (by assumption) | exact kd_ls (by first | assumption | exact kdL (by omega) | exact kdQ (by omega) | rfl) (by assumption) | exact kd_sb (by first | assumption | exact kdL (by omega) | exact kdQ (by omega) | rfl) (by assumption) | exact kd_sv (by assumption) | exact kdL (by omega) | exact kdQ (by omega) | rfl) qf_X6_12 dX6_endPart_38 ?_
        refine j_iload_n C dX6_endPart_41 rfl rfl ?_
        refine j_callV1r C (oa_X4 (by first | assumption | exact kd_sums (by assumption) | exact kd_st1 (by assumption) | exact kd_st2 (by assumption) | exact kd_ls (by first | assumption | exact kdL (by omega) | exact kdQ (by omega) | rfl) (by assumption) | exact kd_sb (by first | assumption | exact kdL (by omega) | exact kdQ (by omega) | rfl) (by assumption) | exact kd_sv (by assumption) | exact kdL (by omega) | exact kdQ (by omega) | rfl)) rfl rfl (c_X4_runningOf hI.2.1) qm_X6_99 qi_X4_runningOf qs_X4_runningOf qn_X4 qc_X4_runningOf fit_X4_runningOf ⟨Nat.le_of_ble_eq_true rfl, Nat.le_of_ble_eq_true rfl, Nat.le_of_ble_eq_true rfl, Nat.le_of_ble_eq_true rfl⟩ (Nat.le_of_ble_eq_true rfl) dX6_endPart_42 ?_
        refine j_if_ne (tgt := 52) C dX6_endPart_45 (by decide) (fun h45 => ?_) (fun h45 => ?_)
        · exfalso
          first | contradiction | exact absurd (by assumption) hbad | exact absurd (i_ge (a := 8) (b := nl) (by omega) (by omega) h46) (by omega)
        · refine j_iconst (v := (nI 1)) C dX6_endPart_48 (by decide) ?_
          refine j_goto (tgt := 53) C dX6_endPart_49 (by decide) ?_
          refine j_callS1v C (c_X6_demandState (by first | decide | exact b2i_nz (by assumption))) qm_X6_55 qt_X6_demandState qn_X6 qc_X6_demandState fit_X6_demandState ⟨Nat.le_of_ble_eq_true rfl, Nat.le_of_ble_eq_true rfl, Nat.le_of_ble_eq_true rfl, Nat.le_of_ble_eq_true rfl⟩ (Nat.le_of_ble_eq_true rfl) dX6_endPart_53 ?_
          refine j_aload_n C dX6_endPart_56 rfl rfl ?_
          refine jg_LeaseBook_history C (by first | assumption | exact kd_sums (by assumption) | exact kd_st1 (by assumption) | exact kd_st2 (by assumption) | exact kd_ls (by first | assumption | exact kdL (by omega) | exact kdQ (by omega) | rfl) (by assumption) | exact kd_sb (by first | assumption | exact kdL (by omega) | exact kdQ (by omega) | rfl) (by assumption) | exact kd_sv (by assumption) | exact kdL (by omega) | exact kdQ (by omega) | rfl) qf_X6_19 dX6_endPart_57 ?_
          refine j_aload_n C dX6_endPart_60 rfl rfl ?_
          refine jg_LeaseBook_now C (by first | assumption | exact kd_sums (by assumption) | exact kd_st1 (by assumption) | exact kd_st2 (by assumption) | exact kd_ls (by first | assumption | exact kdL (by omega) | exact kdQ (by omega) | rfl) (by assumption) | exact kd_sb (by first | assumption | exact kdL (by omega) | exact kdQ (by omega) | rfl) (by assumption) | exact kd_sv (by assumption) | exact kdL (by omega) | exact kdQ (by omega) | rfl) qf_X6_12 dX6_endPart_61 ?_
          refine j_callV1v C (oa_X0 (by first | assumption | exact kd_sums (by assumption) | exact kd_st1 (by assumption) | exact kd_st2 (by assumption) | exact kd_ls (by first | assumption | exact kdL (by omega) | exact kdQ (by omega) | rfl) (by assumption) | exact kd_sb (by first | assumption | exact kdL (by omega) | exact kdQ (by omega) | rfl) (by assumption) | exact kd_sv (by assumption) | exact kdL (by omega) | exact kdQ (by omega) | rfl)) rfl rfl (c_X0_save hH hI) qm_X6_58 qi_X0_save qs_X0_save qn_X0 qc_X0_save fit_X0_save ⟨Nat.le_of_ble_eq_true rfl, Nat.le_of_ble_eq_true rfl, Nat.le_of_ble_eq_true rfl, Nat.le_of_ble_eq_true rfl⟩ (Nat.le_of_ble_eq_true rfl) dX6_endPart_64 ?_
          refine j_aload C dX6_endPart_67 rfl ?_
          refine j_iload_n C dX6_endPart_69 rfl rfl ?_
          refine j_iload_n C dX6_endPart_70 rfl rfl ?_
          refine j_callV2r C (oa_X2 (by first | assumption | exact kd_sums (by assumption) | exact kd_st1 (by assumption) | exact kd_st2 (by assumption) | exact kd_ls (by first | assumption | exact kdL (by omega) | exact kdQ (by omega) | rfl) (by assumption) | exact kd_sb (by first | assumption | exact kdL (by omega) | exact kdQ (by omega) | rfl) (by assumption) | exact kd_sv (by assumption) | exact kdL (by omega) | exact kdQ (by omega) | rfl)) rfl rfl (c_X2_endThousandths hkk (hS.2.2.2.1 k hk)) qm_X6_103 qi_X2_endThousandths qs_X2_endThousandths qn_X2 qc_X2_endThousandths fit_X2_endThousandths ⟨Nat.le_of_ble_eq_true rfl, Nat.le_of_ble_eq_true rfl, Nat.le_of_ble_eq_true rfl, Nat.le_of_ble_eq_true rfl⟩ (Nat.le_of_ble_eq_true rfl) dX6_endPart_71 ?_
          exact j_iret C dX6_endPart_74 (by rfl) (by rfl) (by rfl)
set_option maxHeartbeats 4000000 in
theorem c_X6_impair {l : Launch} {g : GC} {V : Mem} {L : LMem} {k nl ns o0 n0 : Nat} (hH : HI o0 n0 V) (hI : CI nl ns V) (hk : k < nl) {a1 : Int32} (h1 : nI 1 ≤ a1 ∧ a1 ≤ nI 1000000) (h3 : a1 ≤ V (3 + k) 4) : MC l yX6_impair cX6_impair 4 (some .int) 5 g V L [.ref (ad g 223), .int (nI k), .int a1] (some (.int (cImp (3 + k) a1 (cSave o0 n0 nl ns V) (3 + k) 4))) (cImp (3 + k) a1 (cSave o0 n0 nl ns V)) L := by
  refine MC.of [some (.ref (ad g 223)), some (.int (nI k)), some (.int a1), none] (by decide +kernel) rfl (Nat.le_of_ble_eq_true rfl) (fun p e s m args below meth c C => ?_)
  have hk8 : k < 8 := Nat.lt_of_lt_of_le hk hI.1.2
  have hkk := kdL hk8
  have hS : CI nl ns (cSave o0 n0 nl ns V) := hI.save
  refine j_aload_n C dX6_impair_0 rfl rfl ?_
  refine j_iload_n C dX6_impair_1 rfl rfl ?_
  refine j_callV1r C (oa_X6 (by first | assumption | exact kd_sums (by assumption) | exact kd_st1 (by assumption) | exact kd_st2 (by assumption) | exact kd_ls (by first | assumption | exact kdL (by omega) | exact kdQ (by omega) | rfl) (by assumption) | exact kd_sb (by first | assumption | exact kdL (by omega) | exact kdQ (by omega) | rfl) (by assumption) | exact kd_sv (by assumption) | exact kdL (by omega) | exact kdQ (by omega) | rfl)) rfl rfl (c_X6_demandLease hI.1 hk) qm_X6_66 qi_X6_demandLease qs_X6_demandLease qn_X6 qc_X6_demandLease fit_X6_demandLease ⟨Nat.le_of_ble_eq_true rfl, Nat.le_of_ble_eq_true rfl, Nat.le_of_ble_eq_true rfl, Nat.le_of_ble_eq_true rfl⟩ (Nat.le_of_ble_eq_true rfl) dX6_impair_2 ?_
  refine j_ast3 C dX6_impair_5 rfl (Nat.le_of_ble_eq_true rfl) rfl ?_
  refine j_iload_n C dX6_impair_6 rfl rfl ?_
  refine j_iconst (v := (nI 1)) C dX6_impair_7 (by decide) ?_
  refine j_ldc (v := nI 1000000) C qk_X6_107 dX6_impair_8 ?_
  refine j_callS3r C (c_X6_isWithin) qm_X6_108 qt_X6_isWithin qn_X6 qc_X6_isWithin fit_X6_isWithin ⟨Nat.le_of_ble_eq_true rfl, Nat.le_of_ble_eq_true rfl, Nat.le_of_ble_eq_true rfl, Nat.le_of_ble_eq_true rfl⟩ (Nat.le_of_ble_eq_true rfl) dX6_impair_10 ?_
  refine j_callS1v C (c_X6_demandArguments (by first | decide | exact b2i_nz (by assumption))) qm_X6_47 qt_X6_demandArguments qn_X6 qc_X6_demandArguments fit_X6_demandArguments ⟨Nat.le_of_ble_eq_true rfl, Nat.le_of_ble_eq_true rfl, Nat.le_of_ble_eq_true rfl, Nat.le_of_ble_eq_true rfl⟩ (Nat.le_of_ble_eq_true rfl) dX6_impair_13 ?_
  refine j_aload_n C dX6_impair_16 rfl rfl ?_
  refine jg_Lease_asset C (by first | assumption | exact kd_sums (by assumption) | exact kd_st1 (by assumption) | exact kd_st2 (by assumption) | exact kd_ls (by first | assumption | exact kdL (by omega) | exact kdQ (by omega) | rfl) (by assumption) | exact kd_sb (by first | assumption | exact kdL (by omega) | exact kdQ (by omega) | rfl) (by assumption) | exact kd_sv (by assumption) | exact kdL (by omega) | exact kdQ (by omega) | rfl) qf_X6_112 dX6_impair_17 ?_
  refine j_iload_n C dX6_impair_20 rfl rfl ?_
  refine j_icmp_lt (tgt := 28) C dX6_impair_21 (by decide) (fun h21 => ?_) (fun h21 => ?_)
  · exfalso
    exact absurd h3 (Int32.not_le.mpr h21)
  · refine j_iconst (v := (nI 1)) C dX6_impair_24 (by decide) ?_
    refine j_goto (tgt := 29) C dX6_impair_25 (by decide) ?_
    refine j_callS1v C (c_X6_demandState (by first | decide | exact b2i_nz (by assumption))) qm_X6_55 qt_X6_demandState qn_X6 qc_X6_demandState fit_X6_demandState ⟨Nat.le_of_ble_eq_true rfl, Nat.le_of_ble_eq_true rfl, Nat.le_of_ble_eq_true rfl, Nat.le_of_ble_eq_true rfl⟩ (Nat.le_of_ble_eq_true rfl) dX6_impair_29 ?_
    refine j_aload_n C dX6_impair_32 rfl rfl ?_
    refine jg_LeaseBook_history C (by first | assumption | exact kd_sums (by assumption) | exact kd_st1 (by assumption) | exact kd_st2 (by assumption) | exact kd_ls (by first | assumption | exact kdL (by omega) | exact kdQ (by omega) | rfl) (by assumption) | exact kd_sb (by first | assumption | exact kdL (by omega) | exact kdQ (by omega) | rfl) (by assumption) | exact kd_sv (by assumption) | exact kdL (by omega) | exact kdQ (by omega) | rfl) qf_X6_19 dX6_impair_33 ?_
    refine j_aload_n C dX6_impair_36 rfl rfl ?_
    refine jg_LeaseBook_now C (by first | assumption | exact kd_sums (by assumption) | exact kd_st1 (by assumption) | exact kd_st2 (by assumption) | exact kd_ls (by first | assumption | exact kdL (by omega) | exact kdQ (by omega) | rfl) (by assumption) | exact kd_sb (by first | assumption | exact kdL (by omega) | exact kdQ (by omega) | rfl) (by assumption) | exact kd_sv (by assumption) | exact kdL (by omega) | exact kdQ (by omega) | rfl) qf_X6_12 dX6_impair_37 ?_
    refine j_callV1v C (oa_X0 (by first | assumption | exact kd_sums (by assumption) | exact kd_st1 (by assumption) | exact kd_st2 (by assumption) | exact kd_ls (by first | assumption | exact kdL (by omega) | exact kdQ (by omega) | rfl) (by assumption) | exact kd_sb (by first | assumption | exact kdL (by omega) | exact kdQ (by omega) | rfl) (by assumption) | exact kd_sv (by assumption) | exact kdL (by omega) | exact kdQ (by omega) | rfl)) rfl rfl (c_X0_save hH hI) qm_X6_58 qi_X0_save qs_X0_save qn_X0 qc_X0_save fit_X0_save ⟨Nat.le_of_ble_eq_true rfl, Nat.le_of_ble_eq_true rfl, Nat.le_of_ble_eq_true rfl, Nat.le_of_ble_eq_true rfl⟩ (Nat.le_of_ble_eq_true rfl) dX6_impair_40 ?_
    refine j_aload_n C dX6_impair_43 rfl rfl ?_
    refine j_iload_n C dX6_impair_44 rfl rfl ?_
    refine j_callV1v C (oa_X2 (by first | assumption | exact kd_sums (by assumption) | exact kd_st1 (by assumption) | exact kd_st2 (by assumption) | exact kd_ls (by first | assumption | exact kdL (by omega) | exact kdQ (by omega) | rfl) (by assumption) | exact kd_sb (by first | assumption | exact kdL (by omega) | exact kdQ (by omega) | rfl) (by assumption) | exact kd_sv (by assumption) | exact kdL (by omega) | exact kdQ (by omega) | rfl)) rfl rfl (c_X2_impairBy hkk) qm_X6_115 qi_X2_impairBy qs_X2_impairBy qn_X2 qc_X2_impairBy fit_X2_impairBy ⟨Nat.le_of_ble_eq_true rfl, Nat.le_of_ble_eq_true rfl, Nat.le_of_ble_eq_true rfl, Nat.le_of_ble_eq_true rfl⟩ (Nat.le_of_ble_eq_true rfl) dX6_impair_45 ?_
    refine j_aload_n C dX6_impair_48 rfl rfl ?_
    refine jg_Lease_asset C (by first | assumption | exact kd_sums (by assumption) | exact kd_st1 (by assumption) | exact kd_st2 (by assumption) | exact kd_ls (by first | assumption | exact kdL (by omega) | exact kdQ (by omega) | rfl) (by assumption) | exact kd_sb (by first | assumption | exact kdL (by omega) | exact kdQ (by omega) | rfl) (by assumption) | exact kd_sv (by assumption) | exact kdL (by omega) | exact kdQ (by omega) | rfl) qf_X6_112 dX6_impair_49 ?_
    exact j_iret C dX6_impair_52 (by rfl) (by rfl) (by rfl)
set_option maxHeartbeats 4000000 in
theorem c_X6_sublet {l : Launch} {g : GC} {V : Mem} {L : LMem} {k nl ns o0 n0 : Nat} (hH : HI o0 n0 V) (hI : CI nl ns V) (hk : k < nl) {t rc n : Int32} (h1 : partR t) (h2 : money rc) (h5 : termR n) (h3 : n ≤ V (3 + k) 1 ∧ V 0 3 < nI 12 ∧ cSub V ns k 1 + t ≤ nI 1000) (h12 : ns < 12) : MC l yX6_sublet cX6_sublet 6 (some .int) 5 g V L [.ref (ad g 223), .int (nI k), .int t, .int rc, .int n] (some (.int (nI ns))) (cAddS k ns t rc n (cSave o0 n0 nl ns V)) L := by
  refine MC.of [some (.ref (ad g 223)), some (.int (nI k)), some (.int t), some (.int rc), some (.int n), none] (by decide +kernel) rfl (Nat.le_of_ble_eq_true rfl) (fun p e s m args below meth c C => ?_)
  have hk8 : k < 8 := Nat.lt_of_lt_of_le hk hI.1.2
  have hkk := kdL hk8
  have hS : CI nl ns (cSave o0 n0 nl ns V) := hI.save
  refine j_aload_n C dX6_sublet_0 rfl rfl ?_
  refine j_iload_n C dX6_sublet_1 rfl rfl ?_
  refine j_callV1r C (oa_X6 (by first | assumption | exact kd_sums (by assumption) | exact kd_st1 (by assumption) | exact kd_st2 (by assumption) | exact kd_ls (by first | assumption | exact kdL (by omega) | exact kdQ (by omega) | rfl) (by assumption) | exact kd_sb (by first | assumption | exact kdL (by omega) | exact kdQ (by omega) | rfl) (by assumption) | exact kd_sv (by assumption) | exact kdL (by omega) | exact kdQ (by omega) | rfl)) rfl rfl (c_X6_demandLease hI.1 hk) qm_X6_66 qi_X6_demandLease qs_X6_demandLease qn_X6 qc_X6_demandLease fit_X6_demandLease ⟨Nat.le_of_ble_eq_true rfl, Nat.le_of_ble_eq_true rfl, Nat.le_of_ble_eq_true rfl, Nat.le_of_ble_eq_true rfl⟩ (Nat.le_of_ble_eq_true rfl) dX6_sublet_2 ?_
  refine j_ast5 C dX6_sublet_5 (Nat.le_of_ble_eq_true rfl) rfl ?_
  refine j_iload_n C dX6_sublet_7 rfl rfl ?_
  refine j_callS1r C (c_X6_isThousandths) qm_X6_96 qt_X6_isThousandths qn_X6 qc_X6_isThousandths fit_X6_isThousandths ⟨Nat.le_of_ble_eq_true rfl, Nat.le_of_ble_eq_true rfl, Nat.le_of_ble_eq_true rfl, Nat.le_of_ble_eq_true rfl⟩ (Nat.le_of_ble_eq_true rfl) dX6_sublet_8 ?_
  refine j_if_eq (tgt := 33) C dX6_sublet_11 (by decide) (fun h11 => ?_) (fun h11 => ?_)
  · replace h11 := b2i_0 h11
    exfalso
    first | contradiction | exact absurd (by assumption) hbad | exact absurd (i_ge (a := 8) (b := nl) (by omega) (by omega) h46) (by omega)
  · replace h11 := b2i_1 h11
    refine j_iload_n C dX6_sublet_14 rfl rfl ?_
    refine j_callS1r C (c_X6_isMoney) qm_X6_37 qt_X6_isMoney qn_X6 qc_X6_isMoney fit_X6_isMoney ⟨Nat.le_of_ble_eq_true rfl, Nat.le_of_ble_eq_true rfl, Nat.le_of_ble_eq_true rfl, Nat.le_of_ble_eq_true rfl⟩ (Nat.le_of_ble_eq_true rfl) dX6_sublet_15 ?_
    refine j_if_eq (tgt := 33) C dX6_sublet_18 (by decide) (fun h18 => ?_) (fun h18 => ?_)
    · replace h18 := b2i_0 h18
      exfalso
      first | contradiction | exact absurd (by assumption) hbad | exact absurd (i_ge (a := 8) (b := nl) (by omega) (by omega) h46) (by omega)
    · replace h18 := b2i_1 h18
      refine j_iload C dX6_sublet_21 rfl ?_
      refine j_callS1r C (c_X6_isPeriods) qm_X6_41 qt_X6_isPeriods qn_X6 qc_X6_isPeriods fit_X6_isPeriods ⟨Nat.le_of_ble_eq_true rfl, Nat.le_of_ble_eq_true rfl, Nat.le_of_ble_eq_true rfl, Nat.le_of_ble_eq_true rfl⟩ (Nat.le_of_ble_eq_true rfl) dX6_sublet_23 ?_
      refine j_if_eq (tgt := 33) C dX6_sublet_26 (by decide) (fun h26 => ?_) (fun h26 => ?_)
      · replace h26 := b2i_0 h26
        exfalso
        first | contradiction | exact absurd (by assumption) hbad | exact absurd (i_ge (a := 8) (b := nl) (by omega) (by omega) h46) (by omega)
      · replace h26 := b2i_1 h26
        refine j_iconst (v := (nI 1)) C dX6_sublet_29 (by decide) ?_
        refine j_goto (tgt := 34) C dX6_sublet_30 (by decide) ?_
        refine j_callS1v C (c_X6_demandArguments (by first | decide | exact b2i_nz (by assumption))) qm_X6_47 qt_X6_demandArguments qn_X6 qc_X6_demandArguments fit_X6_demandArguments ⟨Nat.le_of_ble_eq_true rfl, Nat.le_of_ble_eq_true rfl, Nat.le_of_ble_eq_true rfl, Nat.le_of_ble_eq_true rfl⟩ (Nat.le_of_ble_eq_true rfl) dX6_sublet_34 ?_
        refine j_aload_n C dX6_sublet_37 rfl rfl ?_
        refine jg_LeaseBook_now C (by first | assumption | exact kd_sums (by assumption) | exact kd_st1 (by assumption) | exact kd_st2 (by assumption) | exact kd_ls (by first | assumption | exact kdL (by omega) | exact kdQ (by omega) | rfl) (by assumption) | exact kd_sb (by first | assumption | exact kdL (by omega) | exact kdQ (by omega) | rfl) (by assumption) | exact kd_sv (by assumption) | exact kdL (by omega) | exact kdQ (by omega) | rfl) qf_X6_12 dX6_sublet_38 ?_
        refine j_iload_n C dX6_sublet_41 rfl rfl ?_
        refine j_iload_n C dX6_sublet_42 rfl rfl ?_
        refine j_iload C dX6_sublet_43 rfl ?_
        refine j_callV3r C (oa_X4 (by first | assumption | exact kd_sums (by assumption) | exact kd_st1 (by assumption) | exact kd_st2 (by assumption) | exact kd_ls (by first | assumption | exact kdL (by omega) | exact kdQ (by omega) | rfl) (by assumption) | exact kd_sb (by first | assumption | exact kdL (by omega) | exact kdQ (by omega) | rfl) (by assumption) | exact kd_sv (by assumption) | exact kdL (by omega) | exact kdQ (by omega) | rfl)) rfl rfl (c_X4_canSublet hI.1 hI.2.1 hk) qm_X6_119 qi_X4_canSublet qs_X4_canSublet qn_X4 qc_X4_canSublet fit_X4_canSublet ⟨Nat.le_of_ble_eq_true rfl, Nat.le_of_ble_eq_true rfl, Nat.le_of_ble_eq_true rfl, Nat.le_of_ble_eq_true rfl⟩ (Nat.le_of_ble_eq_true rfl) dX6_sublet_45 ?_
        refine j_callS1v C (c_X6_demandState (by first | decide | exact b2i_nz (by assumption))) qm_X6_55 qt_X6_demandState qn_X6 qc_X6_demandState fit_X6_demandState ⟨Nat.le_of_ble_eq_true rfl, Nat.le_of_ble_eq_true rfl, Nat.le_of_ble_eq_true rfl, Nat.le_of_ble_eq_true rfl⟩ (Nat.le_of_ble_eq_true rfl) dX6_sublet_48 ?_
        refine j_aload_n C dX6_sublet_51 rfl rfl ?_
        refine jg_LeaseBook_history C (by first | assumption | exact kd_sums (by assumption) | exact kd_st1 (by assumption) | exact kd_st2 (by assumption) | exact kd_ls (by first | assumption | exact kdL (by omega) | exact kdQ (by omega) | rfl) (by assumption) | exact kd_sb (by first | assumption | exact kdL (by omega) | exact kdQ (by omega) | rfl) (by assumption) | exact kd_sv (by assumption) | exact kdL (by omega) | exact kdQ (by omega) | rfl) qf_X6_19 dX6_sublet_52 ?_
        refine j_aload_n C dX6_sublet_55 rfl rfl ?_
        refine jg_LeaseBook_now C (by first | assumption | exact kd_sums (by assumption) | exact kd_st1 (by assumption) | exact kd_st2 (by assumption) | exact kd_ls (by first | assumption | exact kdL (by omega) | exact kdQ (by omega) | rfl) (by assumption) | exact kd_sb (by first | assumption | exact kdL (by omega) | exact kdQ (by omega) | rfl) (by assumption) | exact kd_sv (by assumption) | exact kdL (by omega) | exact kdQ (by omega) | rfl) qf_X6_12 dX6_sublet_56 ?_
        refine j_callV1v C (oa_X0 (by first | assumption | exact kd_sums (by assumption) | exact kd_st1 (by assumption) | exact kd_st2 (by assumption) | exact kd_ls (by first | assumption | exact kdL (by omega) | exact kdQ (by omega) | rfl) (by assumption) | exact kd_sb (by first | assumption | exact kdL (by omega) | exact kdQ (by omega) | rfl) (by assumption) | exact kd_sv (by assumption) | exact kdL (by omega) | exact kdQ (by omega) | rfl)) rfl rfl (c_X0_save hH hI) qm_X6_58 qi_X0_save qs_X0_save qn_X0 qc_X0_save fit_X0_save ⟨Nat.le_of_ble_eq_true rfl, Nat.le_of_ble_eq_true rfl, Nat.le_of_ble_eq_true rfl, Nat.le_of_ble_eq_true rfl⟩ (Nat.le_of_ble_eq_true rfl) dX6_sublet_59 ?_
        refine j_aload_n C dX6_sublet_62 rfl rfl ?_
        refine jg_LeaseBook_now C (by first | assumption | exact kd_sums (by assumption) | exact kd_st1 (by assumption) | exact kd_st2 (by assumption) | exact kd_ls (by first | assumption | exact kdL (by omega) | exact kdQ (by omega) | rfl) (by assumption) | exact kd_sb (by first | assumption | exact kdL (by omega) | exact kdQ (by omega) | rfl) (by assumption) | exact kd_sv (by assumption) | exact kdL (by omega) | exact kdQ (by omega) | rfl) qf_X6_12 dX6_sublet_63 ?_
        refine j_iload_n C dX6_sublet_66 rfl rfl ?_
        refine j_aload C dX6_sublet_67 rfl ?_
        refine j_iload_n C dX6_sublet_69 rfl rfl ?_
        refine j_iload_n C dX6_sublet_70 rfl rfl ?_
        refine j_iload C dX6_sublet_71 rfl ?_
        refine j_callV5r C (oa_X4 (by first | assumption | exact kd_sums (by assumption) | exact kd_st1 (by assumption) | exact kd_st2 (by assumption) | exact kd_ls (by first | assumption | exact kdL (by omega) | exact kdQ (by omega) | rfl) (by assumption) | exact kd_sb (by first | assumption | exact kdL (by omega) | exact kdQ (by omega) | rfl) (by assumption) | exact kd_sv (by assumption) | exact kdL (by omega) | exact kdQ (by omega) | rfl)) rfl rfl (c_X4_addSublease hS.2.1 h12 hk8 (hS.2.2.2.1 k hk)) qm_X6_122 qi_X4_addSublease qs_X4_addSublease qn_X4 qc_X4_addSublease fit_X4_addSublease ⟨Nat.le_of_ble_eq_true rfl, Nat.le_of_ble_eq_true rfl, Nat.le_of_ble_eq_true rfl, Nat.le_of_ble_eq_true rfl⟩ (Nat.le_of_ble_eq_true rfl) dX6_sublet_73 ?_
        exact j_iret C dX6_sublet_76 (by rfl) (by rfl) (by rfl)
set_option maxHeartbeats 4000000 in
theorem c_X6_pass {l : Launch} {g : GC} {V : Mem} {L : LMem} {nl ns o0 n0 : Nat} (hH : HI o0 n0 V) (hI : CI nl ns V) {d : Nat} (hd : termR (nI d)) (hd6 : d ≤ 60) (h2 : V 0 4 + nI d ≤ nI 2000) : MC l yX6_pass cX6_pass 2 (some .int) 5 g V L [.ref (ad g 223), .int (nI d)] (some (.int (cPassSt nl ns d (cSave o0 n0 nl ns V) 0 4))) (cPassSt nl ns d (cSave o0 n0 nl ns V)) L := by
  refine MC.of [some (.ref (ad g 223)), some (.int (nI d))] (by decide +kernel) rfl (Nat.le_of_ble_eq_true rfl) (fun p e s m args below meth c C => ?_)
  have hS : CI nl ns (cSave o0 n0 nl ns V) := hI.save
  refine j_iload_n C dX6_pass_0 rfl rfl ?_
  refine j_callS1r C (c_X6_isPeriods) qm_X6_41 qt_X6_isPeriods qn_X6 qc_X6_isPeriods fit_X6_isPeriods ⟨Nat.le_of_ble_eq_true rfl, Nat.le_of_ble_eq_true rfl, Nat.le_of_ble_eq_true rfl, Nat.le_of_ble_eq_true rfl⟩ (Nat.le_of_ble_eq_true rfl) dX6_pass_1 ?_
  refine j_callS1v C (c_X6_demandArguments (by first | decide | exact b2i_nz (by assumption))) qm_X6_47 qt_X6_demandArguments qn_X6 qc_X6_demandArguments fit_X6_demandArguments ⟨Nat.le_of_ble_eq_true rfl, Nat.le_of_ble_eq_true rfl, Nat.le_of_ble_eq_true rfl, Nat.le_of_ble_eq_true rfl⟩ (Nat.le_of_ble_eq_true rfl) dX6_pass_4 ?_
  refine j_aload_n C dX6_pass_7 rfl rfl ?_
  refine jg_LeaseBook_now C (by first | assumption | exact kd_sums (by assumption) | exact kd_st1 (by assumption) | exact kd_st2 (by assumption) | exact kd_ls (by first | assumption | exact kdL (by omega) | exact kdQ (by omega) | rfl) (by assumption) | exact kd_sb (by first | assumption | exact kdL (by omega) | exact kdQ (by omega) | rfl) (by assumption) | exact kd_sv (by assumption) | exact kdL (by omega) | exact kdQ (by omega) | rfl) qf_X6_12 dX6_pass_8 ?_
  refine jg_State_period C (by first | assumption | exact kd_sums (by assumption) | exact kd_st1 (by assumption) | exact kd_st2 (by assumption) | exact kd_ls (by first | assumption | exact kdL (by omega) | exact kdQ (by omega) | rfl) (by assumption) | exact kd_sb (by first | assumption | exact kdL (by omega) | exact kdQ (by omega) | rfl) (by assumption) | exact kd_sv (by assumption) | exact kdL (by omega) | exact kdQ (by omega) | rfl) qf_X6_126 dX6_pass_11 ?_
  refine j_iload_n C dX6_pass_14 rfl rfl ?_
  refine j_iadd C dX6_pass_15 ?_
  refine j_sipush (v := (nI 2000)) C dX6_pass_16 (by decide) ?_
  refine j_icmp_gt (tgt := 26) C dX6_pass_19 (by decide) (fun h19 => ?_) (fun h19 => ?_)
  · exfalso
    exact absurd h2 (Int32.not_le.mpr h19)
  · refine j_iconst (v := (nI 1)) C dX6_pass_22 (by decide) ?_
    refine j_goto (tgt := 27) C dX6_pass_23 (by decide) ?_
    refine j_callS1v C (c_X6_demandState (by first | decide | exact b2i_nz (by assumption))) qm_X6_55 qt_X6_demandState qn_X6 qc_X6_demandState fit_X6_demandState ⟨Nat.le_of_ble_eq_true rfl, Nat.le_of_ble_eq_true rfl, Nat.le_of_ble_eq_true rfl, Nat.le_of_ble_eq_true rfl⟩ (Nat.le_of_ble_eq_true rfl) dX6_pass_27 ?_
    refine j_aload_n C dX6_pass_30 rfl rfl ?_
    refine jg_LeaseBook_history C (by first | assumption | exact kd_sums (by assumption) | exact kd_st1 (by assumption) | exact kd_st2 (by assumption) | exact kd_ls (by first | assumption | exact kdL (by omega) | exact kdQ (by omega) | rfl) (by assumption) | exact kd_sb (by first | assumption | exact kdL (by omega) | exact kdQ (by omega) | rfl) (by assumption) | exact kd_sv (by assumption) | exact kdL (by omega) | exact kdQ (by omega) | rfl) qf_X6_19 dX6_pass_31 ?_
    refine j_aload_n C dX6_pass_34 rfl rfl ?_
    refine jg_LeaseBook_now C (by first | assumption | exact kd_sums (by assumption) | exact kd_st1 (by assumption) | exact kd_st2 (by assumption) | exact kd_ls (by first | assumption | exact kdL (by omega) | exact kdQ (by omega) | rfl) (by assumption) | exact kd_sb (by first | assumption | exact kdL (by omega) | exact kdQ (by omega) | rfl) (by assumption) | exact kd_sv (by assumption) | exact kdL (by omega) | exact kdQ (by omega) | rfl) qf_X6_12 dX6_pass_35 ?_
    refine j_callV1v C (oa_X0 (by first | assumption | exact kd_sums (by assumption) | exact kd_st1 (by assumption) | exact kd_st2 (by assumption) | exact kd_ls (by first | assumption | exact kdL (by omega) | exact kdQ (by omega) | rfl) (by assumption) | exact kd_sb (by first | assumption | exact kdL (by omega) | exact kdQ (by omega) | rfl) (by assumption) | exact kd_sv (by assumption) | exact kdL (by omega) | exact kdQ (by omega) | rfl)) rfl rfl (c_X0_save hH hI) qm_X6_58 qi_X0_save qs_X0_save qn_X0 qc_X0_save fit_X0_save ⟨Nat.le_of_ble_eq_true rfl, Nat.le_of_ble_eq_true rfl, Nat.le_of_ble_eq_true rfl, Nat.le_of_ble_eq_true rfl⟩ (Nat.le_of_ble_eq_true rfl) dX6_pass_38 ?_
    refine j_aload_n C dX6_pass_41 rfl rfl ?_
    refine jg_LeaseBook_now C (by first | assumption | exact kd_sums (by assumption) | exact kd_st1 (by assumption) | exact kd_st2 (by assumption) | exact kd_ls (by first | assumption | exact kdL (by omega) | exact kdQ (by omega) | rfl) (by assumption) | exact kd_sb (by first | assumption | exact kdL (by omega) | exact kdQ (by omega) | rfl) (by assumption) | exact kd_sv (by assumption) | exact kdL (by omega) | exact kdQ (by omega) | rfl) qf_X6_12 dX6_pass_42 ?_
    refine j_iload_n C dX6_pass_45 rfl rfl ?_
    refine j_callV1v C (oa_X4 (by first | assumption | exact kd_sums (by assumption) | exact kd_st1 (by assumption) | exact kd_st2 (by assumption) | exact kd_ls (by first | assumption | exact kdL (by omega) | exact kdQ (by omega) | rfl) (by assumption) | exact kd_sb (by first | assumption | exact kdL (by omega) | exact kdQ (by omega) | rfl) (by assumption) | exact kd_sv (by assumption) | exact kdL (by omega) | exact kdQ (by omega) | rfl)) rfl rfl (c_X4_passPeriods hS.1 hS.2.1 hS.2.2.1 hS.2.2.2.1 hS.2.2.2.2.1 hS.2.2.2.2.2 (by omega)) qm_X6_129 qi_X4_passPeriods qs_X4_passPeriods qn_X4 qc_X4_passPeriods fit_X4_passPeriods ⟨Nat.le_of_ble_eq_true rfl, Nat.le_of_ble_eq_true rfl, Nat.le_of_ble_eq_true rfl, Nat.le_of_ble_eq_true rfl⟩ (Nat.le_of_ble_eq_true rfl) dX6_pass_46 ?_
    refine j_aload_n C dX6_pass_49 rfl rfl ?_
    refine jg_LeaseBook_now C (by first | assumption | exact kd_sums (by assumption) | exact kd_st1 (by assumption) | exact kd_st2 (by assumption) | exact kd_ls (by first | assumption | exact kdL (by omega) | exact kdQ (by omega) | rfl) (by assumption) | exact kd_sb (by first | assumption | exact kdL (by omega) | exact kdQ (by omega) | rfl) (by assumption) | exact kd_sv (by assumption) | exact kdL (by omega) | exact kdQ (by omega) | rfl) qf_X6_12 dX6_pass_50 ?_
    refine jg_State_period C (by first | assumption | exact kd_sums (by assumption) | exact kd_st1 (by assumption) | exact kd_st2 (by assumption) | exact kd_ls (by first | assumption | exact kdL (by omega) | exact kdQ (by omega) | rfl) (by assumption) | exact kd_sb (by first | assumption | exact kdL (by omega) | exact kdQ (by omega) | rfl) (by assumption) | exact kd_sv (by assumption) | exact kdL (by omega) | exact kdQ (by omega) | rfl) qf_X6_126 dX6_pass_53 ?_
    exact j_iret C dX6_pass_56 (by rfl) (by rfl) (by rfl)
set_option maxHeartbeats 4000000 in
theorem c_X6_lease {l : Launch} {g : GC} {V : Mem} {L : LMem} {k nl ns : Nat} (hI : CI nl ns V) (hk : k < nl) {w : Nat} (hw : w < 9) : MC l yX6_lease cX6_lease 3 (some .int) 5 g V L [.ref (ad g 223), .int (nI k), .int (nI w)] (some (.int (cProp V ns k w))) V L := by
  refine MC.of [some (.ref (ad g 223)), some (.int (nI k)), some (.int (nI w))] (by decide +kernel) rfl (Nat.le_of_ble_eq_true rfl) (fun p e s m args below meth c C => ?_)
  have hwr : nI 0 ≤ nI w ∧ nI w ≤ nI 8 := inN (by omega) (by omega) (by omega)
  refine j_aload_n C dX6_lease_0 rfl rfl ?_
  refine j_iload_n C dX6_lease_1 rfl rfl ?_
  refine j_callV1r C (oa_X6 (by first | assumption | exact kd_sums (by assumption) | exact kd_st1 (by assumption) | exact kd_st2 (by assumption) | exact kd_ls (by first | assumption | exact kdL (by omega) | exact kdQ (by omega) | rfl) (by assumption) | exact kd_sb (by first | assumption | exact kdL (by omega) | exact kdQ (by omega) | rfl) (by assumption) | exact kd_sv (by assumption) | exact kdL (by omega) | exact kdQ (by omega) | rfl)) rfl rfl (c_X6_demandLease hI.1 hk) qm_X6_66 qi_X6_demandLease qs_X6_demandLease qn_X6 qc_X6_demandLease fit_X6_demandLease ⟨Nat.le_of_ble_eq_true rfl, Nat.le_of_ble_eq_true rfl, Nat.le_of_ble_eq_true rfl, Nat.le_of_ble_eq_true rfl⟩ (Nat.le_of_ble_eq_true rfl) dX6_lease_2 ?_
  refine j_pop C dX6_lease_5 rfl ?_
  refine j_iload_n C dX6_lease_6 rfl rfl ?_
  refine j_iconst (v := (nI 0)) C dX6_lease_7 (by decide) ?_
  refine j_bipush (v := (nI 8)) C dX6_lease_8 (by decide) ?_
  refine j_callS3r C (c_X6_isWithin) qm_X6_108 qt_X6_isWithin qn_X6 qc_X6_isWithin fit_X6_isWithin ⟨Nat.le_of_ble_eq_true rfl, Nat.le_of_ble_eq_true rfl, Nat.le_of_ble_eq_true rfl, Nat.le_of_ble_eq_true rfl⟩ (Nat.le_of_ble_eq_true rfl) dX6_lease_10 ?_
  refine j_callS1v C (c_X6_demandArguments (by first | decide | exact b2i_nz (by assumption))) qm_X6_47 qt_X6_demandArguments qn_X6 qc_X6_demandArguments fit_X6_demandArguments ⟨Nat.le_of_ble_eq_true rfl, Nat.le_of_ble_eq_true rfl, Nat.le_of_ble_eq_true rfl, Nat.le_of_ble_eq_true rfl⟩ (Nat.le_of_ble_eq_true rfl) dX6_lease_13 ?_
  refine j_aload_n C dX6_lease_16 rfl rfl ?_
  refine jg_LeaseBook_now C (by first | assumption | exact kd_sums (by assumption) | exact kd_st1 (by assumption) | exact kd_st2 (by assumption) | exact kd_ls (by first | assumption | exact kdL (by omega) | exact kdQ (by omega) | rfl) (by assumption) | exact kd_sb (by first | assumption | exact kdL (by omega) | exact kdQ (by omega) | rfl) (by assumption) | exact kd_sv (by assumption) | exact kdL (by omega) | exact kdQ (by omega) | rfl) qf_X6_12 dX6_lease_17 ?_
  refine j_iload_n C dX6_lease_20 rfl rfl ?_
  refine j_iload_n C dX6_lease_21 rfl rfl ?_
  refine j_callV2r C (oa_X4 (by first | assumption | exact kd_sums (by assumption) | exact kd_st1 (by assumption) | exact kd_st2 (by assumption) | exact kd_ls (by first | assumption | exact kdL (by omega) | exact kdQ (by omega) | rfl) (by assumption) | exact kd_sb (by first | assumption | exact kdL (by omega) | exact kdQ (by omega) | rfl) (by assumption) | exact kd_sv (by assumption) | exact kdL (by omega) | exact kdQ (by omega) | rfl)) rfl rfl (c_X4_leaseProperty hI.1 hI.2.1 hk hw) qm_X6_157 qi_X4_leaseProperty qs_X4_leaseProperty qn_X4 qc_X4_leaseProperty fit_X4_leaseProperty ⟨Nat.le_of_ble_eq_true rfl, Nat.le_of_ble_eq_true rfl, Nat.le_of_ble_eq_true rfl, Nat.le_of_ble_eq_true rfl⟩ (Nat.le_of_ble_eq_true rfl) dX6_lease_22 ?_
  exact j_iret C dX6_lease_25 (by rfl) (by rfl) (by rfl)
set_option maxHeartbeats 4000000 in
theorem c_X6_sublease {l : Launch} {g : GC} {V : Mem} {L : LMem} {k nl ns : Nat} (hI : CI nl ns V) (hk : k < ns) {w : Nat} (hw : w < 6) : MC l yX6_sublease cX6_sublease 3 (some .int) 5 g V L [.ref (ad g 223), .int (nI k), .int (nI w)] (some (.int (V (19 + k) w))) V L := by
  refine MC.of [some (.ref (ad g 223)), some (.int (nI k)), some (.int (nI w))] (by decide +kernel) rfl (Nat.le_of_ble_eq_true rfl) (fun p e s m args below meth c C => ?_)
  have hwr : nI 0 ≤ nI w ∧ nI w ≤ nI 5 := inN (by omega) (by omega) (by omega)
  have h12 := hI.2.1.2
  refine j_iload_n C dX6_sublease_0 rfl rfl ?_
  refine j_if_lt (tgt := 19) C dX6_sublease_1 (by decide) (fun h1 => absurd h1 (nI_pos (by omega))) (fun h1 => ?_)
  refine j_iload_n C dX6_sublease_4 rfl rfl ?_
  refine j_aload_n C dX6_sublease_5 rfl rfl ?_
  refine jg_LeaseBook_now C (by first | assumption | exact kd_sums (by assumption) | exact kd_st1 (by assumption) | exact kd_st2 (by assumption) | exact kd_ls (by first | assumption | exact kdL (by omega) | exact kdQ (by omega) | rfl) (by assumption) | exact kd_sb (by first | assumption | exact kdL (by omega) | exact kdQ (by omega) | rfl) (by assumption) | exact kd_sv (by assumption) | exact kdL (by omega) | exact kdQ (by omega) | rfl) qf_X6_12 dX6_sublease_6 ?_
  refine jg_State_subleaseCount C (by first | assumption | exact kd_sums (by assumption) | exact kd_st1 (by assumption) | exact kd_st2 (by assumption) | exact kd_ls (by first | assumption | exact kdL (by omega) | exact kdQ (by omega) | rfl) (by assumption) | exact kd_sb (by first | assumption | exact kdL (by omega) | exact kdQ (by omega) | rfl) (by assumption) | exact kd_sv (by assumption) | exact kdL (by omega) | exact kdQ (by omega) | rfl) qf_X6_160 dX6_sublease_9 ?_
  refine j_tope (y := nI ns) (by exact hI.2.1.1) ?_
  refine j_icmp_ge (tgt := 19) C dX6_sublease_12 (by decide) (fun h12 => absurd h12 (nI_ge (by omega) (by omega))) (fun h12 => ?_)
  refine j_iconst (v := (nI 1)) C dX6_sublease_15 (by decide) ?_
  refine j_goto (tgt := 20) C dX6_sublease_16 (by decide) ?_
  refine j_callS1v C (c_X6_demandIndex (by first | decide | exact b2i_nz (by assumption))) qm_X6_163 qt_X6_demandIndex qn_X6 qc_X6_demandIndex fit_X6_demandIndex ⟨Nat.le_of_ble_eq_true rfl, Nat.le_of_ble_eq_true rfl, Nat.le_of_ble_eq_true rfl, Nat.le_of_ble_eq_true rfl⟩ (Nat.le_of_ble_eq_true rfl) dX6_sublease_20 ?_
  refine j_iload_n C dX6_sublease_23 rfl rfl ?_
  refine j_iconst (v := (nI 0)) C dX6_sublease_24 (by decide) ?_
  refine j_iconst (v := (nI 5)) C dX6_sublease_25 (by decide) ?_
  refine j_callS3r C (c_X6_isWithin) qm_X6_108 qt_X6_isWithin qn_X6 qc_X6_isWithin fit_X6_isWithin ⟨Nat.le_of_ble_eq_true rfl, Nat.le_of_ble_eq_true rfl, Nat.le_of_ble_eq_true rfl, Nat.le_of_ble_eq_true rfl⟩ (Nat.le_of_ble_eq_true rfl) dX6_sublease_26 ?_
  refine j_callS1v C (c_X6_demandArguments (by first | decide | exact b2i_nz (by assumption))) qm_X6_47 qt_X6_demandArguments qn_X6 qc_X6_demandArguments fit_X6_demandArguments ⟨Nat.le_of_ble_eq_true rfl, Nat.le_of_ble_eq_true rfl, Nat.le_of_ble_eq_true rfl, Nat.le_of_ble_eq_true rfl⟩ (Nat.le_of_ble_eq_true rfl) dX6_sublease_29 ?_
  refine j_aload_n C dX6_sublease_32 rfl rfl ?_
  refine jg_LeaseBook_now C (by first | assumption | exact kd_sums (by assumption) | exact kd_st1 (by assumption) | exact kd_st2 (by assumption) | exact kd_ls (by first | assumption | exact kdL (by omega) | exact kdQ (by omega) | rfl) (by assumption) | exact kd_sb (by first | assumption | exact kdL (by omega) | exact kdQ (by omega) | rfl) (by assumption) | exact kd_sv (by assumption) | exact kdL (by omega) | exact kdQ (by omega) | rfl) qf_X6_12 dX6_sublease_33 ?_
  refine j_iload_n C dX6_sublease_36 rfl rfl ?_
  refine j_iload_n C dX6_sublease_37 rfl rfl ?_
  refine j_callV2r C (oa_X4 (by first | assumption | exact kd_sums (by assumption) | exact kd_st1 (by assumption) | exact kd_st2 (by assumption) | exact kd_ls (by first | assumption | exact kdL (by omega) | exact kdQ (by omega) | rfl) (by assumption) | exact kd_sb (by first | assumption | exact kdL (by omega) | exact kdQ (by omega) | rfl) (by assumption) | exact kd_sv (by assumption) | exact kdL (by omega) | exact kdQ (by omega) | rfl)) rfl rfl (c_X4_subleaseProperty hI.2.1 hk hw) qm_X6_166 qi_X4_subleaseProperty qs_X4_subleaseProperty qn_X4 qc_X4_subleaseProperty fit_X4_subleaseProperty ⟨Nat.le_of_ble_eq_true rfl, Nat.le_of_ble_eq_true rfl, Nat.le_of_ble_eq_true rfl, Nat.le_of_ble_eq_true rfl⟩ (Nat.le_of_ble_eq_true rfl) dX6_sublease_38 ?_
  exact j_iret C dX6_sublease_41 (by rfl) (by rfl) (by rfl)
set_option maxHeartbeats 4000000 in
theorem c_X6_profit {l : Launch} {g : GC} {V : Mem} {L : LMem} {k nl ns : Nat} (hI : CI nl ns V) (hk : k < nl) {y : Int32} (hy : nI 0 ≤ y ∧ y ≤ nI 1) : MC l yX6_profit cX6_profit 4 (some .int) 5 g V L [.ref (ad g 223), .int (nI k), .int y] (some (.int (if y = 0 then cProf0 (3 + k) V else cProf1 (3 + k) (cSub V ns k 5) V))) V L := by
  refine MC.of [some (.ref (ad g 223)), some (.int (nI k)), some (.int y), none] (by decide +kernel) rfl (Nat.le_of_ble_eq_true rfl) (fun p e s m args below meth c C => ?_)
  have hk8 : k < 8 := Nat.lt_of_lt_of_le hk hI.1.2
  have hkk := kdL hk8
  refine j_aload_n C dX6_profit_0 rfl rfl ?_
  refine j_iload_n C dX6_profit_1 rfl rfl ?_
  refine j_callV1r C (oa_X6 (by first | assumption | exact kd_sums (by assumption) | exact kd_st1 (by assumption) | exact kd_st2 (by assumption) | exact kd_ls (by first | assumption | exact kdL (by omega) | exact kdQ (by omega) | rfl) (by assumption) | exact kd_sb (by first | assumption | exact kdL (by omega) | exact kdQ (by omega) | rfl) (by assumption) | exact kd_sv (by assumption) | exact kdL (by omega) | exact kdQ (by omega) | rfl)) rfl rfl (c_X6_demandLease hI.1 hk) qm_X6_66 qi_X6_demandLease qs_X6_demandLease qn_X6 qc_X6_demandLease fit_X6_demandLease ⟨Nat.le_of_ble_eq_true rfl, Nat.le_of_ble_eq_true rfl, Nat.le_of_ble_eq_true rfl, Nat.le_of_ble_eq_true rfl⟩ (Nat.le_of_ble_eq_true rfl) dX6_profit_2 ?_
  refine j_ast3 C dX6_profit_5 rfl (Nat.le_of_ble_eq_true rfl) rfl ?_
  refine j_iload_n C dX6_profit_6 rfl rfl ?_
  refine j_iconst (v := (nI 0)) C dX6_profit_7 (by decide) ?_
  refine j_iconst (v := (nI 1)) C dX6_profit_8 (by decide) ?_
  refine j_callS3r C (c_X6_isWithin) qm_X6_108 qt_X6_isWithin qn_X6 qc_X6_isWithin fit_X6_isWithin ⟨Nat.le_of_ble_eq_true rfl, Nat.le_of_ble_eq_true rfl, Nat.le_of_ble_eq_true rfl, Nat.le_of_ble_eq_true rfl⟩ (Nat.le_of_ble_eq_true rfl) dX6_profit_9 ?_
  refine j_callS1v C (c_X6_demandArguments (by first | decide | exact b2i_nz (by assumption))) qm_X6_47 qt_X6_demandArguments qn_X6 qc_X6_demandArguments fit_X6_demandArguments ⟨Nat.le_of_ble_eq_true rfl, Nat.le_of_ble_eq_true rfl, Nat.le_of_ble_eq_true rfl, Nat.le_of_ble_eq_true rfl⟩ (Nat.le_of_ble_eq_true rfl) dX6_profit_12 ?_
  refine j_iload_n C dX6_profit_15 rfl rfl ?_
  refine j_if_ne (tgt := 24) C dX6_profit_16 (by decide) (fun h16 => ?_) (fun h16 => ?_)
  · refine j_aload_n C dX6_profit_24 rfl rfl ?_
    refine j_aload_n C dX6_profit_25 rfl rfl ?_
    refine jg_LeaseBook_now C (by first | assumption | exact kd_sums (by assumption) | exact kd_st1 (by assumption) | exact kd_st2 (by assumption) | exact kd_ls (by first | assumption | exact kdL (by omega) | exact kdQ (by omega) | rfl) (by assumption) | exact kd_sb (by first | assumption | exact kdL (by omega) | exact kdQ (by omega) | rfl) (by assumption) | exact kd_sv (by assumption) | exact kdL (by omega) | exact kdQ (by omega) | rfl) qf_X6_12 dX6_profit_26 ?_
    refine j_iload_n C dX6_profit_29 rfl rfl ?_
    refine j_iconst (v := (nI 5)) C dX6_profit_30 (by decide) ?_
    refine j_callV2r C (oa_X4 (by first | assumption | exact kd_sums (by assumption) | exact kd_st1 (by assumption) | exact kd_st2 (by assumption) | exact kd_ls (by first | assumption | exact kdL (by omega) | exact kdQ (by omega) | rfl) (by assumption) | exact kd_sb (by first | assumption | exact kdL (by omega) | exact kdQ (by omega) | rfl) (by assumption) | exact kd_sv (by assumption) | exact kdL (by omega) | exact kdQ (by omega) | rfl)) rfl rfl (c_X4_sumOfSubleases hI.2.1 (by omega)) qm_X6_176 qi_X4_sumOfSubleases qs_X4_sumOfSubleases qn_X4 qc_X4_sumOfSubleases fit_X4_sumOfSubleases ⟨Nat.le_of_ble_eq_true rfl, Nat.le_of_ble_eq_true rfl, Nat.le_of_ble_eq_true rfl, Nat.le_of_ble_eq_true rfl⟩ (Nat.le_of_ble_eq_true rfl) dX6_profit_31 ?_
    refine j_callV1r C (oa_X2 (by first | assumption | exact kd_sums (by assumption) | exact kd_st1 (by assumption) | exact kd_st2 (by assumption) | exact kd_ls (by first | assumption | exact kdL (by omega) | exact kdQ (by omega) | rfl) (by assumption) | exact kd_sb (by first | assumption | exact kdL (by omega) | exact kdQ (by omega) | rfl) (by assumption) | exact kd_sv (by assumption) | exact kdL (by omega) | exact kdQ (by omega) | rfl)) rfl rfl (c_X2_profitByHoldings hkk) qm_X6_179 qi_X2_profitByHoldings qs_X2_profitByHoldings qn_X2 qc_X2_profitByHoldings fit_X2_profitByHoldings ⟨Nat.le_of_ble_eq_true rfl, Nat.le_of_ble_eq_true rfl, Nat.le_of_ble_eq_true rfl, Nat.le_of_ble_eq_true rfl⟩ (Nat.le_of_ble_eq_true rfl) dX6_profit_34 ?_
    exact j_iret C dX6_profit_37 (by first | rw [if_pos (by assumption)] | rw [if_neg (by assumption)]) (by rfl) (by rfl)
  · refine j_aload_n C dX6_profit_19 rfl rfl ?_
    refine j_callV0r C (oa_X2 (by first | assumption | exact kd_sums (by assumption) | exact kd_st1 (by assumption) | exact kd_st2 (by assumption) | exact kd_ls (by first | assumption | exact kdL (by omega) | exact kdQ (by omega) | rfl) (by assumption) | exact kd_sb (by first | assumption | exact kdL (by omega) | exact kdQ (by omega) | rfl) (by assumption) | exact kd_sv (by assumption) | exact kdL (by omega) | exact kdQ (by omega) | rfl)) rfl rfl (c_X2_profitByMovements hkk) qm_X6_172 qi_X2_profitByMovements qs_X2_profitByMovements qn_X2 qc_X2_profitByMovements fit_X2_profitByMovements ⟨Nat.le_of_ble_eq_true rfl, Nat.le_of_ble_eq_true rfl, Nat.le_of_ble_eq_true rfl, Nat.le_of_ble_eq_true rfl⟩ (Nat.le_of_ble_eq_true rfl) dX6_profit_20 ?_
    exact j_iret C dX6_profit_23 (by first | rw [if_pos (by assumption)] | rw [if_neg (by assumption)]) (by rfl) (by rfl)
def cOff (V : Mem) (nl ns : Nat) : UInt64 := if 0 < cSumL V nl ns 3 then FP.ddiv (FP.i2d (cSumL V nl ns 5)) (FP.i2d (cSumL V nl ns 3)) else FP.dconst0
set_option maxHeartbeats 4000000 in
theorem c_X6_offShare {l : Launch} {g : GC} {V : Mem} {L : LMem} {nl ns : Nat} (hI : CI nl ns V) : MC l yX6_offShare cX6_offShare 3 (some .double) 5 g V L [.ref (ad g 223)] (some (.double (cOff V nl ns))) V L := by
  refine MC.of [some (.ref (ad g 223)), none, none] (by decide +kernel) rfl (Nat.le_of_ble_eq_true rfl) (fun p e s m args below meth c C => ?_)
  refine j_aload_n C dX6_offShare_0 rfl rfl ?_
  refine jg_LeaseBook_now C (by first | assumption | exact kd_sums (by assumption) | exact kd_st1 (by assumption) | exact kd_st2 (by assumption) | exact kd_ls (by first | assumption | exact kdL (by omega) | exact kdQ (by omega) | rfl) (by assumption) | exact kd_sb (by first | assumption | exact kdL (by omega) | exact kdQ (by omega) | rfl) (by assumption) | exact kd_sv (by assumption) | exact kdL (by omega) | exact kdQ (by omega) | rfl) qf_X6_12 dX6_offShare_1 ?_
  refine j_iconst (v := (nI 3)) C dX6_offShare_4 (by decide) ?_
  refine j_callV1r C (oa_X4 (by first | assumption | exact kd_sums (by assumption) | exact kd_st1 (by assumption) | exact kd_st2 (by assumption) | exact kd_ls (by first | assumption | exact kdL (by omega) | exact kdQ (by omega) | rfl) (by assumption) | exact kd_sb (by first | assumption | exact kdL (by omega) | exact kdQ (by omega) | rfl) (by assumption) | exact kd_sv (by assumption) | exact kdL (by omega) | exact kdQ (by omega) | rfl)) rfl rfl (c_X4_sumOfLeases hI.1 hI.2.1 (by omega)) qm_X6_185 qi_X4_sumOfLeases qs_X4_sumOfLeases qn_X4 qc_X4_sumOfLeases fit_X4_sumOfLeases ⟨Nat.le_of_ble_eq_true rfl, Nat.le_of_ble_eq_true rfl, Nat.le_of_ble_eq_true rfl, Nat.le_of_ble_eq_true rfl⟩ (Nat.le_of_ble_eq_true rfl) dX6_offShare_5 ?_
  refine j_ist1 C dX6_offShare_8 rfl (Nat.le_of_ble_eq_true rfl) rfl ?_
  refine j_aload_n C dX6_offShare_9 rfl rfl ?_
  refine jg_LeaseBook_now C (by first | assumption | exact kd_sums (by assumption) | exact kd_st1 (by assumption) | exact kd_st2 (by assumption) | exact kd_ls (by first | assumption | exact kdL (by omega) | exact kdQ (by omega) | rfl) (by assumption) | exact kd_sb (by first | assumption | exact kdL (by omega) | exact kdQ (by omega) | rfl) (by assumption) | exact kd_sv (by assumption) | exact kdL (by omega) | exact kdQ (by omega) | rfl) qf_X6_12 dX6_offShare_10 ?_
  refine j_iconst (v := (nI 5)) C dX6_offShare_13 (by decide) ?_
  refine j_callV1r C (oa_X4 (by first | assumption | exact kd_sums (by assumption) | exact kd_st1 (by assumption) | exact kd_st2 (by assumption) | exact kd_ls (by first | assumption | exact kdL (by omega) | exact kdQ (by omega) | rfl) (by assumption) | exact kd_sb (by first | assumption | exact kdL (by omega) | exact kdQ (by omega) | rfl) (by assumption) | exact kd_sv (by assumption) | exact kdL (by omega) | exact kdQ (by omega) | rfl)) rfl rfl (c_X4_sumOfLeases hI.1 hI.2.1 (by omega)) qm_X6_185 qi_X4_sumOfLeases qs_X4_sumOfLeases qn_X4 qc_X4_sumOfLeases fit_X4_sumOfLeases ⟨Nat.le_of_ble_eq_true rfl, Nat.le_of_ble_eq_true rfl, Nat.le_of_ble_eq_true rfl, Nat.le_of_ble_eq_true rfl⟩ (Nat.le_of_ble_eq_true rfl) dX6_offShare_14 ?_
  refine j_ist2 C dX6_offShare_17 rfl (Nat.le_of_ble_eq_true rfl) rfl ?_
  refine j_iload_n C dX6_offShare_18 rfl rfl ?_
  refine j_if_le (tgt := 30) C dX6_offShare_19 (by decide) (fun h19 => ?_) (fun h19 => ?_)
  · refine j_dconst0 C dX6_offShare_30 ?_
    exact j_dret C dX6_offShare_31 (by unfold cOff; first | rw [if_pos (Int32.not_le.mp h19)] | rw [if_neg (Int32.not_lt.mpr h19)]) (by rfl) (by rfl)
  · have h20 : 0 < cSumL V nl ns 3 := Int32.not_le.mp h19
    refine j_iload_n C dX6_offShare_22 rfl rfl ?_
    refine j_i2d C dX6_offShare_23 ?_
    refine j_iload_n C dX6_offShare_24 rfl rfl ?_
    refine j_i2d C dX6_offShare_25 ?_
    refine j_ddiv C dX6_offShare_26 rfl (off_n64 (fun q => absurd (by rw [q] at h20; exact h20) (by decide))) ?_
    refine j_goto (tgt := 31) C dX6_offShare_27 (by decide) ?_
    exact j_dret C dX6_offShare_31 (by unfold cOff; first | rw [if_pos (Int32.not_le.mp h19)] | rw [if_neg (Int32.not_lt.mpr h19)]) (by rfl) (by rfl)
