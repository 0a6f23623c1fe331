/-! THE CLASS: openAll, digest (laid by wip/whole/p30.py) -/
theorem rdL_o {r : Nat} (h : r ≠ 221) (h2 : r ≠ 222) : ∀ f q W, (rdL f q W).2 r = W r
  | 0, _, _ => rfl
  | f + 1, q, W => by
    by_cases hk : tkOk W (W 220 q)
    · rw [rdL_t hk, rdL_o h h2 f]; exact tkM_o h h2
    · rw [rdL_f hk]; exact tkM_o h h2
theorem rdL_r : ∀ f q W, PI W → rateR (W 222 2) → rateR ((rdL f q W).2 222 2)
  | 0, _, _, _, h => h
  | f + 1, q, W, hP, h => by
    by_cases hk : tkOk W (W 220 q)
    · rw [rdL_t hk]; exact rdL_r f _ _ hP.tk (tkM_r hP h)
    · rw [rdL_f hk]; exact tkM_r hP h
theorem rdA_o {m r : Nat} {V : Mem} (h : r ≠ 221) (h2 : r ≠ 222) : (rdA m V).2 r = V r := (rdL_o h h2 _ _ _).trans (rdR_o h)
theorem rdA_r {m : Nat} {V : Mem} (h : rateR (V 222 2)) : rateR ((rdA m V).2 222 2) := rdL_r _ _ _ rdR_P (by rw [rdR_o (by omega)]; exact h)
theorem rdL_le : ∀ f q W, (rdL f q W).1 ≤ q + f
  | 0, _, _ => Nat.le_refl _
  | f + 1, q, W => by
    by_cases hk : tkOk W (W 220 q)
    · rw [rdL_t hk]; have := rdL_le f (q + 1) (tkM W (W 220 q)); omega
    · rw [rdL_f hk]; exact Nat.le_add_right _ _
theorem cntS_row {V V' : Mem} (h : V' 220 = V 220) : ∀ q, cntS V' q = cntS V q
  | 0 => rfl
  | q + 1 => by rw [cntS, cntS, cntS_row h q, h]
/-- the text is whole -/
abbrev rdOk (m : Nat) (V : Mem) : Prop := (rdA m V).1 = m ∧ nI 2 ≤ (rdA m V).2 221 1 ∧ 0 < (rdA m V).2 221 2
def opS (o n nl ns m : Nat) (V : Mem) : Mem := cSave o n nl ns (rdA m V).2
theorem opS_o {o n nl ns m r : Nat} {V : Mem} (h8 : nl ≤ 8) (h12 : ns ≤ 12) (h : 217 < r) (h1 : r ≠ 221) (h2 : r ≠ 222) : opS o n nl ns m V r = V r := (cSave_o h8 h12 (Or.inr h)).trans (rdA_o h1 h2)
theorem otA_0 {nl m : Nat} {V : Mem} : otA nl m V 0 2 = nI (nl + cntS V m + 1) := cAddL_2
set_option maxHeartbeats 4000000 in
theorem c_X6_openAll {l : Launch} {g : GC} {V : Mem} {L : LMem} {nl ns o0 n0 m0 : Nat} (hH : HI o0 n0 V) (hI : CI nl ns V) (hm : V 219 1 = nI m0) (h60 : m0 ≤ 60) (hz : rateR (V 222 2)) (hok : rdOk m0 V) (h8 : nl + cntS V m0 + 1 ≤ 8) : MC l yX6_openAll cX6_openAll 2 (some .int) 5 g V L [.ref (ad g 223)] (some (.int (nI (nl + cntS V m0 + 1)))) (mset (otA nl m0 (opS o0 n0 nl ns m0 V)) 219 1 (nI 0)) L := by
  refine MC.of [some (.ref (ad g 223)), none] (by decide +kernel) rfl (Nat.le_of_ble_eq_true rfl) (fun p e s m args below meth c C => ?_)
  have h8a := hI.1.2
  have h12a := hI.2.1.2
  have hW : CI nl ns (rdA m0 V).2 := hI.row (fun r hr => rdA_o (by omega) (by omega))
  have hHW : HI o0 n0 (rdA m0 V).2 := by unfold HI; rw [rdA_o (by omega) (by omega)]; exact hH
  have hmW : (rdA m0 V).2 219 1 = nI m0 := by rw [rdA_o (by omega) (by omega)]; exact hm
  have hS : CI nl ns (opS o0 n0 nl ns m0 V) := hW.save
  have hcS : cntS (opS o0 n0 nl ns m0 V) m0 = cntS V m0 := cntS_row (opS_o h8a h12a (by omega) (by omega) (by omega)) m0
  have hcW : cntS (rdA m0 V).2 m0 = cntS V m0 := cntS_row (rdA_o (by omega) (by omega)) m0
  have hle := cntS_le (V := V) m0
  refine j_aload_n C dX6_openAll_0 rfl rfl ?_
  refine jg_LeaseBook_reader C (by first | assumption | exact kd_sums (by assumption) | exact kd_st1 (by assumption) | exact kd_st2 (by assumption) | exact kd_ls (by first | assumption | exact kdL (by omega) | exact kdQ (by omega) | rfl) (by assumption) | exact kd_sb (by first | assumption | exact kdL (by omega) | exact kdQ (by omega) | rfl) (by assumption) | exact kd_sv (by assumption) | exact kdL (by omega) | exact kdQ (by omega) | rfl) qf_X6_33 dX6_openAll_1 ?_
  refine j_aload_n C dX6_openAll_4 rfl rfl ?_
  refine jg_LeaseBook_text C (by first | assumption | exact kd_sums (by assumption) | exact kd_st1 (by assumption) | exact kd_st2 (by assumption) | exact kd_ls (by first | assumption | exact kdL (by omega) | exact kdQ (by omega) | rfl) (by assumption) | exact kd_sb (by first | assumption | exact kdL (by omega) | exact kdQ (by omega) | rfl) (by assumption) | exact kd_sv (by assumption) | exact kdL (by omega) | exact kdQ (by omega) | rfl) qf_X6_26 dX6_openAll_5 ?_
  refine j_callV1r C (oa_X3 (by first | assumption | exact kd_sums (by assumption) | exact kd_st1 (by assumption) | exact kd_st2 (by assumption) | exact kd_ls (by first | assumption | exact kdL (by omega) | exact kdQ (by omega) | rfl) (by assumption) | exact kd_sb (by first | assumption | exact kdL (by omega) | exact kdQ (by omega) | rfl) (by assumption) | exact kd_sv (by assumption) | exact kdL (by omega) | exact kdQ (by omega) | rfl)) rfl rfl (c_X3_readAll hm h60) qm_X6_138 qi_X3_readAll qs_X3_readAll qn_X3 qc_X3_readAll fit_X3_readAll ⟨Nat.le_of_ble_eq_true rfl, Nat.le_of_ble_eq_true rfl, Nat.le_of_ble_eq_true rfl, Nat.le_of_ble_eq_true rfl⟩ (Nat.le_of_ble_eq_true rfl) dX6_openAll_8 ?_
  refine j_tope (y := nI m0) (by rw [hok.1]) ?_
  refine j_aload_n C dX6_openAll_11 rfl rfl ?_
  refine jg_LeaseBook_text C (by first | assumption | exact kd_sums (by assumption) | exact kd_st1 (by assumption) | exact kd_st2 (by assumption) | exact kd_ls (by first | assumption | exact kdL (by omega) | exact kdQ (by omega) | rfl) (by assumption) | exact kd_sb (by first | assumption | exact kdL (by omega) | exact kdQ (by omega) | rfl) (by assumption) | exact kd_sv (by assumption) | exact kdL (by omega) | exact kdQ (by omega) | rfl) qf_X6_26 dX6_openAll_12 ?_
  refine jg_InputText_length C (by first | assumption | exact kd_sums (by assumption) | exact kd_st1 (by assumption) | exact kd_st2 (by assumption) | exact kd_ls (by first | assumption | exact kdL (by omega) | exact kdQ (by omega) | rfl) (by assumption) | exact kd_sb (by first | assumption | exact kdL (by omega) | exact kdQ (by omega) | rfl) (by assumption) | exact kd_sv (by assumption) | exact kdL (by omega) | exact kdQ (by omega) | rfl) qf_X6_132 dX6_openAll_15 ?_
  refine j_tope (y := nI m0) (by exact hmW) ?_
  refine j_icmp_ne (tgt := 35) C dX6_openAll_18 (by decide) (fun h18 => (by first | exact absurd rfl h18 | exact h18 rfl)) (fun h18 => ?_)
  refine j_aload_n C dX6_openAll_21 rfl rfl ?_
  refine jg_LeaseBook_reader C (by first | assumption | exact kd_sums (by assumption) | exact kd_st1 (by assumption) | exact kd_st2 (by assumption) | exact kd_ls (by first | assumption | exact kdL (by omega) | exact kdQ (by omega) | rfl) (by assumption) | exact kd_sb (by first | assumption | exact kdL (by omega) | exact kdQ (by omega) | rfl) (by assumption) | exact kd_sv (by assumption) | exact kdL (by omega) | exact kdQ (by omega) | rfl) qf_X6_33 dX6_openAll_22 ?_
  refine j_callV0r C (oa_X3 (by first | assumption | exact kd_sums (by assumption) | exact kd_st1 (by assumption) | exact kd_st2 (by assumption) | exact kd_ls (by first | assumption | exact kdL (by omega) | exact kdQ (by omega) | rfl) (by assumption) | exact kd_sb (by first | assumption | exact kdL (by omega) | exact kdQ (by omega) | rfl) (by assumption) | exact kd_sv (by assumption) | exact kdL (by omega) | exact kdQ (by omega) | rfl)) rfl rfl (c_X3_isComplete) qm_X6_142 qi_X3_isComplete qs_X3_isComplete qn_X3 qc_X3_isComplete fit_X3_isComplete ⟨Nat.le_of_ble_eq_true rfl, Nat.le_of_ble_eq_true rfl, Nat.le_of_ble_eq_true rfl, Nat.le_of_ble_eq_true rfl⟩ (Nat.le_of_ble_eq_true rfl) dX6_openAll_25 ?_
  refine j_if_eq (tgt := 35) C dX6_openAll_28 (by decide) (fun h28 => ?_) (fun h28 => ?_)
  · replace h28 := b2i_0 h28
    exfalso
    exact h28 hok.2
  · replace h28 := b2i_1 h28
    refine j_iconst (v := (nI 1)) C dX6_openAll_31 (by decide) ?_
    refine j_goto (tgt := 36) C dX6_openAll_32 (by decide) ?_
    refine j_ist1 C dX6_openAll_36 rfl (Nat.le_of_ble_eq_true rfl) rfl ?_
    refine j_iload_n C dX6_openAll_37 rfl rfl ?_
    refine j_callS1v C (c_X6_demandArguments (by first | decide | exact b2i_nz (by assumption))) qm_X6_47 qt_X6_demandArguments qn_X6 qc_X6_demandArguments fit_X6_demandArguments ⟨Nat.le_of_ble_eq_true rfl, Nat.le_of_ble_eq_true rfl, Nat.le_of_ble_eq_true rfl, Nat.le_of_ble_eq_true rfl⟩ (Nat.le_of_ble_eq_true rfl) dX6_openAll_38 ?_
    refine j_aload_n C dX6_openAll_41 rfl rfl ?_
    refine jg_LeaseBook_now C (by first | assumption | exact kd_sums (by assumption) | exact kd_st1 (by assumption) | exact kd_st2 (by assumption) | exact kd_ls (by first | assumption | exact kdL (by omega) | exact kdQ (by omega) | rfl) (by assumption) | exact kd_sb (by first | assumption | exact kdL (by omega) | exact kdQ (by omega) | rfl) (by assumption) | exact kd_sv (by assumption) | exact kdL (by omega) | exact kdQ (by omega) | rfl) qf_X6_12 dX6_openAll_42 ?_
    refine jg_State_leaseCount C (by first | assumption | exact kd_sums (by assumption) | exact kd_st1 (by assumption) | exact kd_st2 (by assumption) | exact kd_ls (by first | assumption | exact kdL (by omega) | exact kdQ (by omega) | rfl) (by assumption) | exact kd_sb (by first | assumption | exact kdL (by omega) | exact kdQ (by omega) | rfl) (by assumption) | exact kd_sv (by assumption) | exact kdL (by omega) | exact kdQ (by omega) | rfl) qf_X6_51 dX6_openAll_45 ?_
    refine j_tope (y := nI nl) (by exact hW.1.1) ?_
    refine j_aload_n C dX6_openAll_48 rfl rfl ?_
    refine jg_LeaseBook_text C (by first | assumption | exact kd_sums (by assumption) | exact kd_st1 (by assumption) | exact kd_st2 (by assumption) | exact kd_ls (by first | assumption | exact kdL (by omega) | exact kdQ (by omega) | rfl) (by assumption) | exact kd_sb (by first | assumption | exact kdL (by omega) | exact kdQ (by omega) | rfl) (by assumption) | exact kd_sv (by assumption) | exact kdL (by omega) | exact kdQ (by omega) | rfl) qf_X6_26 dX6_openAll_49 ?_
    refine j_bipush (v := (nI 59)) C dX6_openAll_52 (by decide) ?_
    refine j_callV1r C (oa_X1 (by first | assumption | exact kd_sums (by assumption) | exact kd_st1 (by assumption) | exact kd_st2 (by assumption) | exact kd_ls (by first | assumption | exact kdL (by omega) | exact kdQ (by omega) | rfl) (by assumption) | exact kd_sb (by first | assumption | exact kdL (by omega) | exact kdQ (by omega) | rfl) (by assumption) | exact kd_sv (by assumption) | exact kdL (by omega) | exact kdQ (by omega) | rfl)) rfl rfl (c_X1_countOf hmW h60) qm_X6_145 qi_X1_countOf qs_X1_countOf qn_X1 qc_X1_countOf fit_X1_countOf ⟨Nat.le_of_ble_eq_true rfl, Nat.le_of_ble_eq_true rfl, Nat.le_of_ble_eq_true rfl, Nat.le_of_ble_eq_true rfl⟩ (Nat.le_of_ble_eq_true rfl) dX6_openAll_54 ?_
    refine j_tope (y := nI (cntS V m0)) (by rw [sF_cnt, hcW]) ?_
    refine j_iaddN C dX6_openAll_57 ?_
    refine j_iconst (v := (nI 1)) C dX6_openAll_58 (by decide) ?_
    refine j_iaddN C dX6_openAll_59 ?_
    refine j_bipush (v := (nI 8)) C dX6_openAll_60 (by decide) ?_
    refine j_icmp_gt (tgt := 69) C dX6_openAll_62 (by decide) (fun h62 => ?_) (fun h62 => ?_)
    · exfalso
      exact absurd (nI_le h8 (by omega)) (Int32.not_le.mpr h62)
    · refine j_iconst (v := (nI 1)) C dX6_openAll_65 (by decide) ?_
      refine j_goto (tgt := 70) C dX6_openAll_66 (by decide) ?_
      refine j_callS1v C (c_X6_demandState (by first | decide | exact b2i_nz (by assumption))) qm_X6_55 qt_X6_demandState qn_X6 qc_X6_demandState fit_X6_demandState ⟨Nat.le_of_ble_eq_true rfl, Nat.le_of_ble_eq_true rfl, Nat.le_of_ble_eq_true rfl, Nat.le_of_ble_eq_true rfl⟩ (Nat.le_of_ble_eq_true rfl) dX6_openAll_70 ?_
      refine j_aload_n C dX6_openAll_73 rfl rfl ?_
      refine jg_LeaseBook_history C (by first | assumption | exact kd_sums (by assumption) | exact kd_st1 (by assumption) | exact kd_st2 (by assumption) | exact kd_ls (by first | assumption | exact kdL (by omega) | exact kdQ (by omega) | rfl) (by assumption) | exact kd_sb (by first | assumption | exact kdL (by omega) | exact kdQ (by omega) | rfl) (by assumption) | exact kd_sv (by assumption) | exact kdL (by omega) | exact kdQ (by omega) | rfl) qf_X6_19 dX6_openAll_74 ?_
      refine j_aload_n C dX6_openAll_77 rfl rfl ?_
      refine jg_LeaseBook_now C (by first | assumption | exact kd_sums (by assumption) | exact kd_st1 (by assumption) | exact kd_st2 (by assumption) | exact kd_ls (by first | assumption | exact kdL (by omega) | exact kdQ (by omega) | rfl) (by assumption) | exact kd_sb (by first | assumption | exact kdL (by omega) | exact kdQ (by omega) | rfl) (by assumption) | exact kd_sv (by assumption) | exact kdL (by omega) | exact kdQ (by omega) | rfl) qf_X6_12 dX6_openAll_78 ?_
      refine j_callV1v C (oa_X0 (by first | assumption | exact kd_sums (by assumption) | exact kd_st1 (by assumption) | exact kd_st2 (by assumption) | exact kd_ls (by first | assumption | exact kdL (by omega) | exact kdQ (by omega) | rfl) (by assumption) | exact kd_sb (by first | assumption | exact kdL (by omega) | exact kdQ (by omega) | rfl) (by assumption) | exact kd_sv (by assumption) | exact kdL (by omega) | exact kdQ (by omega) | rfl)) rfl rfl (c_X0_save hHW hW) qm_X6_58 qi_X0_save qs_X0_save qn_X0 qc_X0_save fit_X0_save ⟨Nat.le_of_ble_eq_true rfl, Nat.le_of_ble_eq_true rfl, Nat.le_of_ble_eq_true rfl, Nat.le_of_ble_eq_true rfl⟩ (Nat.le_of_ble_eq_true rfl) dX6_openAll_81 ?_
      refine j_aload_n C dX6_openAll_84 rfl rfl ?_
      refine j_callV0v C (oa_X6 (by first | assumption | exact kd_sums (by assumption) | exact kd_st1 (by assumption) | exact kd_st2 (by assumption) | exact kd_ls (by first | assumption | exact kdL (by omega) | exact kdQ (by omega) | rfl) (by assumption) | exact kd_sb (by first | assumption | exact kdL (by omega) | exact kdQ (by omega) | rfl) (by assumption) | exact kd_sv (by assumption) | exact kdL (by omega) | exact kdQ (by omega) | rfl)) rfl rfl (c_X6_openTexts hS.1 (by show nl + cntS (opS o0 n0 nl ns m0 V) m0 + 1 ≤ 8; rw [hcS]; exact h8) (by show rateR (opS o0 n0 nl ns m0 V 222 2); unfold opS; rw [cSave_o h8a h12a (by omega)]; exact rdA_r hz) (by show opS o0 n0 nl ns m0 V 219 1 = _; rw [opS_o h8a h12a (by omega) (by omega) (by omega)]; exact hm) h60) qm_X6_148 qi_X6_openTexts qs_X6_openTexts qn_X6 qc_X6_openTexts fit_X6_openTexts ⟨Nat.le_of_ble_eq_true rfl, Nat.le_of_ble_eq_true rfl, Nat.le_of_ble_eq_true rfl, Nat.le_of_ble_eq_true rfl⟩ (Nat.le_of_ble_eq_true rfl) dX6_openAll_85 ?_
      refine j_aload_n C dX6_openAll_88 rfl rfl ?_
      refine jg_LeaseBook_text C (by first | assumption | exact kd_sums (by assumption) | exact kd_st1 (by assumption) | exact kd_st2 (by assumption) | exact kd_ls (by first | assumption | exact kdL (by omega) | exact kdQ (by omega) | rfl) (by assumption) | exact kd_sb (by first | assumption | exact kdL (by omega) | exact kdQ (by omega) | rfl) (by assumption) | exact kd_sv (by assumption) | exact kdL (by omega) | exact kdQ (by omega) | rfl) qf_X6_26 dX6_openAll_89 ?_
      refine j_iconst (v := (nI 0)) C dX6_openAll_92 (by decide) ?_
      refine jp_InputText_length C (by first | assumption | exact kd_sums (by assumption) | exact kd_st1 (by assumption) | exact kd_st2 (by assumption) | exact kd_ls (by first | assumption | exact kdL (by omega) | exact kdQ (by omega) | rfl) (by assumption) | exact kd_sb (by first | assumption | exact kdL (by omega) | exact kdQ (by omega) | rfl) (by assumption) | exact kd_sv (by assumption) | exact kdL (by omega) | exact kdQ (by omega) | rfl) qf_X6_132 dX6_openAll_93 ?_
      refine j_aload_n C dX6_openAll_96 rfl rfl ?_
      refine jg_LeaseBook_now C (by first | assumption | exact kd_sums (by assumption) | exact kd_st1 (by assumption) | exact kd_st2 (by assumption) | exact kd_ls (by first | assumption | exact kdL (by omega) | exact kdQ (by omega) | rfl) (by assumption) | exact kd_sb (by first | assumption | exact kdL (by omega) | exact kdQ (by omega) | rfl) (by assumption) | exact kd_sv (by assumption) | exact kdL (by omega) | exact kdQ (by omega) | rfl) qf_X6_12 dX6_openAll_97 ?_
      refine jg_State_leaseCount C (by first | assumption | exact kd_sums (by assumption) | exact kd_st1 (by assumption) | exact kd_st2 (by assumption) | exact kd_ls (by first | assumption | exact kdL (by omega) | exact kdQ (by omega) | rfl) (by assumption) | exact kd_sb (by first | assumption | exact kdL (by omega) | exact kdQ (by omega) | rfl) (by assumption) | exact kd_sv (by assumption) | exact kdL (by omega) | exact kdQ (by omega) | rfl) qf_X6_51 dX6_openAll_100 ?_
      refine j_tope (y := nI (nl + cntS V m0 + 1)) (by rw [mset_ne (by omega)]; exact otA_0.trans (by show nI (nl + cntS (opS o0 n0 nl ns m0 V) m0 + 1) = _; rw [hcS])) ?_
      exact j_iret C dX6_openAll_103 (by rfl) (by rfl) (by rfl)
def cHL (V : Mem) (k ns : Nat) (h : Int64) : Int64 :=
  let h1 := mixN (cProp V ns k) 9 h
  let h2 := mixN (V (3 + k + 8)) 17 h1
  31 * (31 * h2 + (cProf0 (3 + k) V).toInt64) + (cProf1 (3 + k) (cSub V ns k 5) V).toInt64
def cIfW (V : Mem) (k ns w : Nat) : Int32 := if 0 < V (3 + k) 1 then cIfM V k ns (V (3 + k) 0) (nI 12) (V (3 + k) 2) w else -1
def cPayF (V : Mem) (k : Nat) (li : Int32) : Int32 := if 0 < V (3 + k) 1 then nI (gpF (fun b => decide (b ≤ 100000 ∧ wor (nI b) (V (3 + k) 1) (V (3 + k) 2) ≤ li)) 17 0) else -1
def cHF (V : Mem) (k ns : Nat) (h : Int64) : Int64 :=
  let h5 := mixN (cPlan V k ns 3) 4 h
  let h6 := mixN (cIfW V k ns) 3 h5
  31 * (31 * (31 * h6 + (cPayF V k (nI 50000)).toInt64) + (cRate V k).toInt64) + (cRec V k ns (nI 100) (nI 1)).toInt64
def cDgL (V : Mem) (ns : Nat) (h : Int64) : Nat → Int64
  | 0 => h
  | k + 1 => cHF V k ns (cHL V k ns (cDgL V ns h k))
def cDgS (V : Mem) (h : Int64) : Nat → Int64
  | 0 => h
  | q + 1 => mixN (V (19 + q)) 6 (cDgS V h q)
def cDg (V : Mem) (nl ns m : Nat) : Int64 :=
  let h1 := mixN (cCount V nl ns) 11 2467
  let h2 := cDgL V ns h1 nl
  let h3 := cDgS V h2 ns
  let h4 := 31 * h3 + (cOff V nl ns).toInt64
  let h5 := 31 * h4 + (nI m).toInt64
  mixN (V 220) m h5
abbrev monI (x : Int32) : Prop := nI 0 ≤ x ∧ x ≤ nI 100000
/-- the payments are payments -/
def MI (nl : Nat) (V : Mem) : Prop := ∀ k, k < nl → money (V (3 + k) 0)
set_option maxHeartbeats 4000000 in
theorem lp_X6_hlA {p : Program} {l : Launch} {e : Env} {s : State} {m : MethodId} {args : Array Value} {below : List Frame} {meth : Method} {c : Code} {g : GC} {Q : State → Prop} {V : Mem} {L : LMem} {k nl ns : Nat} {h0 h : Int64} (C : Cx p s args m meth c cX6_hashOfLooks 7 yX6_hashOfLooks.cls (some .long) g) (hI : CI nl ns V) (hk : k < nl) (kx : J p l e (RM 6) s m args below meth c 7 g 0 0 Q V L 36 [some (.ref (ad g 223)), some (.long h0), none, some (.int (nI k)), some (.long (mixN (cProp V ns k) (9) h)), none, some (.int (nI (9)))] []) : ∀ j i : Nat, i + j = 9 → J p l e (RM 6) s m args below meth c 7 g 0 0 Q V L 6 [some (.ref (ad g 223)), some (.long h0), none, some (.int (nI k)), some (.long (mixN (cProp V ns k) i h)), none, some (.int (nI i))] [] := by
  intro j
  induction j with
  | zero =>
    intro i hi
    have hi : 9 = i := by omega
    subst hi
    refine j_iload C dX6_hashOfLooks_6 rfl ?_
    refine j_bipush (v := (nI 8)) C dX6_hashOfLooks_8 (by decide) ?_
    refine j_icmp_gt (tgt := 36) C dX6_hashOfLooks_10 (by decide) (fun h10 => ?_) (fun h10 => absurd (nI_lt (by omega) (by omega)) h10)
    exact kx
  | succ j ih =>
    intro i hi
    have hk8 : k < 8 := Nat.lt_of_lt_of_le hk hI.1.2
    have hkk := kdL hk8
    refine j_iload C dX6_hashOfLooks_6 rfl ?_
    refine j_bipush (v := (nI 8)) C dX6_hashOfLooks_8 (by decide) ?_
    refine j_icmp_gt (tgt := 36) C dX6_hashOfLooks_10 (by decide) (fun h10 => absurd h10 (Int32.not_lt.mpr (nI_le (by omega) (by omega)))) (fun h10 => ?_)
    refine j_ldc2 C qk_X6_231 dX6_hashOfLooks_13 ?_
    refine j_lload C dX6_hashOfLooks_16 rfl ?_
    refine j_lmul C dX6_hashOfLooks_18 ?_
    refine j_aload_n C dX6_hashOfLooks_19 rfl rfl ?_
    refine j_iload_n C dX6_hashOfLooks_20 rfl rfl ?_
    refine j_iload C dX6_hashOfLooks_21 rfl ?_
    refine j_callV2r C (oa_X6 (by first | assumption | exact kd_sums (by assumption) | exact kd_st1 (by assumption) | exact kd_st2 (by assumption) | exact kd_ls (by first | assumption | exact kdL (by omega) | exact kdQ (by omega) | rfl) (by assumption) | exact kd_sb (by first | assumption | exact kdL (by omega) | exact kdQ (by omega) | rfl) (by assumption) | exact kd_sv (by assumption) | exact kdL (by omega) | exact kdQ (by omega) | rfl)) rfl rfl (c_X6_lease hI hk (by omega)) qm_X6_254 qi_X6_lease qs_X6_lease qn_X6 qc_X6_lease fit_X6_lease ⟨Nat.le_of_ble_eq_true rfl, Nat.le_of_ble_eq_true rfl, Nat.le_of_ble_eq_true rfl, Nat.le_of_ble_eq_true rfl⟩ (Nat.le_of_ble_eq_true rfl) dX6_hashOfLooks_23 ?_
    refine j_i2l C dX6_hashOfLooks_26 ?_
    refine j_ladd C dX6_hashOfLooks_27 ?_
    refine j_lst4 C dX6_hashOfLooks_28 (Nat.le_of_ble_eq_true rfl) rfl ?_
    refine j_incN6 (q := 1) C dX6_hashOfLooks_30 (by decide) (Nat.le_of_ble_eq_true rfl) rfl ?_
    refine j_goto (tgt := 6) C dX6_hashOfLooks_33 (by decide) ?_
    refine j_mem (V' := V) (L' := L) (by rfl) rfl ?_
    exact j_dr (lv' := [some (.ref (ad g 223)), some (.long h0), none, some (.int (nI k)), some (.long (mixN (cProp V ns k) (i + 1) h)), none, some (.int (nI (i + 1)))]) (And.intro rfl (And.intro rfl (And.intro rfl (And.intro rfl (And.intro rfl True.intro))))) (ih (i + 1) (by omega))
set_option maxHeartbeats 4000000 in
theorem lp_X6_hlB {p : Program} {l : Launch} {e : Env} {s : State} {m : MethodId} {args : Array Value} {below : List Frame} {meth : Method} {c : Code} {g : GC} {Q : State → Prop} {V : Mem} {L : LMem} {k nl ns : Nat} {h0 h : Int64} (C : Cx p s args m meth c cX6_hashOfLooks 7 yX6_hashOfLooks.cls (some .long) g) (hI : CI nl ns V) (hk : k < nl) (kx : J p l e (RM 6) s m args below meth c 7 g 0 0 Q V L 69 [some (.ref (ad g 223)), some (.long h0), none, some (.int (nI k)), some (.long (mixN (V (3 + k + 8)) (17) h)), none, some (.int (nI (17)))] []) : ∀ j i : Nat, i + j = 17 → J p l e (RM 6) s m args below meth c 7 g 0 0 Q V L 39 [some (.ref (ad g 223)), some (.long h0), none, some (.int (nI k)), some (.long (mixN (V (3 + k + 8)) i h)), none, some (.int (nI i))] [] := by
  intro j
  induction j with
  | zero =>
    intro i hi
    have hi : 17 = i := by omega
    subst hi
    refine j_iload C dX6_hashOfLooks_39 rfl ?_
    refine j_bipush (v := (nI 17)) C dX6_hashOfLooks_41 (by decide) ?_
    refine j_icmp_ge (tgt := 69) C dX6_hashOfLooks_43 (by decide) (fun h43 => ?_) (fun h43 => absurd (nI_le (by omega) (by omega)) h43)
    exact kx
  | succ j ih =>
    intro i hi
    have hk8 : k < 8 := Nat.lt_of_lt_of_le hk hI.1.2
    have hkk := kdL hk8
    refine j_iload C dX6_hashOfLooks_39 rfl ?_
    refine j_bipush (v := (nI 17)) C dX6_hashOfLooks_41 (by decide) ?_
    refine j_icmp_ge (tgt := 69) C dX6_hashOfLooks_43 (by decide) (fun h43 => absurd h43 (nI_ge (by omega) (by omega))) (fun h43 => ?_)
    refine j_ldc2 C qk_X6_231 dX6_hashOfLooks_46 ?_
    refine j_lload C dX6_hashOfLooks_49 rfl ?_
    refine j_lmul C dX6_hashOfLooks_51 ?_
    refine j_aload_n C dX6_hashOfLooks_52 rfl rfl ?_
    refine j_iload_n C dX6_hashOfLooks_53 rfl rfl ?_
    refine j_iload C dX6_hashOfLooks_54 rfl ?_
    refine j_callV2r C (oa_X6 (by first | assumption | exact kd_sums (by assumption) | exact kd_st1 (by assumption) | exact kd_st2 (by assumption) | exact kd_ls (by first | assumption | exact kdL (by omega) | exact kdQ (by omega) | rfl) (by assumption) | exact kd_sb (by first | assumption | exact kdL (by omega) | exact kdQ (by omega) | rfl) (by assumption) | exact kd_sv (by assumption) | exact kdL (by omega) | exact kdQ (by omega) | rfl)) rfl rfl (c_X6_movement hI hk (by omega)) qm_X6_257 qi_X6_movement qs_X6_movement qn_X6 qc_X6_movement fit_X6_movement ⟨Nat.le_of_ble_eq_true rfl, Nat.le_of_ble_eq_true rfl, Nat.le_of_ble_eq_true rfl, Nat.le_of_ble_eq_true rfl⟩ (Nat.le_of_ble_eq_true rfl) dX6_hashOfLooks_56 ?_
    refine j_i2l C dX6_hashOfLooks_59 ?_
    refine j_ladd C dX6_hashOfLooks_60 ?_
    refine j_lst4 C dX6_hashOfLooks_61 (Nat.le_of_ble_eq_true rfl) rfl ?_
    refine j_incN6 (q := 1) C dX6_hashOfLooks_63 (by decide) (Nat.le_of_ble_eq_true rfl) rfl ?_
    refine j_goto (tgt := 39) C dX6_hashOfLooks_66 (by decide) ?_
    refine j_mem (V' := V) (L' := L) (by rfl) rfl ?_
    exact j_dr (lv' := [some (.ref (ad g 223)), some (.long h0), none, some (.int (nI k)), some (.long (mixN (V (3 + k + 8)) (i + 1) h)), none, some (.int (nI (i + 1)))]) (And.intro rfl (And.intro rfl (And.intro rfl (And.intro rfl (And.intro rfl True.intro))))) (ih (i + 1) (by omega))
set_option maxHeartbeats 4000000 in
theorem c_X6_hashOfLooks {l : Launch} {g : GC} {V : Mem} {L : LMem} {k nl ns : Nat} {h0 : Int64} (hI : CI nl ns V) (hk : k < nl) : MC l yX6_hashOfLooks cX6_hashOfLooks 7 (some .long) 6 g V L [.ref (ad g 223), .long h0, .int (nI k)] (some (.long (cHL V k ns h0))) V L := by
  refine MC.of [some (.ref (ad g 223)), some (.long h0), none, some (.int (nI k)), none, none, none] (by decide +kernel) rfl (Nat.le_of_ble_eq_true rfl) (fun p e s m args below meth c C => ?_)
  refine j_lload_n C dX6_hashOfLooks_0 rfl rfl ?_
  refine j_lst4 C dX6_hashOfLooks_1 (Nat.le_of_ble_eq_true rfl) rfl ?_
  refine j_iconst (v := (nI 0)) C dX6_hashOfLooks_3 (by decide) ?_
  refine j_ist6 C dX6_hashOfLooks_4 (Nat.le_of_ble_eq_true rfl) rfl ?_
  refine lp_X6_hlA (h := h0) C hI hk ?_ 9 0 (by omega)
  refine j_iconst (v := (nI 0)) C dX6_hashOfLooks_36 (by decide) ?_
  refine j_ist6 C dX6_hashOfLooks_37 (Nat.le_of_ble_eq_true rfl) rfl ?_
  refine lp_X6_hlB (h := mixN (cProp V ns k) 9 h0) C hI hk ?_ 17 0 (by omega)
  refine j_ldc2 C qk_X6_231 dX6_hashOfLooks_69 ?_
  refine j_lload C dX6_hashOfLooks_72 rfl ?_
  refine j_lmul C dX6_hashOfLooks_74 ?_
  refine j_aload_n C dX6_hashOfLooks_75 rfl rfl ?_
  refine j_iload_n C dX6_hashOfLooks_76 rfl rfl ?_
  refine j_iconst (v := (nI 0)) C dX6_hashOfLooks_77 (by decide) ?_
  refine j_callV2r C (oa_X6 (by first | assumption | exact kd_sums (by assumption) | exact kd_st1 (by assumption) | exact kd_st2 (by assumption) | exact kd_ls (by first | assumption | exact kdL (by omega) | exact kdQ (by omega) | rfl) (by assumption) | exact kd_sb (by first | assumption | exact kdL (by omega) | exact kdQ (by omega) | rfl) (by assumption) | exact kd_sv (by assumption) | exact kdL (by omega) | exact kdQ (by omega) | rfl)) rfl rfl (c_X6_profit hI hk (inN (by omega) (by omega) (by omega))) qm_X6_260 qi_X6_profit qs_X6_profit qn_X6 qc_X6_profit fit_X6_profit ⟨Nat.le_of_ble_eq_true rfl, Nat.le_of_ble_eq_true rfl, Nat.le_of_ble_eq_true rfl, Nat.le_of_ble_eq_true rfl⟩ (Nat.le_of_ble_eq_true rfl) dX6_hashOfLooks_78 ?_
  refine j_tope (y := cProf0 (3 + k) V) (by rw [if_pos (by decide)]) ?_
  refine j_i2l C dX6_hashOfLooks_81 ?_
  refine j_ladd C dX6_hashOfLooks_82 ?_
  refine j_lst4 C dX6_hashOfLooks_83 (Nat.le_of_ble_eq_true rfl) rfl ?_
  refine j_ldc2 C qk_X6_231 dX6_hashOfLooks_85 ?_
  refine j_lload C dX6_hashOfLooks_88 rfl ?_
  refine j_lmul C dX6_hashOfLooks_90 ?_
  refine j_aload_n C dX6_hashOfLooks_91 rfl rfl ?_
  refine j_iload_n C dX6_hashOfLooks_92 rfl rfl ?_
  refine j_iconst (v := (nI 1)) C dX6_hashOfLooks_93 (by decide) ?_
  refine j_callV2r C (oa_X6 (by first | assumption | exact kd_sums (by assumption) | exact kd_st1 (by assumption) | exact kd_st2 (by assumption) | exact kd_ls (by first | assumption | exact kdL (by omega) | exact kdQ (by omega) | rfl) (by assumption) | exact kd_sb (by first | assumption | exact kdL (by omega) | exact kdQ (by omega) | rfl) (by assumption) | exact kd_sv (by assumption) | exact kdL (by omega) | exact kdQ (by omega) | rfl)) rfl rfl (c_X6_profit hI hk (inN (by omega) (by omega) (by omega))) qm_X6_260 qi_X6_profit qs_X6_profit qn_X6 qc_X6_profit fit_X6_profit ⟨Nat.le_of_ble_eq_true rfl, Nat.le_of_ble_eq_true rfl, Nat.le_of_ble_eq_true rfl, Nat.le_of_ble_eq_true rfl⟩ (Nat.le_of_ble_eq_true rfl) dX6_hashOfLooks_94 ?_
  refine j_tope (y := cProf1 (3 + k) (cSub V ns k 5) V) (by rw [if_neg (by decide)]) ?_
  refine j_i2l C dX6_hashOfLooks_97 ?_
  refine j_ladd C dX6_hashOfLooks_98 ?_
  exact j_lret C dX6_hashOfLooks_99 (by rfl) (by rfl) (by rfl)
set_option maxHeartbeats 4000000 in
theorem lp_X6_hfA {p : Program} {l : Launch} {e : Env} {s : State} {m : MethodId} {args : Array Value} {below : List Frame} {meth : Method} {c : Code} {g : GC} {Q : State → Prop} {V : Mem} {L : LMem} {k nl ns : Nat} {h0 h : Int64} (C : Cx p s args m meth c cX6_hashOfForecasts 9 yX6_hashOfForecasts.cls (some .long) g) (hI : CI nl ns V) (hM : MI nl V) (hk : k < nl) (kx : J p l e (RM 6) s m args below meth c 9 g 0 0 Q V L 36 [some (.ref (ad g 223)), some (.long h0), none, some (.int (nI k)), some (.long (mixN (cPlan V k ns 3) (4) h)), none, some (.int (nI (4))), none, none] []) : ∀ j i : Nat, i + j = 4 → J p l e (RM 6) s m args below meth c 9 g 0 0 Q V L 6 [some (.ref (ad g 223)), some (.long h0), none, some (.int (nI k)), some (.long (mixN (cPlan V k ns 3) i h)), none, some (.int (nI i)), none, none] [] := by
  intro j
  induction j with
  | zero =>
    intro i hi
    have hi : 4 = i := by omega
    subst hi
    refine j_iload C dX6_hashOfForecasts_6 rfl ?_
    refine j_iconst (v := (nI 3)) C dX6_hashOfForecasts_8 (by decide) ?_
    refine j_icmp_gt (tgt := 36) C dX6_hashOfForecasts_9 (by decide) (fun h9 => ?_) (fun h9 => absurd (nI_lt (by omega) (by omega)) h9)
    exact kx
  | succ j ih =>
    intro i hi
    have hk8 : k < 8 := Nat.lt_of_lt_of_le hk hI.1.2
    have hkk := kdL hk8
    refine j_iload C dX6_hashOfForecasts_6 rfl ?_
    refine j_iconst (v := (nI 3)) C dX6_hashOfForecasts_8 (by decide) ?_
    refine j_icmp_gt (tgt := 36) C dX6_hashOfForecasts_9 (by decide) (fun h9 => absurd h9 (Int32.not_lt.mpr (nI_le (by omega) (by omega)))) (fun h9 => ?_)
    refine j_ldc2 C qk_X6_231 dX6_hashOfForecasts_12 ?_
    refine j_lload C dX6_hashOfForecasts_15 rfl ?_
    refine j_lmul C dX6_hashOfForecasts_17 ?_
    refine j_aload_n C dX6_hashOfForecasts_18 rfl rfl ?_
    refine j_iload_n C dX6_hashOfForecasts_19 rfl rfl ?_
    refine j_iconst (v := (nI 3)) C dX6_hashOfForecasts_20 (by decide) ?_
    refine j_iload C dX6_hashOfForecasts_21 rfl ?_
    refine j_callV3r C (oa_X6 (by first | assumption | exact kd_sums (by assumption) | exact kd_st1 (by assumption) | exact kd_st2 (by assumption) | exact kd_ls (by first | assumption | exact kdL (by omega) | exact kdQ (by omega) | rfl) (by assumption) | exact kd_sb (by first | assumption | exact kdL (by omega) | exact kdQ (by omega) | rfl) (by assumption) | exact kd_sv (by assumption) | exact kdL (by omega) | exact kdQ (by omega) | rfl)) rfl rfl (c_X6_plan hI hk (by omega) (by omega)) qm_X6_263 qi_X6_plan qs_X6_plan qn_X6 qc_X6_plan fit_X6_plan ⟨Nat.le_of_ble_eq_true rfl, Nat.le_of_ble_eq_true rfl, Nat.le_of_ble_eq_true rfl, Nat.le_of_ble_eq_true rfl⟩ (Nat.le_of_ble_eq_true rfl) dX6_hashOfForecasts_23 ?_
    refine j_i2l C dX6_hashOfForecasts_26 ?_
    refine j_ladd C dX6_hashOfForecasts_27 ?_
    refine j_lst4 C dX6_hashOfForecasts_28 (Nat.le_of_ble_eq_true rfl) rfl ?_
    refine j_incN6 (q := 1) C dX6_hashOfForecasts_30 (by decide) (Nat.le_of_ble_eq_true rfl) rfl ?_
    refine j_goto (tgt := 6) C dX6_hashOfForecasts_33 (by decide) ?_
    refine j_mem (V' := V) (L' := L) (by rfl) rfl ?_
    exact j_dr (lv' := [some (.ref (ad g 223)), some (.long h0), none, some (.int (nI k)), some (.long (mixN (cPlan V k ns 3) (i + 1) h)), none, some (.int (nI (i + 1))), none, none]) (And.intro rfl (And.intro rfl (And.intro rfl (And.intro rfl (And.intro rfl True.intro))))) (ih (i + 1) (by omega))
set_option maxHeartbeats 4000000 in
theorem lp_X6_hfB {p : Program} {l : Launch} {e : Env} {s : State} {m : MethodId} {args : Array Value} {below : List Frame} {meth : Method} {c : Code} {g : GC} {Q : State → Prop} {V : Mem} {L : LMem} {k nl ns : Nat} {h0 h : Int64} (C : Cx p s args m meth c cX6_hashOfForecasts 9 yX6_hashOfForecasts.cls (some .long) g) (hI : CI nl ns V) (hM : MI nl V) (hk : k < nl) (kx : J p l e (RM 6) s m args below meth c 9 g 0 0 Q V L 90 [some (.ref (ad g 223)), some (.long h0), none, some (.int (nI k)), some (.long (mixN (cIfW V k ns) (3) h)), none, some (.int (V (3 + k) 0)), some (.int (V (3 + k) 2)), some (.int (nI (3)))] []) : ∀ j i : Nat, i + j = 3 → J p l e (RM 6) s m args below meth c 9 g 0 0 Q V L 55 [some (.ref (ad g 223)), some (.long h0), none, some (.int (nI k)), some (.long (mixN (cIfW V k ns) i h)), none, some (.int (V (3 + k) 0)), some (.int (V (3 + k) 2)), some (.int (nI i))] [] := by
  intro j
  induction j with
  | zero =>
    intro i hi
    have hi : 3 = i := by omega
    subst hi
    refine j_iload C dX6_hashOfForecasts_55 rfl ?_
    refine j_iconst (v := (nI 2)) C dX6_hashOfForecasts_57 (by decide) ?_
    refine j_icmp_gt (tgt := 90) C dX6_hashOfForecasts_58 (by decide) (fun h58 => ?_) (fun h58 => absurd (nI_lt (by omega) (by omega)) h58)
    exact kx
  | succ j ih =>
    intro i hi
    have hk8 : k < 8 := Nat.lt_of_lt_of_le hk hI.1.2
    have hkk := kdL hk8
    refine j_iload C dX6_hashOfForecasts_55 rfl ?_
    refine j_iconst (v := (nI 2)) C dX6_hashOfForecasts_57 (by decide) ?_
    refine j_icmp_gt (tgt := 90) C dX6_hashOfForecasts_58 (by decide) (fun h58 => absurd h58 (Int32.not_lt.mpr (nI_le (by omega) (by omega)))) (fun h58 => ?_)
    refine j_ldc2 C qk_X6_231 dX6_hashOfForecasts_61 ?_
    refine j_lload C dX6_hashOfForecasts_64 rfl ?_
    refine j_lmul C dX6_hashOfForecasts_66 ?_
    refine j_aload_n C dX6_hashOfForecasts_67 rfl rfl ?_
    refine j_iload_n C dX6_hashOfForecasts_68 rfl rfl ?_
    refine j_iload C dX6_hashOfForecasts_69 rfl ?_
    refine j_bipush (v := (nI 12)) C dX6_hashOfForecasts_71 (by decide) ?_
    refine j_iload C dX6_hashOfForecasts_73 rfl ?_
    refine j_iload C dX6_hashOfForecasts_75 rfl ?_
    refine j_callV5r C (oa_X6 (by first | assumption | exact kd_sums (by assumption) | exact kd_st1 (by assumption) | exact kd_st2 (by assumption) | exact kd_ls (by first | assumption | exact kdL (by omega) | exact kdQ (by omega) | rfl) (by assumption) | exact kd_sb (by first | assumption | exact kdL (by omega) | exact kdQ (by omega) | rfl) (by assumption) | exact kd_sv (by assumption) | exact kdL (by omega) | exact kdQ (by omega) | rfl)) rfl rfl (c_X6_ifMeasured hI hk (hM k hk) (inN (by omega) (by omega) (by omega)) (hI.2.2.2.1 k hk) (by omega)) qm_X6_266 qi_X6_ifMeasured qs_X6_ifMeasured qn_X6 qc_X6_ifMeasured fit_X6_ifMeasured ⟨Nat.le_of_ble_eq_true rfl, Nat.le_of_ble_eq_true rfl, Nat.le_of_ble_eq_true rfl, Nat.le_of_ble_eq_true rfl⟩ (Nat.le_of_ble_eq_true rfl) dX6_hashOfForecasts_77 ?_
    refine j_i2l C dX6_hashOfForecasts_80 ?_
    refine j_ladd C dX6_hashOfForecasts_81 ?_
    refine j_lst4 C dX6_hashOfForecasts_82 (Nat.le_of_ble_eq_true rfl) rfl ?_
    refine j_incN8 (q := 1) C dX6_hashOfForecasts_84 (by decide) (Nat.le_of_ble_eq_true rfl) rfl ?_
    refine j_goto (tgt := 55) C dX6_hashOfForecasts_87 (by decide) ?_
    refine j_mem (V' := V) (L' := L) (by rfl) rfl ?_
    exact j_dr (lv' := [some (.ref (ad g 223)), some (.long h0), none, some (.int (nI k)), some (.long (mixN (cIfW V k ns) (i + 1) h)), none, some (.int (V (3 + k) 0)), some (.int (V (3 + k) 2)), some (.int (nI (i + 1)))]) (And.intro rfl (And.intro rfl (And.intro rfl (And.intro rfl (And.intro rfl (And.intro rfl (And.intro rfl True.intro))))))) (ih (i + 1) (by omega))
set_option maxHeartbeats 4000000 in
theorem c_X6_hashOfForecasts {l : Launch} {g : GC} {V : Mem} {L : LMem} {k nl ns : Nat} {h0 : Int64} (hI : CI nl ns V) (hM : MI nl V) (hk : k < nl) : MC l yX6_hashOfForecasts cX6_hashOfForecasts 9 (some .long) 6 g V L [.ref (ad g 223), .long h0, .int (nI k)] (some (.long (cHF V k ns h0))) V L := by
  refine MC.of [some (.ref (ad g 223)), some (.long h0), none, some (.int (nI k)), none, none, none, none, none] (by decide +kernel) rfl (Nat.le_of_ble_eq_true rfl) (fun p e s m args below meth c C => ?_)
  refine j_lload_n C dX6_hashOfForecasts_0 rfl rfl ?_
  refine j_lst4 C dX6_hashOfForecasts_1 (Nat.le_of_ble_eq_true rfl) rfl ?_
  refine j_iconst (v := (nI 0)) C dX6_hashOfForecasts_3 (by decide) ?_
  refine j_ist6 C dX6_hashOfForecasts_4 (Nat.le_of_ble_eq_true rfl) rfl ?_
  refine lp_X6_hfA (h := h0) C hI hM hk ?_ 4 0 (by omega)
  refine j_aload_n C dX6_hashOfForecasts_36 rfl rfl ?_
  refine j_iload_n C dX6_hashOfForecasts_37 rfl rfl ?_
  refine j_iconst (v := (nI 0)) C dX6_hashOfForecasts_38 (by decide) ?_
  refine j_callV2r C (oa_X6 (by first | assumption | exact kd_sums (by assumption) | exact kd_st1 (by assumption) | exact kd_st2 (by assumption) | exact kd_ls (by first | assumption | exact kdL (by omega) | exact kdQ (by omega) | rfl) (by assumption) | exact kd_sb (by first | assumption | exact kdL (by omega) | exact kdQ (by omega) | rfl) (by assumption) | exact kd_sv (by assumption) | exact kdL (by omega) | exact kdQ (by omega) | rfl)) rfl rfl (c_X6_lease (w := 0) hI hk (by omega)) qm_X6_254 qi_X6_lease qs_X6_lease qn_X6 qc_X6_lease fit_X6_lease ⟨Nat.le_of_ble_eq_true rfl, Nat.le_of_ble_eq_true rfl, Nat.le_of_ble_eq_true rfl, Nat.le_of_ble_eq_true rfl⟩ (Nat.le_of_ble_eq_true rfl) dX6_hashOfForecasts_39 ?_
  refine j_ist6 C dX6_hashOfForecasts_42 (Nat.le_of_ble_eq_true rfl) rfl ?_
  refine j_aload_n C dX6_hashOfForecasts_44 rfl rfl ?_
  refine j_iload_n C dX6_hashOfForecasts_45 rfl rfl ?_
  refine j_iconst (v := (nI 2)) C dX6_hashOfForecasts_46 (by decide) ?_
  refine j_callV2r C (oa_X6 (by first | assumption | exact kd_sums (by assumption) | exact kd_st1 (by assumption) | exact kd_st2 (by assumption) | exact kd_ls (by first | assumption | exact kdL (by omega) | exact kdQ (by omega) | rfl) (by assumption) | exact kd_sb (by first | assumption | exact kdL (by omega) | exact kdQ (by omega) | rfl) (by assumption) | exact kd_sv (by assumption) | exact kdL (by omega) | exact kdQ (by omega) | rfl)) rfl rfl (c_X6_lease (w := 2) hI hk (by omega)) qm_X6_254 qi_X6_lease qs_X6_lease qn_X6 qc_X6_lease fit_X6_lease ⟨Nat.le_of_ble_eq_true rfl, Nat.le_of_ble_eq_true rfl, Nat.le_of_ble_eq_true rfl, Nat.le_of_ble_eq_true rfl⟩ (Nat.le_of_ble_eq_true rfl) dX6_hashOfForecasts_47 ?_
  refine j_ist7 C dX6_hashOfForecasts_50 (Nat.le_of_ble_eq_true rfl) rfl ?_
  refine j_iconst (v := (nI 0)) C dX6_hashOfForecasts_52 (by decide) ?_
  refine j_ist8 C dX6_hashOfForecasts_53 (Nat.le_of_ble_eq_true rfl) rfl ?_
  refine lp_X6_hfB (h := mixN (cPlan V k ns 3) 4 h0) C hI hM hk ?_ 3 0 (by omega)
  refine j_ldc2 C qk_X6_231 dX6_hashOfForecasts_90 ?_
  refine j_lload C dX6_hashOfForecasts_93 rfl ?_
  refine j_lmul C dX6_hashOfForecasts_95 ?_
  refine j_aload_n C dX6_hashOfForecasts_96 rfl rfl ?_
  refine j_iload_n C dX6_hashOfForecasts_97 rfl rfl ?_
  refine j_ldcw (v := nI 50000) C qk_X6_270 dX6_hashOfForecasts_98 ?_
  refine j_callV2r C (oa_X6 (by first | assumption | exact kd_sums (by assumption) | exact kd_st1 (by assumption) | exact kd_st2 (by assumption) | exact kd_ls (by first | assumption | exact kdL (by omega) | exact kdQ (by omega) | rfl) (by assumption) | exact kd_sb (by first | assumption | exact kdL (by omega) | exact kdQ (by omega) | rfl) (by assumption) | exact kd_sv (by assumption) | exact kdL (by omega) | exact kdQ (by omega) | rfl)) rfl rfl (c_X6_paymentFor hI hk (inN (by omega) (by omega) (by omega))) qm_X6_271 qi_X6_paymentFor qs_X6_paymentFor qn_X6 qc_X6_paymentFor fit_X6_paymentFor ⟨Nat.le_of_ble_eq_true rfl, Nat.le_of_ble_eq_true rfl, Nat.le_of_ble_eq_true rfl, Nat.le_of_ble_eq_true rfl⟩ (Nat.le_of_ble_eq_true rfl) dX6_hashOfForecasts_101 ?_
  refine j_i2l C dX6_hashOfForecasts_104 ?_
  refine j_ladd C dX6_hashOfForecasts_105 ?_
  refine j_lst4 C dX6_hashOfForecasts_106 (Nat.le_of_ble_eq_true rfl) rfl ?_
  refine j_ldc2 C qk_X6_231 dX6_hashOfForecasts_108 ?_
  refine j_lload C dX6_hashOfForecasts_111 rfl ?_
  refine j_lmul C dX6_hashOfForecasts_113 ?_
  refine j_aload_n C dX6_hashOfForecasts_114 rfl rfl ?_
  refine j_iload_n C dX6_hashOfForecasts_115 rfl rfl ?_
  refine j_callV1r C (oa_X6 (by first | assumption | exact kd_sums (by assumption) | exact kd_st1 (by assumption) | exact kd_st2 (by assumption) | exact kd_ls (by first | assumption | exact kdL (by omega) | exact kdQ (by omega) | rfl) (by assumption) | exact kd_sb (by first | assumption | exact kdL (by omega) | exact kdQ (by omega) | rfl) (by assumption) | exact kd_sv (by assumption) | exact kdL (by omega) | exact kdQ (by omega) | rfl)) rfl rfl (c_X6_rateWithin hI hk) qm_X6_274 qi_X6_rateWithin qs_X6_rateWithin qn_X6 qc_X6_rateWithin fit_X6_rateWithin ⟨Nat.le_of_ble_eq_true rfl, Nat.le_of_ble_eq_true rfl, Nat.le_of_ble_eq_true rfl, Nat.le_of_ble_eq_true rfl⟩ (Nat.le_of_ble_eq_true rfl) dX6_hashOfForecasts_116 ?_
  refine j_i2l C dX6_hashOfForecasts_119 ?_
  refine j_ladd C dX6_hashOfForecasts_120 ?_
  refine j_lst4 C dX6_hashOfForecasts_121 (Nat.le_of_ble_eq_true rfl) rfl ?_
  refine j_ldc2 C qk_X6_231 dX6_hashOfForecasts_123 ?_
  refine j_lload C dX6_hashOfForecasts_126 rfl ?_
  refine j_lmul C dX6_hashOfForecasts_128 ?_
  refine j_aload_n C dX6_hashOfForecasts_129 rfl rfl ?_
  refine j_iload_n C dX6_hashOfForecasts_130 rfl rfl ?_
  refine j_bipush (v := (nI 100)) C dX6_hashOfForecasts_131 (by decide) ?_
  refine j_iconst (v := (nI 1)) C dX6_hashOfForecasts_133 (by decide) ?_
  refine j_callV3r C (oa_X6 (by first | assumption | exact kd_sums (by assumption) | exact kd_st1 (by assumption) | exact kd_st2 (by assumption) | exact kd_ls (by first | assumption | exact kdL (by omega) | exact kdQ (by omega) | rfl) (by assumption) | exact kd_sb (by first | assumption | exact kdL (by omega) | exact kdQ (by omega) | rfl) (by assumption) | exact kd_sv (by assumption) | exact kdL (by omega) | exact kdQ (by omega) | rfl)) rfl rfl (c_X6_fairReceipt hI hk (inN (by omega) (by omega) (by omega)) (inN (by omega) (by omega) (by omega))) qm_X6_277 qi_X6_fairReceipt qs_X6_fairReceipt qn_X6 qc_X6_fairReceipt fit_X6_fairReceipt ⟨Nat.le_of_ble_eq_true rfl, Nat.le_of_ble_eq_true rfl, Nat.le_of_ble_eq_true rfl, Nat.le_of_ble_eq_true rfl⟩ (Nat.le_of_ble_eq_true rfl) dX6_hashOfForecasts_134 ?_
  refine j_i2l C dX6_hashOfForecasts_137 ?_
  refine j_ladd C dX6_hashOfForecasts_138 ?_
  exact j_lret C dX6_hashOfForecasts_139 (by rfl) (by rfl) (by rfl)
set_option maxHeartbeats 4000000 in
theorem lp_X6_dgA {p : Program} {l : Launch} {e : Env} {s : State} {m : MethodId} {args : Array Value} {below : List Frame} {meth : Method} {c : Code} {g : GC} {Q : State → Prop} {V : Mem} {L : LMem} {nl ns : Nat} {h : Int64} (C : Cx p s args m meth c cX6_digest 5 yX6_digest.cls (some .long) g) (hI : CI nl ns V) (kx : J p l e (RM 7) s m args below meth c 5 g 0 0 Q V L 31 [some (.ref (ad g 223)), some (.long (mixN (cCount V nl ns) (11) h)), none, some (.int (nI (11))), none] []) : ∀ j i : Nat, i + j = 11 → J p l e (RM 7) s m args below meth c 5 g 0 0 Q V L 6 [some (.ref (ad g 223)), some (.long (mixN (cCount V nl ns) i h)), none, some (.int (nI i)), none] [] := by
  intro j
  induction j with
  | zero =>
    intro i hi
    have hi : 11 = i := by omega
    subst hi
    refine j_iload_n C dX6_digest_6 rfl rfl ?_
    refine j_bipush (v := (nI 10)) C dX6_digest_7 (by decide) ?_
    refine j_icmp_gt (tgt := 31) C dX6_digest_9 (by decide) (fun h9 => ?_) (fun h9 => absurd (nI_lt (by omega) (by omega)) h9)
    exact kx
  | succ j ih =>
    intro i hi
    refine j_iload_n C dX6_digest_6 rfl rfl ?_
    refine j_bipush (v := (nI 10)) C dX6_digest_7 (by decide) ?_
    refine j_icmp_gt (tgt := 31) C dX6_digest_9 (by decide) (fun h9 => absurd h9 (Int32.not_lt.mpr (nI_le (by omega) (by omega)))) (fun h9 => ?_)
    refine j_ldc2 C qk_X6_231 dX6_digest_12 ?_
    refine j_lload_n C dX6_digest_15 rfl rfl ?_
    refine j_lmul C dX6_digest_16 ?_
    refine j_aload_n C dX6_digest_17 rfl rfl ?_
    refine j_iload_n C dX6_digest_18 rfl rfl ?_
    refine j_callV1r C (oa_X6 (by first | assumption | exact kd_sums (by assumption) | exact kd_st1 (by assumption) | exact kd_st2 (by assumption) | exact kd_ls (by first | assumption | exact kdL (by omega) | exact kdQ (by omega) | rfl) (by assumption) | exact kd_sb (by first | assumption | exact kdL (by omega) | exact kdQ (by omega) | rfl) (by assumption) | exact kd_sv (by assumption) | exact kdL (by omega) | exact kdQ (by omega) | rfl)) rfl rfl (c_X6_count hI (by omega)) qm_X6_233 qi_X6_count qs_X6_count qn_X6 qc_X6_count fit_X6_count ⟨Nat.le_of_ble_eq_true rfl, Nat.le_of_ble_eq_true rfl, Nat.le_of_ble_eq_true rfl, Nat.le_of_ble_eq_true rfl⟩ (Nat.le_of_ble_eq_true rfl) dX6_digest_19 ?_
    refine j_i2l C dX6_digest_22 ?_
    refine j_ladd C dX6_digest_23 ?_
    refine j_lst1 C dX6_digest_24 rfl (Nat.le_of_ble_eq_true rfl) rfl ?_
    refine j_incN3 (q := 1) C dX6_digest_25 (by decide) (Nat.le_of_ble_eq_true rfl) rfl ?_
    refine j_goto (tgt := 6) C dX6_digest_28 (by decide) ?_
    refine j_mem (V' := V) (L' := L) (by rfl) rfl ?_
    exact j_dr (lv' := [some (.ref (ad g 223)), some (.long (mixN (cCount V nl ns) (i + 1) h)), none, some (.int (nI (i + 1))), none]) (And.intro rfl (And.intro rfl (And.intro rfl True.intro))) (ih (i + 1) (by omega))
set_option maxHeartbeats 4000000 in
theorem lp_X6_dgB {p : Program} {l : Launch} {e : Env} {s : State} {m : MethodId} {args : Array Value} {below : List Frame} {meth : Method} {c : Code} {g : GC} {Q : State → Prop} {V : Mem} {L : LMem} {nl ns : Nat} {h : Int64} (C : Cx p s args m meth c cX6_digest 5 yX6_digest.cls (some .long) g) (hI : CI nl ns V) (hM : MI nl V) (kx : J p l e (RM 7) s m args below meth c 5 g 0 0 Q V L 62 [some (.ref (ad g 223)), some (.long (cDgL V ns h (nl))), none, some (.int (nI (nl))), none] []) : ∀ j i : Nat, i + j = nl → J p l e (RM 7) s m args below meth c 5 g 0 0 Q V L 33 [some (.ref (ad g 223)), some (.long (cDgL V ns h i)), none, some (.int (nI i)), none] [] := by
  intro j
  induction j with
  | zero =>
    intro i hi
    have hi : nl = i := by omega
    subst hi
    refine j_iload_n C dX6_digest_33 rfl rfl ?_
    refine j_aload_n C dX6_digest_34 rfl rfl ?_
    refine jg_LeaseBook_now C (by first | assumption | exact kd_sums (by assumption) | exact kd_st1 (by assumption) | exact kd_st2 (by assumption) | exact kd_ls (by first | assumption | exact kdL (by omega) | exact kdQ (by omega) | rfl) (by assumption) | exact kd_sb (by first | assumption | exact kdL (by omega) | exact kdQ (by omega) | rfl) (by assumption) | exact kd_sv (by assumption) | exact kdL (by omega) | exact kdQ (by omega) | rfl) qf_X6_12 dX6_digest_35 ?_
    refine jg_State_leaseCount C (by first | assumption | exact kd_sums (by assumption) | exact kd_st1 (by assumption) | exact kd_st2 (by assumption) | exact kd_ls (by first | assumption | exact kdL (by omega) | exact kdQ (by omega) | rfl) (by assumption) | exact kd_sb (by first | assumption | exact kdL (by omega) | exact kdQ (by omega) | rfl) (by assumption) | exact kd_sv (by assumption) | exact kdL (by omega) | exact kdQ (by omega) | rfl) qf_X6_51 dX6_digest_38 ?_
    refine j_tope (y := nI nl) (by exact hI.1.1) ?_
    refine j_icmp_ge (tgt := 62) C dX6_digest_41 (by decide) (fun h41 => ?_) (fun h41 => absurd (nI_le (by omega) (by have := hI.1.2; omega)) h41)
    exact kx
  | succ j ih =>
    intro i hi
    refine j_iload_n C dX6_digest_33 rfl rfl ?_
    refine j_aload_n C dX6_digest_34 rfl rfl ?_
    refine jg_LeaseBook_now C (by first | assumption | exact kd_sums (by assumption) | exact kd_st1 (by assumption) | exact kd_st2 (by assumption) | exact kd_ls (by first | assumption | exact kdL (by omega) | exact kdQ (by omega) | rfl) (by assumption) | exact kd_sb (by first | assumption | exact kdL (by omega) | exact kdQ (by omega) | rfl) (by assumption) | exact kd_sv (by assumption) | exact kdL (by omega) | exact kdQ (by omega) | rfl) qf_X6_12 dX6_digest_35 ?_
    refine jg_State_leaseCount C (by first | assumption | exact kd_sums (by assumption) | exact kd_st1 (by assumption) | exact kd_st2 (by assumption) | exact kd_ls (by first | assumption | exact kdL (by omega) | exact kdQ (by omega) | rfl) (by assumption) | exact kd_sb (by first | assumption | exact kdL (by omega) | exact kdQ (by omega) | rfl) (by assumption) | exact kd_sv (by assumption) | exact kdL (by omega) | exact kdQ (by omega) | rfl) qf_X6_51 dX6_digest_38 ?_
    refine j_tope (y := nI nl) (by exact hI.1.1) ?_
    refine j_icmp_ge (tgt := 62) C dX6_digest_41 (by decide) (fun h41 => absurd h41 (nI_ge (by omega) (by have := hI.1.2; omega))) (fun h41 => ?_)
    refine j_aload_n C dX6_digest_44 rfl rfl ?_
    refine j_aload_n C dX6_digest_45 rfl rfl ?_
    refine j_lload_n C dX6_digest_46 rfl rfl ?_
    refine j_iload_n C dX6_digest_47 rfl rfl ?_
    refine j_callV2r C (oa_X6 (by first | assumption | exact kd_sums (by assumption) | exact kd_st1 (by assumption) | exact kd_st2 (by assumption) | exact kd_ls (by first | assumption | exact kdL (by omega) | exact kdQ (by omega) | rfl) (by assumption) | exact kd_sb (by first | assumption | exact kdL (by omega) | exact kdQ (by omega) | rfl) (by assumption) | exact kd_sv (by assumption) | exact kdL (by omega) | exact kdQ (by omega) | rfl)) rfl rfl (c_X6_hashOfLooks hI (by omega)) qm_X6_236 qi_X6_hashOfLooks qs_X6_hashOfLooks qn_X6 qc_X6_hashOfLooks fit_X6_hashOfLooks ⟨Nat.le_of_ble_eq_true rfl, Nat.le_of_ble_eq_true rfl, Nat.le_of_ble_eq_true rfl, Nat.le_of_ble_eq_true rfl⟩ (Nat.le_of_ble_eq_true rfl) dX6_digest_48 ?_
    refine j_iload_n C dX6_digest_51 rfl rfl ?_
    refine j_callV2r C (oa_X6 (by first | assumption | exact kd_sums (by assumption) | exact kd_st1 (by assumption) | exact kd_st2 (by assumption) | exact kd_ls (by first | assumption | exact kdL (by omega) | exact kdQ (by omega) | rfl) (by assumption) | exact kd_sb (by first | assumption | exact kdL (by omega) | exact kdQ (by omega) | rfl) (by assumption) | exact kd_sv (by assumption) | exact kdL (by omega) | exact kdQ (by omega) | rfl)) rfl rfl (c_X6_hashOfForecasts hI hM (by omega)) qm_X6_240 qi_X6_hashOfForecasts qs_X6_hashOfForecasts qn_X6 qc_X6_hashOfForecasts fit_X6_hashOfForecasts ⟨Nat.le_of_ble_eq_true rfl, Nat.le_of_ble_eq_true rfl, Nat.le_of_ble_eq_true rfl, Nat.le_of_ble_eq_true rfl⟩ (Nat.le_of_ble_eq_true rfl) dX6_digest_52 ?_
    refine j_lst1 C dX6_digest_55 rfl (Nat.le_of_ble_eq_true rfl) rfl ?_
    refine j_incN3 (q := 1) C dX6_digest_56 (by decide) (Nat.le_of_ble_eq_true rfl) rfl ?_
    refine j_goto (tgt := 33) C dX6_digest_59 (by decide) ?_
    refine j_mem (V' := V) (L' := L) (by rfl) rfl ?_
    exact j_dr (lv' := [some (.ref (ad g 223)), some (.long (cDgL V ns h (i + 1))), none, some (.int (nI (i + 1))), none]) (And.intro rfl (And.intro rfl (And.intro rfl True.intro))) (ih (i + 1) (by omega))
set_option maxHeartbeats 4000000 in
theorem lp_X6_dgE {p : Program} {l : Launch} {e : Env} {s : State} {m : MethodId} {args : Array Value} {below : List Frame} {meth : Method} {c : Code} {g : GC} {Q : State → Prop} {V : Mem} {L : LMem} {q nl ns : Nat} {h : Int64} (C : Cx p s args m meth c cX6_digest 5 yX6_digest.cls (some .long) g) (hI : CI nl ns V) (hq : q < ns) (kx : J p l e (RM 7) s m args below meth c 5 g 0 0 Q V L 108 [some (.ref (ad g 223)), some (.long (mixN (V (19 + q)) (6) h)), none, some (.int (nI q)), some (.int (nI (6)))] []) : ∀ j i : Nat, i + j = 6 → J p l e (RM 7) s m args below meth c 5 g 0 0 Q V L 78 [some (.ref (ad g 223)), some (.long (mixN (V (19 + q)) i h)), none, some (.int (nI q)), some (.int (nI i))] [] := by
  intro j
  induction j with
  | zero =>
    intro i hi
    have hi : 6 = i := by omega
    subst hi
    refine j_iload C dX6_digest_78 rfl ?_
    refine j_iconst (v := (nI 5)) C dX6_digest_80 (by decide) ?_
    refine j_icmp_gt (tgt := 108) C dX6_digest_81 (by decide) (fun h81 => ?_) (fun h81 => absurd (nI_lt (by omega) (by omega)) h81)
    exact kx
  | succ j ih =>
    intro i hi
    refine j_iload C dX6_digest_78 rfl ?_
    refine j_iconst (v := (nI 5)) C dX6_digest_80 (by decide) ?_
    refine j_icmp_gt (tgt := 108) C dX6_digest_81 (by decide) (fun h81 => absurd h81 (Int32.not_lt.mpr (nI_le (by omega) (by omega)))) (fun h81 => ?_)
    refine j_ldc2 C qk_X6_231 dX6_digest_84 ?_
    refine j_lload_n C dX6_digest_87 rfl rfl ?_
    refine j_lmul C dX6_digest_88 ?_
    refine j_aload_n C dX6_digest_89 rfl rfl ?_
    refine jg_LeaseBook_now C (by first | assumption | exact kd_sums (by assumption) | exact kd_st1 (by assumption) | exact kd_st2 (by assumption) | exact kd_ls (by first | assumption | exact kdL (by omega) | exact kdQ (by omega) | rfl) (by assumption) | exact kd_sb (by first | assumption | exact kdL (by omega) | exact kdQ (by omega) | rfl) (by assumption) | exact kd_sv (by assumption) | exact kdL (by omega) | exact kdQ (by omega) | rfl) qf_X6_12 dX6_digest_90 ?_
    refine j_iload_n C dX6_digest_93 rfl rfl ?_
    refine j_iload C dX6_digest_94 rfl ?_
    refine j_callV2r C (oa_X4 (by first | assumption | exact kd_sums (by assumption) | exact kd_st1 (by assumption) | exact kd_st2 (by assumption) | exact kd_ls (by first | assumption | exact kdL (by omega) | exact kdQ (by omega) | rfl) (by assumption) | exact kd_sb (by first | assumption | exact kdL (by omega) | exact kdQ (by omega) | rfl) (by assumption) | exact kd_sv (by assumption) | exact kdL (by omega) | exact kdQ (by omega) | rfl)) rfl rfl (c_X4_subleaseProperty hI.2.1 hq (by omega)) qm_X6_166 qi_X4_subleaseProperty qs_X4_subleaseProperty qn_X4 qc_X4_subleaseProperty fit_X4_subleaseProperty ⟨Nat.le_of_ble_eq_true rfl, Nat.le_of_ble_eq_true rfl, Nat.le_of_ble_eq_true rfl, Nat.le_of_ble_eq_true rfl⟩ (Nat.le_of_ble_eq_true rfl) dX6_digest_96 ?_
    refine j_i2l C dX6_digest_99 ?_
    refine j_ladd C dX6_digest_100 ?_
    refine j_lst1 C dX6_digest_101 rfl (Nat.le_of_ble_eq_true rfl) rfl ?_
    refine j_incN4 (q := 1) C dX6_digest_102 (by decide) (Nat.le_of_ble_eq_true rfl) rfl ?_
    refine j_goto (tgt := 78) C dX6_digest_105 (by decide) ?_
    refine j_mem (V' := V) (L' := L) (by rfl) rfl ?_
    exact j_dr (lv' := [some (.ref (ad g 223)), some (.long (mixN (V (19 + q)) (i + 1) h)), none, some (.int (nI q)), some (.int (nI (i + 1)))]) (And.intro rfl (And.intro rfl (And.intro rfl (And.intro rfl True.intro)))) (ih (i + 1) (by omega))
set_option maxHeartbeats 4000000 in
theorem lp_X6_dgC {p : Program} {l : Launch} {e : Env} {s : State} {m : MethodId} {args : Array Value} {below : List Frame} {meth : Method} {c : Code} {g : GC} {Q : State → Prop} {V : Mem} {L : LMem} {nl ns : Nat} {h : Int64} (C : Cx p s args m meth c cX6_digest 5 yX6_digest.cls (some .long) g) (hI : CI nl ns V) (kx : J p l e (RM 7) s m args below meth c 5 g 0 0 Q V L 114 [some (.ref (ad g 223)), some (.long (cDgS V h (ns))), none, some (.int (nI (ns))), none] []) : ∀ j i : Nat, i + j = ns → J p l e (RM 7) s m args below meth c 5 g 0 0 Q V L 64 [some (.ref (ad g 223)), some (.long (cDgS V h i)), none, some (.int (nI i)), none] [] := by
  intro j
  induction j with
  | zero =>
    intro i hi
    have hi : ns = i := by omega
    subst hi
    refine j_iload_n C dX6_digest_64 rfl rfl ?_
    refine j_aload_n C dX6_digest_65 rfl rfl ?_
    refine jg_LeaseBook_now C (by first | assumption | exact kd_sums (by assumption) | exact kd_st1 (by assumption) | exact kd_st2 (by assumption) | exact kd_ls (by first | assumption | exact kdL (by omega) | exact kdQ (by omega) | rfl) (by assumption) | exact kd_sb (by first | assumption | exact kdL (by omega) | exact kdQ (by omega) | rfl) (by assumption) | exact kd_sv (by assumption) | exact kdL (by omega) | exact kdQ (by omega) | rfl) qf_X6_12 dX6_digest_66 ?_
    refine jg_State_subleaseCount C (by first | assumption | exact kd_sums (by assumption) | exact kd_st1 (by assumption) | exact kd_st2 (by assumption) | exact kd_ls (by first | assumption | exact kdL (by omega) | exact kdQ (by omega) | rfl) (by assumption) | exact kd_sb (by first | assumption | exact kdL (by omega) | exact kdQ (by omega) | rfl) (by assumption) | exact kd_sv (by assumption) | exact kdL (by omega) | exact kdQ (by omega) | rfl) qf_X6_160 dX6_digest_69 ?_
    refine j_tope (y := nI ns) (by exact hI.2.1.1) ?_
    refine j_icmp_ge (tgt := 114) C dX6_digest_72 (by decide) (fun h72 => ?_) (fun h72 => absurd (nI_le (by omega) (by have := hI.2.1.2; omega)) h72)
    exact kx
  | succ j ih =>
    intro i hi
    refine j_iload_n C dX6_digest_64 rfl rfl ?_
    refine j_aload_n C dX6_digest_65 rfl rfl ?_
    refine jg_LeaseBook_now C (by first | assumption | exact kd_sums (by assumption) | exact kd_st1 (by assumption) | exact kd_st2 (by assumption) | exact kd_ls (by first | assumption | exact kdL (by omega) | exact kdQ (by omega) | rfl) (by assumption) | exact kd_sb (by first | assumption | exact kdL (by omega) | exact kdQ (by omega) | rfl) (by assumption) | exact kd_sv (by assumption) | exact kdL (by omega) | exact kdQ (by omega) | rfl) qf_X6_12 dX6_digest_66 ?_
    refine jg_State_subleaseCount C (by first | assumption | exact kd_sums (by assumption) | exact kd_st1 (by assumption) | exact kd_st2 (by assumption) | exact kd_ls (by first | assumption | exact kdL (by omega) | exact kdQ (by omega) | rfl) (by assumption) | exact kd_sb (by first | assumption | exact kdL (by omega) | exact kdQ (by omega) | rfl) (by assumption) | exact kd_sv (by assumption) | exact kdL (by omega) | exact kdQ (by omega) | rfl) qf_X6_160 dX6_digest_69 ?_
    refine j_tope (y := nI ns) (by exact hI.2.1.1) ?_
    refine j_icmp_ge (tgt := 114) C dX6_digest_72 (by decide) (fun h72 => absurd h72 (nI_ge (by omega) (by have := hI.2.1.2; omega))) (fun h72 => ?_)
    refine j_iconst (v := (nI 0)) C dX6_digest_75 (by decide) ?_
    refine j_ist4 C dX6_digest_76 (Nat.le_of_ble_eq_true rfl) rfl ?_
    refine lp_X6_dgE (q := i) (h := cDgS V h i) C hI (by omega) ?_ 6 0 (by omega)
    refine j_incN3 (q := 1) C dX6_digest_108 (by decide) (Nat.le_of_ble_eq_true rfl) rfl ?_
    refine j_goto (tgt := 64) C dX6_digest_111 (by decide) ?_
    refine j_mem (V' := V) (L' := L) (by rfl) rfl ?_
    exact j_dr (lv' := [some (.ref (ad g 223)), some (.long (cDgS V h (i + 1))), none, some (.int (nI (i + 1))), none]) (And.intro rfl (And.intro rfl (And.intro rfl True.intro))) (ih (i + 1) (by omega))
set_option maxHeartbeats 4000000 in
theorem lp_X6_dgD {p : Program} {l : Launch} {e : Env} {s : State} {m : MethodId} {args : Array Value} {below : List Frame} {meth : Method} {c : Code} {g : GC} {Q : State → Prop} {V : Mem} {L : LMem} {m0 : Nat} {h : Int64} (C : Cx p s args m meth c cX6_digest 5 yX6_digest.cls (some .long) g) (hm : V 219 1 = nI m0) (h60 : m0 ≤ 60) (kx : J p l e (RM 7) s m args below meth c 5 g 0 0 Q V L 178 [some (.ref (ad g 223)), some (.long (mixN (V 220) (m0) h)), none, some (.int (nI (m0))), none] []) : ∀ j i : Nat, i + j = m0 → J p l e (RM 7) s m args below meth c 5 g 0 0 Q V L 145 [some (.ref (ad g 223)), some (.long (mixN (V 220) i h)), none, some (.int (nI i)), none] [] := by
  intro j
  induction j with
  | zero =>
    intro i hi
    have hi : m0 = i := by omega
    subst hi
    refine j_iload_n C dX6_digest_145 rfl rfl ?_
    refine j_aload_n C dX6_digest_146 rfl rfl ?_
    refine jg_LeaseBook_text C (by first | assumption | exact kd_sums (by assumption) | exact kd_st1 (by assumption) | exact kd_st2 (by assumption) | exact kd_ls (by first | assumption | exact kdL (by omega) | exact kdQ (by omega) | rfl) (by assumption) | exact kd_sb (by first | assumption | exact kdL (by omega) | exact kdQ (by omega) | rfl) (by assumption) | exact kd_sv (by assumption) | exact kdL (by omega) | exact kdQ (by omega) | rfl) qf_X6_26 dX6_digest_147 ?_
    refine jg_InputText_length C (by first | assumption | exact kd_sums (by assumption) | exact kd_st1 (by assumption) | exact kd_st2 (by assumption) | exact kd_ls (by first | assumption | exact kdL (by omega) | exact kdQ (by omega) | rfl) (by assumption) | exact kd_sb (by first | assumption | exact kdL (by omega) | exact kdQ (by omega) | rfl) (by assumption) | exact kd_sv (by assumption) | exact kdL (by omega) | exact kdQ (by omega) | rfl) qf_X6_132 dX6_digest_150 ?_
    refine j_tope (y := nI m0) (by exact hm) ?_
    refine j_icmp_ge (tgt := 178) C dX6_digest_153 (by decide) (fun h153 => ?_) (fun h153 => absurd (nI_le (by omega) (by omega)) h153)
    exact kx
  | succ j ih =>
    intro i hi
    refine j_iload_n C dX6_digest_145 rfl rfl ?_
    refine j_aload_n C dX6_digest_146 rfl rfl ?_
    refine jg_LeaseBook_text C (by first | assumption | exact kd_sums (by assumption) | exact kd_st1 (by assumption) | exact kd_st2 (by assumption) | exact kd_ls (by first | assumption | exact kdL (by omega) | exact kdQ (by omega) | rfl) (by assumption) | exact kd_sb (by first | assumption | exact kdL (by omega) | exact kdQ (by omega) | rfl) (by assumption) | exact kd_sv (by assumption) | exact kdL (by omega) | exact kdQ (by omega) | rfl) qf_X6_26 dX6_digest_147 ?_
    refine jg_InputText_length C (by first | assumption | exact kd_sums (by assumption) | exact kd_st1 (by assumption) | exact kd_st2 (by assumption) | exact kd_ls (by first | assumption | exact kdL (by omega) | exact kdQ (by omega) | rfl) (by assumption) | exact kd_sb (by first | assumption | exact kdL (by omega) | exact kdQ (by omega) | rfl) (by assumption) | exact kd_sv (by assumption) | exact kdL (by omega) | exact kdQ (by omega) | rfl) qf_X6_132 dX6_digest_150 ?_
    refine j_tope (y := nI m0) (by exact hm) ?_
    refine j_icmp_ge (tgt := 178) C dX6_digest_153 (by decide) (fun h153 => absurd h153 (nI_ge (by omega) (by omega))) (fun h153 => ?_)
    refine j_ldc2 C qk_X6_231 dX6_digest_156 ?_
    refine j_lload_n C dX6_digest_159 rfl rfl ?_
    refine j_lmul C dX6_digest_160 ?_
    refine j_aload_n C dX6_digest_161 rfl rfl ?_
    refine jg_LeaseBook_text C (by first | assumption | exact kd_sums (by assumption) | exact kd_st1 (by assumption) | exact kd_st2 (by assumption) | exact kd_ls (by first | assumption | exact kdL (by omega) | exact kdQ (by omega) | rfl) (by assumption) | exact kd_sb (by first | assumption | exact kdL (by omega) | exact kdQ (by omega) | rfl) (by assumption) | exact kd_sv (by assumption) | exact kdL (by omega) | exact kdQ (by omega) | rfl) qf_X6_26 dX6_digest_162 ?_
    refine j_iload_n C dX6_digest_165 rfl rfl ?_
    refine j_callV1r C (oa_X1 (by first | assumption | exact kd_sums (by assumption) | exact kd_st1 (by assumption) | exact kd_st2 (by assumption) | exact kd_ls (by first | assumption | exact kdL (by omega) | exact kdQ (by omega) | rfl) (by assumption) | exact kd_sb (by first | assumption | exact kdL (by omega) | exact kdQ (by omega) | rfl) (by assumption) | exact kd_sv (by assumption) | exact kdL (by omega) | exact kdQ (by omega) | rfl)) rfl rfl (c_X1_codeAt hm (by omega) h60) qm_X6_251 qi_X1_codeAt qs_X1_codeAt qn_X1 qc_X1_codeAt fit_X1_codeAt ⟨Nat.le_of_ble_eq_true rfl, Nat.le_of_ble_eq_true rfl, Nat.le_of_ble_eq_true rfl, Nat.le_of_ble_eq_true rfl⟩ (Nat.le_of_ble_eq_true rfl) dX6_digest_166 ?_
    refine j_i2l C dX6_digest_169 ?_
    refine j_ladd C dX6_digest_170 ?_
    refine j_lst1 C dX6_digest_171 rfl (Nat.le_of_ble_eq_true rfl) rfl ?_
    refine j_incN3 (q := 1) C dX6_digest_172 (by decide) (Nat.le_of_ble_eq_true rfl) rfl ?_
    refine j_goto (tgt := 145) C dX6_digest_175 (by decide) ?_
    refine j_mem (V' := V) (L' := L) (by rfl) rfl ?_
    exact j_dr (lv' := [some (.ref (ad g 223)), some (.long (mixN (V 220) (i + 1) h)), none, some (.int (nI (i + 1))), none]) (And.intro rfl (And.intro rfl (And.intro rfl True.intro))) (ih (i + 1) (by omega))
set_option maxHeartbeats 4000000 in
theorem c_X6_digest {l : Launch} {g : GC} {V : Mem} {L : LMem} {nl ns m0 : Nat} (hI : CI nl ns V) (hM : MI nl V) (hm : V 219 1 = nI m0) (h60 : m0 ≤ 60) (hB : MC l yX6_bitsOf cX6_bitsOf 5 (some .long) 0 g V L [.double (cOff V nl ns)] (some (.long (cOff V nl ns).toInt64)) V L) : MC l yX6_digest cX6_digest 5 (some .long) 7 g V L [.ref (ad g 223)] (some (.long (cDg V nl ns m0))) V L := by
  refine MC.of [some (.ref (ad g 223)), none, none, none, none] (by decide +kernel) rfl (Nat.le_of_ble_eq_true rfl) (fun p e s m args below meth c C => ?_)
  refine j_ldc2 C qk_X6_229 dX6_digest_0 ?_
  refine j_lst1 C dX6_digest_3 rfl (Nat.le_of_ble_eq_true rfl) rfl ?_
  refine j_iconst (v := (nI 0)) C dX6_digest_4 (by decide) ?_
  refine j_ist3 C dX6_digest_5 rfl (Nat.le_of_ble_eq_true rfl) rfl ?_
  refine lp_X6_dgA (h := 2467) C hI ?_ 11 0 (by omega)
  refine j_iconst (v := (nI 0)) C dX6_digest_31 (by decide) ?_
  refine j_ist3 C dX6_digest_32 rfl (Nat.le_of_ble_eq_true rfl) rfl ?_
  refine lp_X6_dgB (h := (mixN (cCount V nl ns) 11 2467)) C hI hM ?_ nl 0 (by omega)
  refine j_iconst (v := (nI 0)) C dX6_digest_62 (by decide) ?_
  refine j_ist3 C dX6_digest_63 rfl (Nat.le_of_ble_eq_true rfl) rfl ?_
  refine lp_X6_dgC (h := (cDgL V ns (mixN (cCount V nl ns) 11 2467) nl)) C hI ?_ ns 0 (by omega)
  refine j_ldc2 C qk_X6_231 dX6_digest_114 ?_
  refine j_lload_n C dX6_digest_117 rfl rfl ?_
  refine j_lmul C dX6_digest_118 ?_
  refine j_aload_n C dX6_digest_119 rfl rfl ?_
  refine j_callV0r C (oa_X6 (by first | assumption | exact kd_sums (by assumption) | exact kd_st1 (by assumption) | exact kd_st2 (by assumption) | exact kd_ls (by first | assumption | exact kdL (by omega) | exact kdQ (by omega) | rfl) (by assumption) | exact kd_sb (by first | assumption | exact kdL (by omega) | exact kdQ (by omega) | rfl) (by assumption) | exact kd_sv (by assumption) | exact kdL (by omega) | exact kdQ (by omega) | rfl)) rfl rfl (c_X6_offShare hI) qm_X6_243 qi_X6_offShare qs_X6_offShare qn_X6 qc_X6_offShare fit_X6_offShare ⟨Nat.le_of_ble_eq_true rfl, Nat.le_of_ble_eq_true rfl, Nat.le_of_ble_eq_true rfl, Nat.le_of_ble_eq_true rfl⟩ (Nat.le_of_ble_eq_true rfl) dX6_digest_120 ?_
  refine j_callS1r C (hB) qm_X6_247 qt_X6_bitsOf qn_X6 qc_X6_bitsOf fit_X6_bitsOf ⟨Nat.le_of_ble_eq_true rfl, Nat.le_of_ble_eq_true rfl, Nat.le_of_ble_eq_true rfl, Nat.le_of_ble_eq_true rfl⟩ (Nat.le_of_ble_eq_true rfl) dX6_digest_123 ?_
  refine j_ladd C dX6_digest_126 ?_
  refine j_lst1 C dX6_digest_127 rfl (Nat.le_of_ble_eq_true rfl) rfl ?_
  refine j_ldc2 C qk_X6_231 dX6_digest_128 ?_
  refine j_lload_n C dX6_digest_131 rfl rfl ?_
  refine j_lmul C dX6_digest_132 ?_
  refine j_aload_n C dX6_digest_133 rfl rfl ?_
  refine jg_LeaseBook_text C (by first | assumption | exact kd_sums (by assumption) | exact kd_st1 (by assumption) | exact kd_st2 (by assumption) | exact kd_ls (by first | assumption | exact kdL (by omega) | exact kdQ (by omega) | rfl) (by assumption) | exact kd_sb (by first | assumption | exact kdL (by omega) | exact kdQ (by omega) | rfl) (by assumption) | exact kd_sv (by assumption) | exact kdL (by omega) | exact kdQ (by omega) | rfl) qf_X6_26 dX6_digest_134 ?_
  refine jg_InputText_length C (by first | assumption | exact kd_sums (by assumption) | exact kd_st1 (by assumption) | exact kd_st2 (by assumption) | exact kd_ls (by first | assumption | exact kdL (by omega) | exact kdQ (by omega) | rfl) (by assumption) | exact kd_sb (by first | assumption | exact kdL (by omega) | exact kdQ (by omega) | rfl) (by assumption) | exact kd_sv (by assumption) | exact kdL (by omega) | exact kdQ (by omega) | rfl) qf_X6_132 dX6_digest_137 ?_
  refine j_tope (y := nI m0) (by exact hm) ?_
  refine j_i2l C dX6_digest_140 ?_
  refine j_ladd C dX6_digest_141 ?_
  refine j_lst1 C dX6_digest_142 rfl (Nat.le_of_ble_eq_true rfl) rfl ?_
  refine j_iconst (v := (nI 0)) C dX6_digest_143 (by decide) ?_
  refine j_ist3 C dX6_digest_144 rfl (Nat.le_of_ble_eq_true rfl) rfl ?_
  refine lp_X6_dgD (h := (31 * (31 * (cDgS V (cDgL V ns (mixN (cCount V nl ns) 11 2467) nl) ns) + (cOff V nl ns).toInt64) + (nI m0).toInt64)) C hm h60 ?_ m0 0 (by omega)
  refine j_lload_n C dX6_digest_178 rfl rfl ?_
  exact j_lret C dX6_digest_179 (by rfl) (by rfl) (by rfl)
