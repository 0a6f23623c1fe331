/-! THE MODEL'S DIGEST (laid by wip/whole/p23.py) -/
section
variable {p : Program} {l : Launch} {e : Env} {R : Room} {s : State} {m : MethodId} {args : Array Value} {below : List Frame} {meth : Method} {c : Code} {cc : ByteArray} {nL : Nat} {own : String} {ret : Option FieldType} {g : GC} {cells slots pc : Nat} {Q : State → Prop} {V : Mem} {L : LMem} {lv : List (Option Value)} {st : List Value}
theorem j_d2raw (C : Cx p s args m meth c cc nL own ret g) {b : UInt64} {i : Nat} (h1 : Cond.methodLink own i ⟨"java/lang/Double", "doubleToRawLongBits", "(D)J"⟩ ∈ TG) (h2 : Cond.native ⟨"java/lang/Double", "doubleToRawLongBits", "(D)J"⟩ ∈ TG) (h3 : Cond.static ⟨"java/lang/Double", "doubleToRawLongBits", "(D)J"⟩ ∈ TG) (h4 : Cond.initialized "java/lang/Double" ∈ TG) (hf : 1 ≤ R.frames) (ho : (st.map fun v => v.category).sum + 15 ≤ R.locals) (hd : decode cc pc = .ok (.invokestatic i, 3)) (k : J p l e R s m args below meth c nL g cells slots Q V L (pc + 3) lv (.long b.toInt64 :: st)) : J p l e R s m args below meth c nL g cells slots Q V L pc lv (.double b :: st) := fun H locs ls hw hl => vn_d2l C.1 C.2.1 (C.2.2.1.trans hl.1.symm) C.2.2.2.1 (C.2.2.2.2.1 _ h1) (C.2.2.2.2.1 _ h2) (C.2.2.2.2.1 _ h3) (C.2.2.2.2.1 _ h4) hf ho hd (k H locs ls hw hl)
end
theorem qm_Jxe99ae_134 : Cond.methodLink RJxe99ae 134 ⟨"java/lang/Double", "doubleToRawLongBits", "(D)J"⟩ ∈ TG := TG_ix 1153 (by decide +kernel) (by decide +kernel)
theorem qt_raw : Cond.static ⟨"java/lang/Double", "doubleToRawLongBits", "(D)J"⟩ ∈ TG := TG_ix 1154 (by decide +kernel) (by decide +kernel)
theorem qv_raw : Cond.native ⟨"java/lang/Double", "doubleToRawLongBits", "(D)J"⟩ ∈ TG := TG_ix 1155 (by decide +kernel) (by decide +kernel)
theorem dcmp_self {x : UInt64} (h : vf_n64 x) : Op.cmpValue (FP.dcmp x x) .l = nI 0 := by
  have h1 : FP.dcmp x x = some .eq := Jvm.FP.Core.dcmp_refl (Jvm.Free.Fl.noNaN64_no.mp h)
  rw [h1]
  rfl

set_option maxHeartbeats 4000000 in
theorem c_Jxe99ae_isNaN_b9ae7 {l : Launch} {g : GC} {V : Mem} {L : LMem} {x : UInt64} (h : vf_n64 x) : MC l yJxe99ae_isNaN_b9ae7 cJxe99ae_isNaN_b9ae7 2 (some .boolean) 0 g V L [.double x] (some (.int (nI 0))) V L := by
  refine MC.of [some (.double x), none] (by decide +kernel) rfl (Nat.le_of_ble_eq_true rfl) (fun p e s m args below meth c C => ?_)
  refine j_dload_n C dJxe99ae_isNaN_b9ae7_0 rfl rfl ?_
  refine j_dload_n C dJxe99ae_isNaN_b9ae7_1 rfl rfl ?_
  refine j_dcmp C dJxe99ae_isNaN_b9ae7_2 ?_
  refine j_if_eq (tgt := 10) C dJxe99ae_isNaN_b9ae7_3 (by decide) (fun h3 => ?_) (fun h3 => absurd (dcmp_self h) h3)
  refine j_iconst (v := (nI 0)) C dJxe99ae_isNaN_b9ae7_10 (by decide) ?_
  exact j_zret C dJxe99ae_isNaN_b9ae7_11 (by first | rfl | exact nar_b2i) rfl rfl rfl
set_option maxHeartbeats 4000000 in
theorem c_Jxe99ae_doubleToLongBits_ccdee {l : Launch} {g : GC} {V : Mem} {L : LMem} {x : UInt64} (h : vf_n64 x) : MC l yJxe99ae_doubleToLongBits_ccdee cJxe99ae_doubleToLongBits_ccdee 2 (some .long) 1 g V L [.double x] (some (.long x.toInt64)) V L := by
  refine MC.of [some (.double x), none] (by decide +kernel) rfl (Nat.le_of_ble_eq_true rfl) (fun p e s m args below meth c C => ?_)
  refine j_dload_n C dJxe99ae_doubleToLongBits_ccdee_0 rfl rfl ?_
  refine j_callS1r C (c_Jxe99ae_isNaN_b9ae7 h) qm_Jxe99ae_122 qt_Jxe99ae_isNaN_b9ae7 qn_Jxe99ae qc_Jxe99ae_isNaN_b9ae7 ⟨by decide +kernel, by decide +kernel, by decide +kernel⟩ ⟨Nat.le_of_ble_eq_true rfl, Nat.le_of_ble_eq_true rfl, Nat.le_of_ble_eq_true rfl, Nat.le_of_ble_eq_true rfl⟩ (Nat.le_of_ble_eq_true rfl) dJxe99ae_doubleToLongBits_ccdee_1 ?_
  refine j_if_ne (tgt := 12) C dJxe99ae_doubleToLongBits_ccdee_4 (by decide) (fun h4 => absurd rfl h4) (fun h4 => ?_)
  refine j_dload_n C dJxe99ae_doubleToLongBits_ccdee_7 rfl rfl ?_
  refine j_d2raw C qm_Jxe99ae_134 qv_raw qt_raw qn_Jxe99ae (Nat.le_of_ble_eq_true rfl) (Nat.le_of_ble_eq_true rfl) dJxe99ae_doubleToLongBits_ccdee_8 ?_
  exact j_lret C dJxe99ae_doubleToLongBits_ccdee_11 rfl rfl rfl
def mixN (f : Nat → Int32) : Nat → Int64 → Int64
  | 0, h => h
  | n + 1, h => 31 * mixN f n h + (f n).toInt64
theorem mixN_0 {f : Nat → Int32} {h : Int64} : mixN f 0 h = h := rfl
theorem lset_lset {L : LMem} {a b : Int64} : lset (lset L 0 a) 0 b = lset L 0 b := by
  funext j
  simp only [lset]
  by_cases h : j = 0
  · rw [if_pos h, if_pos h]
  · rw [if_neg h, if_neg h, if_neg h]
theorem lset_id {L : LMem} : lset L 0 (L 0) = L := by
  funext j
  simp only [lset]
  by_cases h : j = 0
  · rw [if_pos h, h]
  · rw [if_neg h]
def rAsN (V : Mem) : Nat → Mem
  | 0 => V
  | i + 1 => rAside (rAsN V i)
theorem rAsN_as {V : Mem} : ∀ i, rAside (rAsN V i) = rAside V
  | 0 => rfl
  | i + 1 => rAside_2.trans (rAsN_as i)
theorem rAsN_row {V : Mem} {a : Nat} (h : a ≠ 227) : ∀ i, rAsN V i a = V a
  | 0 => rfl
  | i + 1 => (rAside_row h).trans (rAsN_row h i)
theorem rAsN_s {V : Mem} : ∀ i, 0 < i → rAsN V i = rAside V
  | 0, h => absurd h (by decide)
  | i + 1, _ => rAsN_as i
theorem RR.asn {nl ns : Nat} {V : Mem} (h : RR nl ns V) (i : Nat) : RR nl ns (rAsN V i) := h.row (rAsN_row (by decide) i)
def rDM (V : Mem) (k ns w : Nat) : Int32 := if rRuns V k then rMsd (rAside V) k ns (V 225 (3 + 22 * k)) (nI 12) (V 225 (3 + 22 * k + 2)) w else -1
def rMix (V : Mem) (k ns : Nat) (h : Int64) : Int64 :=
  let W := rAside V
  let h1 := mixN (rLeaseOf V k ns) 9 h
  let h2 := mixN (rMoved V k) 17 h1
  let h3 := 31 * h2 + (rProf0 V k).toInt64
  let h4 := 31 * h3 + (rProf1 V k ns).toInt64
  let h5 := mixN (rPlan W k ns 3) 4 h4
  let h6 := mixN (rDM W k ns) 3 h5
  31 * (31 * (31 * h6 + (rPay W k (nI 50000)).toInt64) + (rRate W k).toInt64) + (rRec W k ns (nI 100) (nI 1)).toInt64
def rDgL (V : Mem) (ns : Nat) (h : Int64) : Nat → Int64
  | 0 => h
  | k + 1 => rMix (rAsN V k) k ns (rDgL V ns h k)
def rDg (V : Mem) (nl ns bm : Nat) : Int64 :=
  let W := rAsN V nl
  let h1 := mixN (rCount V nl ns) 11 2467
  let h2 := rDgL V ns h1 nl
  let h3 := mixN (fun i => W 225 (179 + i)) (6 * ns) h2
  let h4 := 31 * h3 + (rOff W nl ns).toInt64
  let h5 := 31 * h4 + (nI bm).toInt64
  mixN (W 228) bm h5
set_option maxHeartbeats 4000000 in
theorem lp_X7_mixA {p : Program} {l : Launch} {e : Env} {s : State} {m : MethodId} {args : Array Value} {below : List Frame} {meth : Method} {c : Code} {g : GC} {Q : State → Prop} {V : Mem} {L : LMem} {k nl ns : Nat} {h : Int64} (C : Cx p s args m meth c cX7_mixLease 3 yX7_mixLease.cls (Option.none : Option Jvm.ClassFile.FieldType) g) (hk : k < nl) (hR : RR nl ns V) (kx : J p l e (RM 5) s m args below meth c 3 g 0 0 Q V (lset L 0 (mixN (rLeaseOf V k ns) (9) h)) 25 [some (.ref (ad g 224)), some (.int (nI k)), some (.int (nI (9)))] []) : ∀ j i : Nat, i + j = 9 → J p l e (RM 5) s m args below meth c 3 g 0 0 Q V (lset L 0 (mixN (rLeaseOf V k ns) i h)) 2 [some (.ref (ad g 224)), some (.int (nI k)), some (.int (nI i))] [] := by
  intro j
  induction j with
  | zero =>
    intro i hi
    have hi : 9 = i := by omega
    subst hi
    refine j_iload_n C dX7_mixLease_2 rfl rfl ?_
    refine j_bipush (v := (nI 9)) C dX7_mixLease_3 (by decide) ?_
    refine j_icmp_ge (tgt := 25) C dX7_mixLease_5 (by decide) (fun h5 => ?_) (fun h5 => absurd (nI_le (by omega) (by omega)) h5)
    exact kx
  | succ j ih =>
    intro i hi
    have hk8 : k < 8 := Nat.lt_of_lt_of_le hk hR.1
    refine j_iload_n C dX7_mixLease_2 rfl rfl ?_
    refine j_bipush (v := (nI 9)) C dX7_mixLease_3 (by decide) ?_
    refine j_icmp_ge (tgt := 25) C dX7_mixLease_5 (by decide) (fun h5 => absurd h5 (nI_ge (by omega) (by omega))) (fun h5 => ?_)
    refine j_aload_n C dX7_mixLease_8 rfl rfl ?_
    refine j_aload_n C dX7_mixLease_9 rfl rfl ?_
    refine j_iload_n C dX7_mixLease_10 rfl rfl ?_
    refine j_iload_n C dX7_mixLease_11 rfl rfl ?_
    refine j_callV2r C (oa_X7 (by first | assumption | rfl | exact kd_sums (by assumption) | exact kd_st1 (by assumption) | exact kd_st2 (by assumption) | exact kd_ls (by first | assumption | rfl) (by assumption) | exact kd_sb (by first | assumption | rfl) (by assumption) | exact kd_sv (by assumption))) rfl rfl (c_X7_leaseOf hk8 (by omega) hR) qm_X7_140 qi_X7_leaseOf qs_X7_leaseOf qn_X7 qc_X7_leaseOf fit_X7_leaseOf ⟨Nat.le_of_ble_eq_true rfl, Nat.le_of_ble_eq_true rfl, Nat.le_of_ble_eq_true rfl, Nat.le_of_ble_eq_true rfl⟩ (Nat.le_of_ble_eq_true rfl) dX7_mixLease_12 ?_
    refine j_i2l C dX7_mixLease_15 ?_
    refine j_callV1v C (oa_X7 (by first | assumption | rfl | exact kd_sums (by assumption) | exact kd_st1 (by assumption) | exact kd_st2 (by assumption) | exact kd_ls (by first | assumption | rfl) (by assumption) | exact kd_sb (by first | assumption | rfl) (by assumption) | exact kd_sv (by assumption))) rfl rfl (c_X7_mix) qm_X7_197 qi_X7_mix qs_X7_mix qn_X7 qc_X7_mix fit_X7_mix ⟨Nat.le_of_ble_eq_true rfl, Nat.le_of_ble_eq_true rfl, Nat.le_of_ble_eq_true rfl, Nat.le_of_ble_eq_true rfl⟩ (Nat.le_of_ble_eq_true rfl) dX7_mixLease_16 ?_
    refine j_mem rfl lset_lset.symm ?_
    refine j_incN2 (q := 1) C dX7_mixLease_19 (by decide) (Nat.le_of_ble_eq_true rfl) rfl ?_
    refine j_goto (tgt := 2) C dX7_mixLease_22 (by decide) ?_
    refine j_mem (V' := V) (L' := (lset L 0 (mixN (rLeaseOf V k ns) (i + 1) h))) (by rfl) rfl ?_
    exact j_dr (lv' := [some (.ref (ad g 224)), some (.int (nI k)), some (.int (nI (i + 1)))]) (And.intro rfl (And.intro rfl (And.intro rfl True.intro))) (ih (i + 1) (by omega))
set_option maxHeartbeats 4000000 in
theorem lp_X7_mixB {p : Program} {l : Launch} {e : Env} {s : State} {m : MethodId} {args : Array Value} {below : List Frame} {meth : Method} {c : Code} {g : GC} {Q : State → Prop} {V : Mem} {L : LMem} {k nl ns : Nat} {h : Int64} (C : Cx p s args m meth c cX7_mixLease 3 yX7_mixLease.cls (Option.none : Option Jvm.ClassFile.FieldType) g) (hk : k < nl) (hR : RR nl ns V) (kx : J p l e (RM 5) s m args below meth c 3 g 0 0 Q V (lset L 0 (mixN (rMoved V k) (17) h)) 50 [some (.ref (ad g 224)), some (.int (nI k)), some (.int (nI (17)))] []) : ∀ j i : Nat, i + j = 17 → J p l e (RM 5) s m args below meth c 3 g 0 0 Q V (lset L 0 (mixN (rMoved V k) i h)) 27 [some (.ref (ad g 224)), some (.int (nI k)), some (.int (nI i))] [] := by
  intro j
  induction j with
  | zero =>
    intro i hi
    have hi : 17 = i := by omega
    subst hi
    refine j_iload_n C dX7_mixLease_27 rfl rfl ?_
    refine j_bipush (v := (nI 17)) C dX7_mixLease_28 (by decide) ?_
    refine j_icmp_ge (tgt := 50) C dX7_mixLease_30 (by decide) (fun h30 => ?_) (fun h30 => absurd (nI_le (by omega) (by omega)) h30)
    exact kx
  | succ j ih =>
    intro i hi
    have hk8 : k < 8 := Nat.lt_of_lt_of_le hk hR.1
    refine j_iload_n C dX7_mixLease_27 rfl rfl ?_
    refine j_bipush (v := (nI 17)) C dX7_mixLease_28 (by decide) ?_
    refine j_icmp_ge (tgt := 50) C dX7_mixLease_30 (by decide) (fun h30 => absurd h30 (nI_ge (by omega) (by omega))) (fun h30 => ?_)
    refine j_aload_n C dX7_mixLease_33 rfl rfl ?_
    refine j_aload_n C dX7_mixLease_34 rfl rfl ?_
    refine j_iload_n C dX7_mixLease_35 rfl rfl ?_
    refine j_iload_n C dX7_mixLease_36 rfl rfl ?_
    refine j_callV2r C (oa_X7 (by first | assumption | rfl | exact kd_sums (by assumption) | exact kd_st1 (by assumption) | exact kd_st2 (by assumption) | exact kd_ls (by first | assumption | rfl) (by assumption) | exact kd_sb (by first | assumption | rfl) (by assumption) | exact kd_sv (by assumption))) rfl rfl (c_X7_moved hk8 (by omega)) qm_X7_143 qi_X7_moved qs_X7_moved qn_X7 qc_X7_moved fit_X7_moved ⟨Nat.le_of_ble_eq_true rfl, Nat.le_of_ble_eq_true rfl, Nat.le_of_ble_eq_true rfl, Nat.le_of_ble_eq_true rfl⟩ (Nat.le_of_ble_eq_true rfl) dX7_mixLease_37 ?_
    refine j_i2l C dX7_mixLease_40 ?_
    refine j_callV1v C (oa_X7 (by first | assumption | rfl | exact kd_sums (by assumption) | exact kd_st1 (by assumption) | exact kd_st2 (by assumption) | exact kd_ls (by first | assumption | rfl) (by assumption) | exact kd_sb (by first | assumption | rfl) (by assumption) | exact kd_sv (by assumption))) rfl rfl (c_X7_mix) qm_X7_197 qi_X7_mix qs_X7_mix qn_X7 qc_X7_mix fit_X7_mix ⟨Nat.le_of_ble_eq_true rfl, Nat.le_of_ble_eq_true rfl, Nat.le_of_ble_eq_true rfl, Nat.le_of_ble_eq_true rfl⟩ (Nat.le_of_ble_eq_true rfl) dX7_mixLease_41 ?_
    refine j_mem rfl lset_lset.symm ?_
    refine j_incN2 (q := 1) C dX7_mixLease_44 (by decide) (Nat.le_of_ble_eq_true rfl) rfl ?_
    refine j_goto (tgt := 27) C dX7_mixLease_47 (by decide) ?_
    refine j_mem (V' := V) (L' := (lset L 0 (mixN (rMoved V k) (i + 1) h))) (by rfl) rfl ?_
    exact j_dr (lv' := [some (.ref (ad g 224)), some (.int (nI k)), some (.int (nI (i + 1)))]) (And.intro rfl (And.intro rfl (And.intro rfl True.intro))) (ih (i + 1) (by omega))
set_option maxHeartbeats 4000000 in
theorem lp_X7_mixC {p : Program} {l : Launch} {e : Env} {s : State} {m : MethodId} {args : Array Value} {below : List Frame} {meth : Method} {c : Code} {g : GC} {Q : State → Prop} {V : Mem} {L : LMem} {k nl ns : Nat} {h : Int64} (C : Cx p s args m meth c cX7_mixLease 3 yX7_mixLease.cls (Option.none : Option Jvm.ClassFile.FieldType) g) (hk : k < nl) (hR : RR nl ns V) (kx : J p l e (RM 5) s m args below meth c 3 g 0 0 Q (rAsN V (4)) (lset L 0 (mixN (rPlan (rAside V) k ns 3) (4) h)) 97 [some (.ref (ad g 224)), some (.int (nI k)), some (.int (nI (4)))] []) : ∀ j i : Nat, i + j = 4 → J p l e (RM 5) s m args below meth c 3 g 0 0 Q (rAsN V i) (lset L 0 (mixN (rPlan (rAside V) k ns 3) i h)) 74 [some (.ref (ad g 224)), some (.int (nI k)), some (.int (nI i))] [] := by
  intro j
  induction j with
  | zero =>
    intro i hi
    have hi : 4 = i := by omega
    subst hi
    refine j_iload_n C dX7_mixLease_74 rfl rfl ?_
    refine j_iconst (v := (nI 4)) C dX7_mixLease_75 (by decide) ?_
    refine j_icmp_ge (tgt := 97) C dX7_mixLease_76 (by decide) (fun h76 => ?_) (fun h76 => absurd (nI_le (by omega) (by omega)) h76)
    exact kx
  | succ j ih =>
    intro i hi
    have hk8 : k < 8 := Nat.lt_of_lt_of_le hk hR.1
    refine j_iload_n C dX7_mixLease_74 rfl rfl ?_
    refine j_iconst (v := (nI 4)) C dX7_mixLease_75 (by decide) ?_
    refine j_icmp_ge (tgt := 97) C dX7_mixLease_76 (by decide) (fun h76 => absurd h76 (nI_ge (by omega) (by omega))) (fun h76 => ?_)
    refine j_aload_n C dX7_mixLease_79 rfl rfl ?_
    refine j_aload_n C dX7_mixLease_80 rfl rfl ?_
    refine j_iload_n C dX7_mixLease_81 rfl rfl ?_
    refine j_iconst (v := (nI 3)) C dX7_mixLease_82 (by decide) ?_
    refine j_iload_n C dX7_mixLease_83 rfl rfl ?_
    refine j_callV3r C (oa_X7 (by first | assumption | rfl | exact kd_sums (by assumption) | exact kd_st1 (by assumption) | exact kd_st2 (by assumption) | exact kd_ls (by first | assumption | rfl) (by assumption) | exact kd_sb (by first | assumption | rfl) (by assumption) | exact kd_sv (by assumption))) rfl rfl (c_X7_planOf hk (by omega) (by omega) (hR.asn i)) qm_X7_170 qi_X7_planOf qs_X7_planOf qn_X7 qc_X7_planOf fit_X7_planOf ⟨Nat.le_of_ble_eq_true rfl, Nat.le_of_ble_eq_true rfl, Nat.le_of_ble_eq_true rfl, Nat.le_of_ble_eq_true rfl⟩ (Nat.le_of_ble_eq_true rfl) dX7_mixLease_84 ?_
    refine j_tope (y := rPlan (rAside V) k ns 3 i) (by rw [rAsN_as]) ?_
    refine j_i2l C dX7_mixLease_87 ?_
    refine j_callV1v C (oa_X7 (by first | assumption | rfl | exact kd_sums (by assumption) | exact kd_st1 (by assumption) | exact kd_st2 (by assumption) | exact kd_ls (by first | assumption | rfl) (by assumption) | exact kd_sb (by first | assumption | rfl) (by assumption) | exact kd_sv (by assumption))) rfl rfl (c_X7_mix) qm_X7_197 qi_X7_mix qs_X7_mix qn_X7 qc_X7_mix fit_X7_mix ⟨Nat.le_of_ble_eq_true rfl, Nat.le_of_ble_eq_true rfl, Nat.le_of_ble_eq_true rfl, Nat.le_of_ble_eq_true rfl⟩ (Nat.le_of_ble_eq_true rfl) dX7_mixLease_88 ?_
    refine j_mem rfl lset_lset.symm ?_
    refine j_incN2 (q := 1) C dX7_mixLease_91 (by decide) (Nat.le_of_ble_eq_true rfl) rfl ?_
    refine j_goto (tgt := 74) C dX7_mixLease_94 (by decide) ?_
    refine j_mem (V' := (rAsN V (i + 1))) (L' := (lset L 0 (mixN (rPlan (rAside V) k ns 3) (i + 1) h))) (by rfl) rfl ?_
    exact j_dr (lv' := [some (.ref (ad g 224)), some (.int (nI k)), some (.int (nI (i + 1)))]) (And.intro rfl (And.intro rfl (And.intro rfl True.intro))) (ih (i + 1) (by omega))
set_option maxHeartbeats 4000000 in
theorem lp_X7_mixD {p : Program} {l : Launch} {e : Env} {s : State} {m : MethodId} {args : Array Value} {below : List Frame} {meth : Method} {c : Code} {g : GC} {Q : State → Prop} {V : Mem} {L : LMem} {k nl ns : Nat} {h : Int64} (C : Cx p s args m meth c cX7_mixLease 3 yX7_mixLease.cls (Option.none : Option Jvm.ClassFile.FieldType) g) (hk : k < nl) (hR : RR nl ns V) (hA : rAside V = V) (kx : J p l e (RM 5) s m args below meth c 3 g 0 0 Q V (lset L 0 (mixN (rDM V k ns) (3) h)) 143 [some (.ref (ad g 224)), some (.int (nI k)), some (.int (nI (3)))] []) : ∀ j i : Nat, i + j = 3 → J p l e (RM 5) s m args below meth c 3 g 0 0 Q V (lset L 0 (mixN (rDM V k ns) i h)) 99 [some (.ref (ad g 224)), some (.int (nI k)), some (.int (nI i))] [] := by
  intro j
  induction j with
  | zero =>
    intro i hi
    have hi : 3 = i := by omega
    subst hi
    refine j_iload_n C dX7_mixLease_99 rfl rfl ?_
    refine j_iconst (v := (nI 3)) C dX7_mixLease_100 (by decide) ?_
    refine j_icmp_ge (tgt := 143) C dX7_mixLease_101 (by decide) (fun h101 => ?_) (fun h101 => absurd (nI_le (by omega) (by omega)) h101)
    exact kx
  | succ j ih =>
    intro i hi
    have hk8 : k < 8 := Nat.lt_of_lt_of_le hk hR.1
    refine j_iload_n C dX7_mixLease_99 rfl rfl ?_
    refine j_iconst (v := (nI 3)) C dX7_mixLease_100 (by decide) ?_
    refine j_icmp_ge (tgt := 143) C dX7_mixLease_101 (by decide) (fun h101 => absurd h101 (nI_ge (by omega) (by omega))) (fun h101 => ?_)
    refine j_aload_n C dX7_mixLease_104 rfl rfl ?_
    refine j_aload_n C dX7_mixLease_105 rfl rfl ?_
    refine j_iload_n C dX7_mixLease_106 rfl rfl ?_
    refine j_aload_n C dX7_mixLease_107 rfl rfl ?_
    refine jg_LeaseBookModel_z C (by first | assumption | rfl | exact kd_sums (by assumption) | exact kd_st1 (by assumption) | exact kd_st2 (by assumption) | exact kd_ls (by first | assumption | rfl) (by assumption) | exact kd_sb (by first | assumption | rfl) (by assumption) | exact kd_sv (by assumption)) qf_X7_7 dX7_mixLease_108 ?_
    refine j_iload_n C dX7_mixLease_111 rfl rfl ?_
    refine j_callS1r C (c_X7_at) qm_X7_32 qt_X7_at qn_X7 qc_X7_at fit_X7_at ⟨Nat.le_of_ble_eq_true rfl, Nat.le_of_ble_eq_true rfl, Nat.le_of_ble_eq_true rfl, Nat.le_of_ble_eq_true rfl⟩ (Nat.le_of_ble_eq_true rfl) dX7_mixLease_112 ?_
    refine j_ialdN C (by first | assumption | rfl | exact kd_sums (by assumption) | exact kd_st1 (by assumption) | exact kd_st2 (by assumption) | exact kd_ls (by first | assumption | rfl) (by assumption) | exact kd_sb (by first | assumption | rfl) (by assumption) | exact kd_sv (by assumption)) rfl rfl (by omega) dX7_mixLease_115 ?_
    refine j_bipush (v := (nI 12)) C dX7_mixLease_116 (by decide) ?_
    refine j_aload_n C dX7_mixLease_118 rfl rfl ?_
    refine jg_LeaseBookModel_z C (by first | assumption | rfl | exact kd_sums (by assumption) | exact kd_st1 (by assumption) | exact kd_st2 (by assumption) | exact kd_ls (by first | assumption | rfl) (by assumption) | exact kd_sb (by first | assumption | rfl) (by assumption) | exact kd_sv (by assumption)) qf_X7_7 dX7_mixLease_119 ?_
    refine j_iload_n C dX7_mixLease_122 rfl rfl ?_
    refine j_callS1r C (c_X7_at) qm_X7_32 qt_X7_at qn_X7 qc_X7_at fit_X7_at ⟨Nat.le_of_ble_eq_true rfl, Nat.le_of_ble_eq_true rfl, Nat.le_of_ble_eq_true rfl, Nat.le_of_ble_eq_true rfl⟩ (Nat.le_of_ble_eq_true rfl) dX7_mixLease_123 ?_
    refine j_iconst (v := (nI 2)) C dX7_mixLease_126 (by decide) ?_
    refine j_iaddN C dX7_mixLease_127 ?_
    refine j_ialdN C (by first | assumption | rfl | exact kd_sums (by assumption) | exact kd_st1 (by assumption) | exact kd_st2 (by assumption) | exact kd_ls (by first | assumption | rfl) (by assumption) | exact kd_sb (by first | assumption | rfl) (by assumption) | exact kd_sv (by assumption)) rfl rfl (by omega) dX7_mixLease_128 ?_
    refine j_iload_n C dX7_mixLease_129 rfl rfl ?_
    refine j_callV5r C (oa_X7 (by first | assumption | rfl | exact kd_sums (by assumption) | exact kd_st1 (by assumption) | exact kd_st2 (by assumption) | exact kd_ls (by first | assumption | rfl) (by assumption) | exact kd_sb (by first | assumption | rfl) (by assumption) | exact kd_sv (by assumption))) rfl rfl (c_X7_measuredOf hk8 (by omega) (hR.2.2.2.2.1 k hk) hR) qm_X7_173 qi_X7_measuredOf qs_X7_measuredOf qn_X7 qc_X7_measuredOf fit_X7_measuredOf ⟨Nat.le_of_ble_eq_true rfl, Nat.le_of_ble_eq_true rfl, Nat.le_of_ble_eq_true rfl, Nat.le_of_ble_eq_true rfl⟩ (Nat.le_of_ble_eq_true rfl) dX7_mixLease_130 ?_
    refine j_mem (V' := V) (by split; (· exact hA.symm); (· rfl)) rfl ?_
    refine j_i2l C dX7_mixLease_133 ?_
    refine j_callV1v C (oa_X7 (by first | assumption | rfl | exact kd_sums (by assumption) | exact kd_st1 (by assumption) | exact kd_st2 (by assumption) | exact kd_ls (by first | assumption | rfl) (by assumption) | exact kd_sb (by first | assumption | rfl) (by assumption) | exact kd_sv (by assumption))) rfl rfl (c_X7_mix) qm_X7_197 qi_X7_mix qs_X7_mix qn_X7 qc_X7_mix fit_X7_mix ⟨Nat.le_of_ble_eq_true rfl, Nat.le_of_ble_eq_true rfl, Nat.le_of_ble_eq_true rfl, Nat.le_of_ble_eq_true rfl⟩ (Nat.le_of_ble_eq_true rfl) dX7_mixLease_134 ?_
    refine j_mem rfl lset_lset.symm ?_
    refine j_incN2 (q := 1) C dX7_mixLease_137 (by decide) (Nat.le_of_ble_eq_true rfl) rfl ?_
    refine j_goto (tgt := 99) C dX7_mixLease_140 (by decide) ?_
    refine j_mem (V' := V) (L' := (lset L 0 (mixN (rDM V k ns) (i + 1) h))) (by rfl) rfl ?_
    exact j_dr (lv' := [some (.ref (ad g 224)), some (.int (nI k)), some (.int (nI (i + 1)))]) (And.intro rfl (And.intro rfl (And.intro rfl True.intro))) (ih (i + 1) (by omega))
set_option maxHeartbeats 4000000 in
theorem c_X7_mixLease {l : Launch} {g : GC} {V : Mem} {L : LMem} {k nl ns : Nat} (hk : k < nl) (hR : RR nl ns V) : MC l yX7_mixLease cX7_mixLease 3 (Option.none : Option Jvm.ClassFile.FieldType) 5 g V L [.ref (ad g 224), .int (nI k)] none (rAside V) (lset L 0 (rMix V k ns (L 0))) := by
  refine MC.of [some (.ref (ad g 224)), some (.int (nI k)), none] (by decide +kernel) rfl (Nat.le_of_ble_eq_true rfl) (fun p e s m args below meth c C => ?_)
  have hk8 : k < 8 := Nat.lt_of_lt_of_le hk hR.1
  have hW : RR nl ns (rAside V) := hR.aside
  refine j_mem (V' := V) (L' := lset L 0 (L 0)) rfl lset_id ?_
  refine j_iconst (v := (nI 0)) C dX7_mixLease_0 (by decide) ?_
  refine j_ist2 C dX7_mixLease_1 rfl (Nat.le_of_ble_eq_true rfl) rfl ?_
  refine lp_X7_mixA C hk hR ?_ 9 0 (by omega)
  refine j_iconst (v := (nI 0)) C dX7_mixLease_25 (by decide) ?_
  refine j_ist2 C dX7_mixLease_26 rfl (Nat.le_of_ble_eq_true rfl) rfl ?_
  refine lp_X7_mixB C hk hR ?_ 17 0 (by omega)
  refine j_aload_n C dX7_mixLease_50 rfl rfl ?_
  refine j_aload_n C dX7_mixLease_51 rfl rfl ?_
  refine j_iload_n C dX7_mixLease_52 rfl rfl ?_
  refine j_iconst (v := (nI 0)) C dX7_mixLease_53 (by decide) ?_
  refine j_callV2r C (oa_X7 (by first | assumption | rfl | exact kd_sums (by assumption) | exact kd_st1 (by assumption) | exact kd_st2 (by assumption) | exact kd_ls (by first | assumption | rfl) (by assumption) | exact kd_sb (by first | assumption | rfl) (by assumption) | exact kd_sv (by assumption))) rfl rfl (c_X7_profitOf hk8 hR) qm_X7_146 qi_X7_profitOf qs_X7_profitOf qn_X7 qc_X7_profitOf fit_X7_profitOf ⟨Nat.le_of_ble_eq_true rfl, Nat.le_of_ble_eq_true rfl, Nat.le_of_ble_eq_true rfl, Nat.le_of_ble_eq_true rfl⟩ (Nat.le_of_ble_eq_true rfl) dX7_mixLease_54 ?_
  refine j_tope (y := rProf0 V k) (by rw [if_neg (by decide)]) ?_
  refine j_i2l C dX7_mixLease_57 ?_
  refine j_callV1v C (oa_X7 (by first | assumption | rfl | exact kd_sums (by assumption) | exact kd_st1 (by assumption) | exact kd_st2 (by assumption) | exact kd_ls (by first | assumption | rfl) (by assumption) | exact kd_sb (by first | assumption | rfl) (by assumption) | exact kd_sv (by assumption))) rfl rfl (c_X7_mix) qm_X7_197 qi_X7_mix qs_X7_mix qn_X7 qc_X7_mix fit_X7_mix ⟨Nat.le_of_ble_eq_true rfl, Nat.le_of_ble_eq_true rfl, Nat.le_of_ble_eq_true rfl, Nat.le_of_ble_eq_true rfl⟩ (Nat.le_of_ble_eq_true rfl) dX7_mixLease_58 ?_
  refine j_mem (L' := lset L 0 (31 * (mixN (rMoved V k) 17 (mixN (rLeaseOf V k ns) 9 (L 0))) + (rProf0 V k).toInt64)) rfl lset_lset.symm ?_
  refine j_aload_n C dX7_mixLease_61 rfl rfl ?_
  refine j_aload_n C dX7_mixLease_62 rfl rfl ?_
  refine j_iload_n C dX7_mixLease_63 rfl rfl ?_
  refine j_iconst (v := (nI 1)) C dX7_mixLease_64 (by decide) ?_
  refine j_callV2r C (oa_X7 (by first | assumption | rfl | exact kd_sums (by assumption) | exact kd_st1 (by assumption) | exact kd_st2 (by assumption) | exact kd_ls (by first | assumption | rfl) (by assumption) | exact kd_sb (by first | assumption | rfl) (by assumption) | exact kd_sv (by assumption))) rfl rfl (c_X7_profitOf hk8 hR) qm_X7_146 qi_X7_profitOf qs_X7_profitOf qn_X7 qc_X7_profitOf fit_X7_profitOf ⟨Nat.le_of_ble_eq_true rfl, Nat.le_of_ble_eq_true rfl, Nat.le_of_ble_eq_true rfl, Nat.le_of_ble_eq_true rfl⟩ (Nat.le_of_ble_eq_true rfl) dX7_mixLease_65 ?_
  refine j_tope (y := rProf1 V k ns) (by rw [if_pos rfl]) ?_
  refine j_i2l C dX7_mixLease_68 ?_
  refine j_callV1v C (oa_X7 (by first | assumption | rfl | exact kd_sums (by assumption) | exact kd_st1 (by assumption) | exact kd_st2 (by assumption) | exact kd_ls (by first | assumption | rfl) (by assumption) | exact kd_sb (by first | assumption | rfl) (by assumption) | exact kd_sv (by assumption))) rfl rfl (c_X7_mix) qm_X7_197 qi_X7_mix qs_X7_mix qn_X7 qc_X7_mix fit_X7_mix ⟨Nat.le_of_ble_eq_true rfl, Nat.le_of_ble_eq_true rfl, Nat.le_of_ble_eq_true rfl, Nat.le_of_ble_eq_true rfl⟩ (Nat.le_of_ble_eq_true rfl) dX7_mixLease_69 ?_
  refine j_mem (L' := lset L 0 (31 * (31 * (mixN (rMoved V k) 17 (mixN (rLeaseOf V k ns) 9 (L 0))) + (rProf0 V k).toInt64) + (rProf1 V k ns).toInt64)) rfl lset_lset.symm ?_
  refine j_iconst (v := (nI 0)) C dX7_mixLease_72 (by decide) ?_
  refine j_ist2 C dX7_mixLease_73 rfl (Nat.le_of_ble_eq_true rfl) rfl ?_
  refine lp_X7_mixC C hk hR ?_ 4 0 (by omega)
  refine j_mem (V' := rAside V) (rAsN_s 4 (by decide)).symm rfl ?_
  refine j_iconst (v := (nI 0)) C dX7_mixLease_97 (by decide) ?_
  refine j_ist2 C dX7_mixLease_98 rfl (Nat.le_of_ble_eq_true rfl) rfl ?_
  refine j_mem (V' := rAside V) (L' := lset L 0 (mixN (rDM (rAside V) k ns) 0 (mixN (rPlan (rAside V) k ns 3) 4 (31 * (31 * (mixN (rMoved V k) 17 (mixN (rLeaseOf V k ns) 9 (L 0))) + (rProf0 V k).toInt64) + (rProf1 V k ns).toInt64)))) rfl (by rw [mixN_0]) ?_
  refine lp_X7_mixD (h := (mixN (rPlan (rAside V) k ns 3) 4 (31 * (31 * (mixN (rMoved V k) 17 (mixN (rLeaseOf V k ns) 9 (L 0))) + (rProf0 V k).toInt64) + (rProf1 V k ns).toInt64))) C hk hW rAside_2 ?_ 3 0 (by omega)
  refine j_aload_n C dX7_mixLease_143 rfl rfl ?_
  refine j_aload_n C dX7_mixLease_144 rfl rfl ?_
  refine j_iload_n C dX7_mixLease_145 rfl rfl ?_
  refine j_ldc (v := nI 50000) C qk_X7_201 dX7_mixLease_146 ?_
  refine j_callV2r C (oa_X7 (by first | assumption | rfl | exact kd_sums (by assumption) | exact kd_st1 (by assumption) | exact kd_st2 (by assumption) | exact kd_ls (by first | assumption | rfl) (by assumption) | exact kd_sb (by first | assumption | rfl) (by assumption) | exact kd_sv (by assumption))) rfl rfl (c_X7_paymentOf hk hW) qm_X7_178 qi_X7_paymentOf qs_X7_paymentOf qn_X7 qc_X7_paymentOf fit_X7_paymentOf ⟨Nat.le_of_ble_eq_true rfl, Nat.le_of_ble_eq_true rfl, Nat.le_of_ble_eq_true rfl, Nat.le_of_ble_eq_true rfl⟩ (Nat.le_of_ble_eq_true rfl) dX7_mixLease_148 ?_
  refine j_i2l C dX7_mixLease_151 ?_
  refine j_callV1v C (oa_X7 (by first | assumption | rfl | exact kd_sums (by assumption) | exact kd_st1 (by assumption) | exact kd_st2 (by assumption) | exact kd_ls (by first | assumption | rfl) (by assumption) | exact kd_sb (by first | assumption | rfl) (by assumption) | exact kd_sv (by assumption))) rfl rfl (c_X7_mix) qm_X7_197 qi_X7_mix qs_X7_mix qn_X7 qc_X7_mix fit_X7_mix ⟨Nat.le_of_ble_eq_true rfl, Nat.le_of_ble_eq_true rfl, Nat.le_of_ble_eq_true rfl, Nat.le_of_ble_eq_true rfl⟩ (Nat.le_of_ble_eq_true rfl) dX7_mixLease_152 ?_
  refine j_mem (L' := lset L 0 (31 * (mixN (rDM (rAside V) k ns) 3 (mixN (rPlan (rAside V) k ns 3) 4 (31 * (31 * (mixN (rMoved V k) 17 (mixN (rLeaseOf V k ns) 9 (L 0))) + (rProf0 V k).toInt64) + (rProf1 V k ns).toInt64))) + (rPay (rAside V) k (nI 50000)).toInt64)) rfl lset_lset.symm ?_
  refine j_aload_n C dX7_mixLease_155 rfl rfl ?_
  refine j_aload_n C dX7_mixLease_156 rfl rfl ?_
  refine j_iload_n C dX7_mixLease_157 rfl rfl ?_
  refine j_callV1r C (oa_X7 (by first | assumption | rfl | exact kd_sums (by assumption) | exact kd_st1 (by assumption) | exact kd_st2 (by assumption) | exact kd_ls (by first | assumption | rfl) (by assumption) | exact kd_sb (by first | assumption | rfl) (by assumption) | exact kd_sv (by assumption))) rfl rfl (c_X7_rateOf hk hW) qm_X7_181 qi_X7_rateOf qs_X7_rateOf qn_X7 qc_X7_rateOf fit_X7_rateOf ⟨Nat.le_of_ble_eq_true rfl, Nat.le_of_ble_eq_true rfl, Nat.le_of_ble_eq_true rfl, Nat.le_of_ble_eq_true rfl⟩ (Nat.le_of_ble_eq_true rfl) dX7_mixLease_158 ?_
  refine j_i2l C dX7_mixLease_161 ?_
  refine j_callV1v C (oa_X7 (by first | assumption | rfl | exact kd_sums (by assumption) | exact kd_st1 (by assumption) | exact kd_st2 (by assumption) | exact kd_ls (by first | assumption | rfl) (by assumption) | exact kd_sb (by first | assumption | rfl) (by assumption) | exact kd_sv (by assumption))) rfl rfl (c_X7_mix) qm_X7_197 qi_X7_mix qs_X7_mix qn_X7 qc_X7_mix fit_X7_mix ⟨Nat.le_of_ble_eq_true rfl, Nat.le_of_ble_eq_true rfl, Nat.le_of_ble_eq_true rfl, Nat.le_of_ble_eq_true rfl⟩ (Nat.le_of_ble_eq_true rfl) dX7_mixLease_162 ?_
  refine j_mem (L' := lset L 0 (31 * (31 * (mixN (rDM (rAside V) k ns) 3 (mixN (rPlan (rAside V) k ns 3) 4 (31 * (31 * (mixN (rMoved V k) 17 (mixN (rLeaseOf V k ns) 9 (L 0))) + (rProf0 V k).toInt64) + (rProf1 V k ns).toInt64))) + (rPay (rAside V) k (nI 50000)).toInt64) + (rRate (rAside V) k).toInt64)) rfl lset_lset.symm ?_
  refine j_aload_n C dX7_mixLease_165 rfl rfl ?_
  refine j_aload_n C dX7_mixLease_166 rfl rfl ?_
  refine j_iload_n C dX7_mixLease_167 rfl rfl ?_
  refine j_bipush (v := (nI 100)) C dX7_mixLease_168 (by decide) ?_
  refine j_iconst (v := (nI 1)) C dX7_mixLease_170 (by decide) ?_
  refine j_callV3r C (oa_X7 (by first | assumption | rfl | exact kd_sums (by assumption) | exact kd_st1 (by assumption) | exact kd_st2 (by assumption) | exact kd_ls (by first | assumption | rfl) (by assumption) | exact kd_sb (by first | assumption | rfl) (by assumption) | exact kd_sv (by assumption))) rfl rfl (c_X7_receiptOf hk hW) qm_X7_184 qi_X7_receiptOf qs_X7_receiptOf qn_X7 qc_X7_receiptOf fit_X7_receiptOf ⟨Nat.le_of_ble_eq_true rfl, Nat.le_of_ble_eq_true rfl, Nat.le_of_ble_eq_true rfl, Nat.le_of_ble_eq_true rfl⟩ (Nat.le_of_ble_eq_true rfl) dX7_mixLease_171 ?_
  refine j_i2l C dX7_mixLease_174 ?_
  refine j_callV1v C (oa_X7 (by first | assumption | rfl | exact kd_sums (by assumption) | exact kd_st1 (by assumption) | exact kd_st2 (by assumption) | exact kd_ls (by first | assumption | rfl) (by assumption) | exact kd_sb (by first | assumption | rfl) (by assumption) | exact kd_sv (by assumption))) rfl rfl (c_X7_mix) qm_X7_197 qi_X7_mix qs_X7_mix qn_X7 qc_X7_mix fit_X7_mix ⟨Nat.le_of_ble_eq_true rfl, Nat.le_of_ble_eq_true rfl, Nat.le_of_ble_eq_true rfl, Nat.le_of_ble_eq_true rfl⟩ (Nat.le_of_ble_eq_true rfl) dX7_mixLease_175 ?_
  refine j_mem (L' := lset L 0 (31 * (31 * (31 * (mixN (rDM (rAside V) k ns) 3 (mixN (rPlan (rAside V) k ns 3) 4 (31 * (31 * (mixN (rMoved V k) 17 (mixN (rLeaseOf V k ns) 9 (L 0))) + (rProf0 V k).toInt64) + (rProf1 V k ns).toInt64))) + (rPay (rAside V) k (nI 50000)).toInt64) + (rRate (rAside V) k).toInt64) + (rRec (rAside V) k ns (nI 100) (nI 1)).toInt64)) rfl lset_lset.symm ?_
  exact j_vret C dX7_mixLease_178 rfl (by rfl) (by unfold rMix; rfl)
set_option maxHeartbeats 4000000 in
theorem lp_X7_dgA {p : Program} {l : Launch} {e : Env} {s : State} {m : MethodId} {args : Array Value} {below : List Frame} {meth : Method} {c : Code} {g : GC} {Q : State → Prop} {V : Mem} {L : LMem} {nl ns : Nat} {h : Int64} (C : Cx p s args m meth c cX7_digest 2 yX7_digest.cls (some .long) g) (hR : RR nl ns V) (kx : J p l e (RM 6) s m args below meth c 2 g 0 0 Q V (lset L 0 (mixN (rCount V nl ns) (11) h)) 36 [some (.ref (ad g 224)), some (.int (nI (11)))] []) : ∀ j i : Nat, i + j = 11 → J p l e (RM 6) s m args below meth c 2 g 0 0 Q V (lset L 0 (mixN (rCount V nl ns) i h)) 14 [some (.ref (ad g 224)), some (.int (nI i))] [] := by
  intro j
  induction j with
  | zero =>
    intro i hi
    have hi : 11 = i := by omega
    subst hi
    refine j_iload_n C dX7_digest_14 rfl rfl ?_
    refine j_bipush (v := (nI 11)) C dX7_digest_15 (by decide) ?_
    refine j_icmp_ge (tgt := 36) C dX7_digest_17 (by decide) (fun h17 => ?_) (fun h17 => absurd (nI_le (by omega) (by omega)) h17)
    exact kx
  | succ j ih =>
    intro i hi
    refine j_iload_n C dX7_digest_14 rfl rfl ?_
    refine j_bipush (v := (nI 11)) C dX7_digest_15 (by decide) ?_
    refine j_icmp_ge (tgt := 36) C dX7_digest_17 (by decide) (fun h17 => absurd h17 (nI_ge (by omega) (by omega))) (fun h17 => ?_)
    refine j_aload_n C dX7_digest_20 rfl rfl ?_
    refine j_aload_n C dX7_digest_21 rfl rfl ?_
    refine j_iload_n C dX7_digest_22 rfl rfl ?_
    refine j_callV1r C (oa_X7 (by first | assumption | rfl | exact kd_sums (by assumption) | exact kd_st1 (by assumption) | exact kd_st2 (by assumption) | exact kd_ls (by first | assumption | rfl) (by assumption) | exact kd_sb (by first | assumption | rfl) (by assumption) | exact kd_sv (by assumption))) rfl rfl (c_X7_counted (by omega) hR) qm_X7_161 qi_X7_counted qs_X7_counted qn_X7 qc_X7_counted fit_X7_counted ⟨Nat.le_of_ble_eq_true rfl, Nat.le_of_ble_eq_true rfl, Nat.le_of_ble_eq_true rfl, Nat.le_of_ble_eq_true rfl⟩ (Nat.le_of_ble_eq_true rfl) dX7_digest_23 ?_
    refine j_i2l C dX7_digest_26 ?_
    refine j_callV1v C (oa_X7 (by first | assumption | rfl | exact kd_sums (by assumption) | exact kd_st1 (by assumption) | exact kd_st2 (by assumption) | exact kd_ls (by first | assumption | rfl) (by assumption) | exact kd_sb (by first | assumption | rfl) (by assumption) | exact kd_sv (by assumption))) rfl rfl (c_X7_mix) qm_X7_197 qi_X7_mix qs_X7_mix qn_X7 qc_X7_mix fit_X7_mix ⟨Nat.le_of_ble_eq_true rfl, Nat.le_of_ble_eq_true rfl, Nat.le_of_ble_eq_true rfl, Nat.le_of_ble_eq_true rfl⟩ (Nat.le_of_ble_eq_true rfl) dX7_digest_27 ?_
    refine j_mem rfl lset_lset.symm ?_
    refine j_incN1 (q := 1) C dX7_digest_30 (by decide) (Nat.le_of_ble_eq_true rfl) rfl ?_
    refine j_goto (tgt := 14) C dX7_digest_33 (by decide) ?_
    refine j_mem (V' := V) (L' := (lset L 0 (mixN (rCount V nl ns) (i + 1) h))) (by rfl) rfl ?_
    exact j_dr (lv' := [some (.ref (ad g 224)), some (.int (nI (i + 1)))]) (And.intro rfl (And.intro rfl True.intro)) (ih (i + 1) (by omega))
set_option maxHeartbeats 4000000 in
theorem lp_X7_dgB {p : Program} {l : Launch} {e : Env} {s : State} {m : MethodId} {args : Array Value} {below : List Frame} {meth : Method} {c : Code} {g : GC} {Q : State → Prop} {V : Mem} {L : LMem} {nl ns : Nat} {h : Int64} (C : Cx p s args m meth c cX7_digest 2 yX7_digest.cls (some .long) g) (hR : RR nl ns V) (kx : J p l e (RM 6) s m args below meth c 2 g 0 0 Q (rAsN V (nl)) (lset L 0 (rDgL V ns h (nl))) 59 [some (.ref (ad g 224)), some (.int (nI (nl)))] []) : ∀ j i : Nat, i + j = nl → J p l e (RM 6) s m args below meth c 2 g 0 0 Q (rAsN V i) (lset L 0 (rDgL V ns h i)) 38 [some (.ref (ad g 224)), some (.int (nI i))] [] := by
  intro j
  induction j with
  | zero =>
    intro i hi
    have hi : nl = i := by omega
    subst hi
    refine j_iload_n C dX7_digest_38 rfl rfl ?_
    refine j_aload_n C dX7_digest_39 rfl rfl ?_
    refine jg_LeaseBookModel_z C (by first | assumption | rfl | exact kd_sums (by assumption) | exact kd_st1 (by assumption) | exact kd_st2 (by assumption) | exact kd_ls (by first | assumption | rfl) (by assumption) | exact kd_sb (by first | assumption | rfl) (by assumption) | exact kd_sv (by assumption)) qf_X7_7 dX7_digest_40 ?_
    refine j_iconst (v := (nI 0)) C dX7_digest_43 (by decide) ?_
    refine j_ialdN C (by first | assumption | rfl | exact kd_sums (by assumption) | exact kd_st1 (by assumption) | exact kd_st2 (by assumption) | exact kd_ls (by first | assumption | rfl) (by assumption) | exact kd_sb (by first | assumption | rfl) (by assumption) | exact kd_sv (by assumption)) rfl rfl (by omega) dX7_digest_44 ?_
    refine j_tope (y := nI nl) (by exact (hR.asn _).2.2.1) ?_
    refine j_icmp_ge (tgt := 59) C dX7_digest_45 (by decide) (fun h45 => ?_) (fun h45 => absurd (nI_le (by omega) (by have := hR.1; omega)) h45)
    exact kx
  | succ j ih =>
    intro i hi
    refine j_iload_n C dX7_digest_38 rfl rfl ?_
    refine j_aload_n C dX7_digest_39 rfl rfl ?_
    refine jg_LeaseBookModel_z C (by first | assumption | rfl | exact kd_sums (by assumption) | exact kd_st1 (by assumption) | exact kd_st2 (by assumption) | exact kd_ls (by first | assumption | rfl) (by assumption) | exact kd_sb (by first | assumption | rfl) (by assumption) | exact kd_sv (by assumption)) qf_X7_7 dX7_digest_40 ?_
    refine j_iconst (v := (nI 0)) C dX7_digest_43 (by decide) ?_
    refine j_ialdN C (by first | assumption | rfl | exact kd_sums (by assumption) | exact kd_st1 (by assumption) | exact kd_st2 (by assumption) | exact kd_ls (by first | assumption | rfl) (by assumption) | exact kd_sb (by first | assumption | rfl) (by assumption) | exact kd_sv (by assumption)) rfl rfl (by omega) dX7_digest_44 ?_
    refine j_tope (y := nI nl) (by exact (hR.asn _).2.2.1) ?_
    refine j_icmp_ge (tgt := 59) C dX7_digest_45 (by decide) (fun h45 => absurd h45 (nI_ge (by omega) (by have := hR.1; omega))) (fun h45 => ?_)
    refine j_aload_n C dX7_digest_48 rfl rfl ?_
    refine j_iload_n C dX7_digest_49 rfl rfl ?_
    refine j_callV1v C (oa_X7 (by first | assumption | rfl | exact kd_sums (by assumption) | exact kd_st1 (by assumption) | exact kd_st2 (by assumption) | exact kd_ls (by first | assumption | rfl) (by assumption) | exact kd_sb (by first | assumption | rfl) (by assumption) | exact kd_sv (by assumption))) rfl rfl (c_X7_mixLease (by omega) (hR.asn i)) qm_X7_204 qi_X7_mixLease qs_X7_mixLease qn_X7 qc_X7_mixLease fit_X7_mixLease ⟨Nat.le_of_ble_eq_true rfl, Nat.le_of_ble_eq_true rfl, Nat.le_of_ble_eq_true rfl, Nat.le_of_ble_eq_true rfl⟩ (Nat.le_of_ble_eq_true rfl) dX7_digest_50 ?_
    refine j_mem (L' := lset L 0 (rDgL V ns h (i + 1))) rfl lset_lset.symm ?_
    refine j_incN1 (q := 1) C dX7_digest_53 (by decide) (Nat.le_of_ble_eq_true rfl) rfl ?_
    refine j_goto (tgt := 38) C dX7_digest_56 (by decide) ?_
    refine j_mem (V' := (rAsN V (i + 1))) (L' := (lset L 0 (rDgL V ns h (i + 1)))) (by rfl) rfl ?_
    exact j_dr (lv' := [some (.ref (ad g 224)), some (.int (nI (i + 1)))]) (And.intro rfl (And.intro rfl True.intro)) (ih (i + 1) (by omega))
set_option maxHeartbeats 4000000 in
theorem lp_X7_dgC {p : Program} {l : Launch} {e : Env} {s : State} {m : MethodId} {args : Array Value} {below : List Frame} {meth : Method} {c : Code} {g : GC} {Q : State → Prop} {V : Mem} {L : LMem} {nl ns : Nat} {h : Int64} (C : Cx p s args m meth c cX7_digest 2 yX7_digest.cls (some .long) g) (hR : RR nl ns V) (kx : J p l e (RM 6) s m args below meth c 2 g 0 0 Q V (lset L 0 (mixN (fun i => V 225 (179 + i)) ((6 * ns)) h)) 95 [some (.ref (ad g 224)), some (.int (nI ((6 * ns))))] []) : ∀ j i : Nat, i + j = (6 * ns) → J p l e (RM 6) s m args below meth c 2 g 0 0 Q V (lset L 0 (mixN (fun i => V 225 (179 + i)) i h)) 61 [some (.ref (ad g 224)), some (.int (nI i))] [] := by
  intro j
  induction j with
  | zero =>
    intro i hi
    have hi : (6 * ns) = i := by omega
    subst hi
    refine j_iload_n C dX7_digest_61 rfl rfl ?_
    refine j_bipush (v := (nI 6)) C dX7_digest_62 (by decide) ?_
    refine j_aload_n C dX7_digest_64 rfl rfl ?_
    refine jg_LeaseBookModel_z C (by first | assumption | rfl | exact kd_sums (by assumption) | exact kd_st1 (by assumption) | exact kd_st2 (by assumption) | exact kd_ls (by first | assumption | rfl) (by assumption) | exact kd_sb (by first | assumption | rfl) (by assumption) | exact kd_sv (by assumption)) qf_X7_7 dX7_digest_65 ?_
    refine j_iconst (v := (nI 1)) C dX7_digest_68 (by decide) ?_
    refine j_ialdN C (by first | assumption | rfl | exact kd_sums (by assumption) | exact kd_st1 (by assumption) | exact kd_st2 (by assumption) | exact kd_ls (by first | assumption | rfl) (by assumption) | exact kd_sb (by first | assumption | rfl) (by assumption) | exact kd_sv (by assumption)) rfl rfl (by omega) dX7_digest_69 ?_
    refine j_tope (y := nI ns) (by exact hR.2.2.2.1) ?_
    refine j_imulN C dX7_digest_70 ?_
    refine j_icmp_ge (tgt := 95) C dX7_digest_71 (by decide) (fun h71 => ?_) (fun h71 => absurd (nI_le (by omega) (by have := hR.2.1; omega)) h71)
    exact kx
  | succ j ih =>
    intro i hi
    have h12 := hR.2.1
    refine j_iload_n C dX7_digest_61 rfl rfl ?_
    refine j_bipush (v := (nI 6)) C dX7_digest_62 (by decide) ?_
    refine j_aload_n C dX7_digest_64 rfl rfl ?_
    refine jg_LeaseBookModel_z C (by first | assumption | rfl | exact kd_sums (by assumption) | exact kd_st1 (by assumption) | exact kd_st2 (by assumption) | exact kd_ls (by first | assumption | rfl) (by assumption) | exact kd_sb (by first | assumption | rfl) (by assumption) | exact kd_sv (by assumption)) qf_X7_7 dX7_digest_65 ?_
    refine j_iconst (v := (nI 1)) C dX7_digest_68 (by decide) ?_
    refine j_ialdN C (by first | assumption | rfl | exact kd_sums (by assumption) | exact kd_st1 (by assumption) | exact kd_st2 (by assumption) | exact kd_ls (by first | assumption | rfl) (by assumption) | exact kd_sb (by first | assumption | rfl) (by assumption) | exact kd_sv (by assumption)) rfl rfl (by omega) dX7_digest_69 ?_
    refine j_tope (y := nI ns) (by exact hR.2.2.2.1) ?_
    refine j_imulN C dX7_digest_70 ?_
    refine j_icmp_ge (tgt := 95) C dX7_digest_71 (by decide) (fun h71 => absurd h71 (nI_ge (by omega) (by have := hR.2.1; omega))) (fun h71 => ?_)
    refine j_aload_n C dX7_digest_74 rfl rfl ?_
    refine j_aload_n C dX7_digest_75 rfl rfl ?_
    refine jg_LeaseBookModel_z C (by first | assumption | rfl | exact kd_sums (by assumption) | exact kd_st1 (by assumption) | exact kd_st2 (by assumption) | exact kd_ls (by first | assumption | rfl) (by assumption) | exact kd_sb (by first | assumption | rfl) (by assumption) | exact kd_sv (by assumption)) qf_X7_7 dX7_digest_76 ?_
    refine j_sipush (v := (nI 179)) C dX7_digest_79 (by decide) ?_
    refine j_iload_n C dX7_digest_82 rfl rfl ?_
    refine j_iaddN C dX7_digest_83 ?_
    refine j_ialdN C (by first | assumption | rfl | exact kd_sums (by assumption) | exact kd_st1 (by assumption) | exact kd_st2 (by assumption) | exact kd_ls (by first | assumption | rfl) (by assumption) | exact kd_sb (by first | assumption | rfl) (by assumption) | exact kd_sv (by assumption)) rfl rfl (by omega) dX7_digest_84 ?_
    refine j_i2l C dX7_digest_85 ?_
    refine j_callV1v C (oa_X7 (by first | assumption | rfl | exact kd_sums (by assumption) | exact kd_st1 (by assumption) | exact kd_st2 (by assumption) | exact kd_ls (by first | assumption | rfl) (by assumption) | exact kd_sb (by first | assumption | rfl) (by assumption) | exact kd_sv (by assumption))) rfl rfl (c_X7_mix) qm_X7_197 qi_X7_mix qs_X7_mix qn_X7 qc_X7_mix fit_X7_mix ⟨Nat.le_of_ble_eq_true rfl, Nat.le_of_ble_eq_true rfl, Nat.le_of_ble_eq_true rfl, Nat.le_of_ble_eq_true rfl⟩ (Nat.le_of_ble_eq_true rfl) dX7_digest_86 ?_
    refine j_mem rfl lset_lset.symm ?_
    refine j_incN1 (q := 1) C dX7_digest_89 (by decide) (Nat.le_of_ble_eq_true rfl) rfl ?_
    refine j_goto (tgt := 61) C dX7_digest_92 (by decide) ?_
    refine j_mem (V' := V) (L' := (lset L 0 (mixN (fun i => V 225 (179 + i)) (i + 1) h))) (by rfl) rfl ?_
    exact j_dr (lv' := [some (.ref (ad g 224)), some (.int (nI (i + 1)))]) (And.intro rfl (And.intro rfl True.intro)) (ih (i + 1) (by omega))
set_option maxHeartbeats 4000000 in
theorem lp_X7_dgD {p : Program} {l : Launch} {e : Env} {s : State} {m : MethodId} {args : Array Value} {below : List Frame} {meth : Method} {c : Code} {g : GC} {Q : State → Prop} {V : Mem} {L : LMem} {bm : Nat} {h : Int64} (C : Cx p s args m meth c cX7_digest 2 yX7_digest.cls (some .long) g) (hb : V 224 5 = nI bm) (hbm : bm ≤ 60) (kx : J p l e (RM 6) s m args below meth c 2 g 0 0 Q V (lset L 0 (mixN (V 228) (bm) h)) 142 [some (.ref (ad g 224)), some (.int (nI (bm)))] []) : ∀ j i : Nat, i + j = bm → J p l e (RM 6) s m args below meth c 2 g 0 0 Q V (lset L 0 (mixN (V 228) i h)) 117 [some (.ref (ad g 224)), some (.int (nI i))] [] := by
  intro j
  induction j with
  | zero =>
    intro i hi
    have hi : bm = i := by omega
    subst hi
    refine j_iload_n C dX7_digest_117 rfl rfl ?_
    refine j_aload_n C dX7_digest_118 rfl rfl ?_
    refine jg_LeaseBookModel_bufferMany C (by first | assumption | rfl | exact kd_sums (by assumption) | exact kd_st1 (by assumption) | exact kd_st2 (by assumption) | exact kd_ls (by first | assumption | rfl) (by assumption) | exact kd_sb (by first | assumption | rfl) (by assumption) | exact kd_sv (by assumption)) qf_X7_114 dX7_digest_119 ?_
    refine j_tope (y := nI bm) (by exact hb) ?_
    refine j_icmp_ge (tgt := 142) C dX7_digest_122 (by decide) (fun h122 => ?_) (fun h122 => absurd (nI_le (by omega) (by omega)) h122)
    exact kx
  | succ j ih =>
    intro i hi
    refine j_iload_n C dX7_digest_117 rfl rfl ?_
    refine j_aload_n C dX7_digest_118 rfl rfl ?_
    refine jg_LeaseBookModel_bufferMany C (by first | assumption | rfl | exact kd_sums (by assumption) | exact kd_st1 (by assumption) | exact kd_st2 (by assumption) | exact kd_ls (by first | assumption | rfl) (by assumption) | exact kd_sb (by first | assumption | rfl) (by assumption) | exact kd_sv (by assumption)) qf_X7_114 dX7_digest_119 ?_
    refine j_tope (y := nI bm) (by exact hb) ?_
    refine j_icmp_ge (tgt := 142) C dX7_digest_122 (by decide) (fun h122 => absurd h122 (nI_ge (by omega) (by omega))) (fun h122 => ?_)
    refine j_aload_n C dX7_digest_125 rfl rfl ?_
    refine j_aload_n C dX7_digest_126 rfl rfl ?_
    refine jg_LeaseBookModel_buffer C (by first | assumption | rfl | exact kd_sums (by assumption) | exact kd_st1 (by assumption) | exact kd_st2 (by assumption) | exact kd_ls (by first | assumption | rfl) (by assumption) | exact kd_sb (by first | assumption | rfl) (by assumption) | exact kd_sv (by assumption)) qf_X7_19 dX7_digest_127 ?_
    refine j_iload_n C dX7_digest_130 rfl rfl ?_
    refine j_ialdN C (by first | assumption | rfl | exact kd_sums (by assumption) | exact kd_st1 (by assumption) | exact kd_st2 (by assumption) | exact kd_ls (by first | assumption | rfl) (by assumption) | exact kd_sb (by first | assumption | rfl) (by assumption) | exact kd_sv (by assumption)) rfl rfl (by omega) dX7_digest_131 ?_
    refine j_i2l C dX7_digest_132 ?_
    refine j_callV1v C (oa_X7 (by first | assumption | rfl | exact kd_sums (by assumption) | exact kd_st1 (by assumption) | exact kd_st2 (by assumption) | exact kd_ls (by first | assumption | rfl) (by assumption) | exact kd_sb (by first | assumption | rfl) (by assumption) | exact kd_sv (by assumption))) rfl rfl (c_X7_mix) qm_X7_197 qi_X7_mix qs_X7_mix qn_X7 qc_X7_mix fit_X7_mix ⟨Nat.le_of_ble_eq_true rfl, Nat.le_of_ble_eq_true rfl, Nat.le_of_ble_eq_true rfl, Nat.le_of_ble_eq_true rfl⟩ (Nat.le_of_ble_eq_true rfl) dX7_digest_133 ?_
    refine j_mem rfl lset_lset.symm ?_
    refine j_incN1 (q := 1) C dX7_digest_136 (by decide) (Nat.le_of_ble_eq_true rfl) rfl ?_
    refine j_goto (tgt := 117) C dX7_digest_139 (by decide) ?_
    refine j_mem (V' := V) (L' := (lset L 0 (mixN (V 228) (i + 1) h))) (by rfl) rfl ?_
    exact j_dr (lv' := [some (.ref (ad g 224)), some (.int (nI (i + 1)))]) (And.intro rfl (And.intro rfl True.intro)) (ih (i + 1) (by omega))
set_option maxHeartbeats 4000000 in
theorem c_X7_digest {l : Launch} {g : GC} {V : Mem} {L : LMem} {nl ns bm : Nat} (hR : RR nl ns V) (hb : V 224 5 = nI bm) (hbm : bm ≤ 60) : MC l yX7_digest cX7_digest 2 (some .long) 6 g V L [.ref (ad g 224)] (some ((.long (rDg (thr 0 V) nl ns bm)))) (rAsN (thr 0 V) nl) (lset L 0 (rDg (thr 0 V) nl ns bm)) := by
  refine MC.of [some (.ref (ad g 224)), none] (by decide +kernel) rfl (Nat.le_of_ble_eq_true rfl) (fun p e s m args below meth c C => ?_)
  have hV0 : RR nl ns (mset V 224 6 (nI 0)) := hR.put (Or.inl (by decide))
  have hb0 : (mset V 224 6 (nI 0)) 224 5 = nI bm := (mset_ne (by omega)).trans hb
  have hW : RR nl ns (rAsN (thr 0 V) nl) := hV0.asn nl
  have hbW : (rAsN (thr 0 V) nl) 224 5 = nI bm := (congrFun (rAsN_row (by decide) nl) 5).trans hb0
  refine j_aload_n C dX7_digest_0 rfl rfl ?_
  refine j_iconst (v := (nI 0)) C dX7_digest_1 (by decide) ?_
  refine jp_LeaseBookModel_thrown C (by first | assumption | rfl | exact kd_sums (by assumption) | exact kd_st1 (by assumption) | exact kd_st2 (by assumption) | exact kd_ls (by first | assumption | rfl) (by assumption) | exact kd_sb (by first | assumption | rfl) (by assumption) | exact kd_sv (by assumption)) qf_X7_25 dX7_digest_2 ?_
  refine j_aload_n C dX7_digest_5 rfl rfl ?_
  refine j_ldc2 C qk_X7_202 dX7_digest_6 ?_
  refine jp_LeaseBookModel_h C qf_X7_193 dX7_digest_9 ?_
  refine j_iconst (v := (nI 0)) C dX7_digest_12 (by decide) ?_
  refine j_ist1 C dX7_digest_13 rfl (Nat.le_of_ble_eq_true rfl) rfl ?_
  refine lp_X7_dgA C hV0 ?_ 11 0 (by omega)
  refine j_iconst (v := (nI 0)) C dX7_digest_36 (by decide) ?_
  refine j_ist1 C dX7_digest_37 rfl (Nat.le_of_ble_eq_true rfl) rfl ?_
  refine lp_X7_dgB C hV0 ?_ nl 0 (by omega)
  refine j_iconst (v := (nI 0)) C dX7_digest_59 (by decide) ?_
  refine j_ist1 C dX7_digest_60 rfl (Nat.le_of_ble_eq_true rfl) rfl ?_
  refine lp_X7_dgC C hW ?_ (6 * ns) 0 (by omega)
  refine j_aload_n C dX7_digest_95 rfl rfl ?_
  refine j_aload_n C dX7_digest_96 rfl rfl ?_
  refine j_callV0r C (oa_X7 (by first | assumption | rfl | exact kd_sums (by assumption) | exact kd_st1 (by assumption) | exact kd_st2 (by assumption) | exact kd_ls (by first | assumption | rfl) (by assumption) | exact kd_sb (by first | assumption | rfl) (by assumption) | exact kd_sv (by assumption))) rfl rfl (c_X7_offOf hW) qm_X7_187 qi_X7_offOf qs_X7_offOf qn_X7 qc_X7_offOf fit_X7_offOf ⟨Nat.le_of_ble_eq_true rfl, Nat.le_of_ble_eq_true rfl, Nat.le_of_ble_eq_true rfl, Nat.le_of_ble_eq_true rfl⟩ (Nat.le_of_ble_eq_true rfl) dX7_digest_97 ?_
  refine j_callS1r C (c_Jxe99ae_doubleToLongBits_ccdee rOff_n64) qm_X7_207 qt_Jxe99ae_doubleToLongBits_ccdee qn_Jxe99ae qc_Jxe99ae_doubleToLongBits_ccdee ⟨by decide +kernel, by decide +kernel, by decide +kernel⟩ ⟨Nat.le_of_ble_eq_true rfl, Nat.le_of_ble_eq_true rfl, Nat.le_of_ble_eq_true rfl, Nat.le_of_ble_eq_true rfl⟩ (Nat.le_of_ble_eq_true rfl) dX7_digest_100 ?_
  refine j_callV1v C (oa_X7 (by first | assumption | rfl | exact kd_sums (by assumption) | exact kd_st1 (by assumption) | exact kd_st2 (by assumption) | exact kd_ls (by first | assumption | rfl) (by assumption) | exact kd_sb (by first | assumption | rfl) (by assumption) | exact kd_sv (by assumption))) rfl rfl (c_X7_mix) qm_X7_197 qi_X7_mix qs_X7_mix qn_X7 qc_X7_mix fit_X7_mix ⟨Nat.le_of_ble_eq_true rfl, Nat.le_of_ble_eq_true rfl, Nat.le_of_ble_eq_true rfl, Nat.le_of_ble_eq_true rfl⟩ (Nat.le_of_ble_eq_true rfl) dX7_digest_103 ?_
  refine j_mem rfl lset_lset.symm ?_
  refine j_aload_n C dX7_digest_106 rfl rfl ?_
  refine j_aload_n C dX7_digest_107 rfl rfl ?_
  refine jg_LeaseBookModel_bufferMany C (by first | assumption | rfl | exact kd_sums (by assumption) | exact kd_st1 (by assumption) | exact kd_st2 (by assumption) | exact kd_ls (by first | assumption | rfl) (by assumption) | exact kd_sb (by first | assumption | rfl) (by assumption) | exact kd_sv (by assumption)) qf_X7_114 dX7_digest_108 ?_
  refine j_tope (y := nI bm) (by exact hbW) ?_
  refine j_i2l C dX7_digest_111 ?_
  refine j_callV1v C (oa_X7 (by first | assumption | rfl | exact kd_sums (by assumption) | exact kd_st1 (by assumption) | exact kd_st2 (by assumption) | exact kd_ls (by first | assumption | rfl) (by assumption) | exact kd_sb (by first | assumption | rfl) (by assumption) | exact kd_sv (by assumption))) rfl rfl (c_X7_mix) qm_X7_197 qi_X7_mix qs_X7_mix qn_X7 qc_X7_mix fit_X7_mix ⟨Nat.le_of_ble_eq_true rfl, Nat.le_of_ble_eq_true rfl, Nat.le_of_ble_eq_true rfl, Nat.le_of_ble_eq_true rfl⟩ (Nat.le_of_ble_eq_true rfl) dX7_digest_112 ?_
  refine j_mem rfl lset_lset.symm ?_
  refine j_iconst (v := (nI 0)) C dX7_digest_115 (by decide) ?_
  refine j_ist1 C dX7_digest_116 rfl (Nat.le_of_ble_eq_true rfl) rfl ?_
  refine lp_X7_dgD C hbW hbm ?_ bm 0 (by omega)
  refine j_aload_n C dX7_digest_142 rfl rfl ?_
  refine jg_LeaseBookModel_h C (by first | assumption | rfl | exact kd_sums (by assumption) | exact kd_st1 (by assumption) | exact kd_st2 (by assumption) | exact kd_ls (by first | assumption | rfl) (by assumption) | exact kd_sb (by first | assumption | rfl) (by assumption) | exact kd_sv (by assumption)) qf_X7_193 dX7_digest_143 ?_
  exact j_lret C dX7_digest_146 (by first | rfl | (simp [b2i, *]; done)) (by rfl) (by rfl)
