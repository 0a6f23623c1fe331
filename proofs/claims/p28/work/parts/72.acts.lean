/-! THE LAW ACTS: changes, act (laid by wip/p28/p72.py) -/
theorem shrN {X c : Nat} (hX : X < 2 ^ 31) (k : Nat) (hk : ((nI c &&& 31).toBitVec.smod 32).toNat = k) : nI X >>> (nI c &&& 31) = nI (X / 2 ^ k) := pk_shrN hX _ k hk
theorem ternN {q a b : Nat} (hq : q < 2 ^ 31) : (if nI q = 0 then nI a else nI b) = nI (if q = 0 then a else b) := by
  by_cases h : q = 0
  · subst h; rw [if_pos rfl]; rfl
  · rw [if_neg h, if_neg (nI_ne0 (by omega) hq)]
theorem atN_lt {X n : Nat} (h : X < 2 ^ 31) : atN X n < 2 ^ 31 := Nat.lt_of_le_of_lt (Nat.mod_le _ _) (by omega)
theorem ite_pos {P : Prop} [Decidable P] {a b : Nat} (ha : 0 < a) (hb : 0 < b) : 0 < (if P then a else b) := by split <;> assumption
theorem ite_lt {P : Prop} [Decidable P] {a b : Nat} (ha : a < 2 ^ 31) (hb : b < 2 ^ 31) : (if P then a else b) < 2 ^ 31 := by split <;> assumption
set_option maxHeartbeats 4000000 in
theorem c_L_ch0 {l : Launch} {g : GC} {V : Mem} {L : LMem} {a : Nat} {X Y : Nat} (hX : X < 2 ^ 31) (hY : Y < 2 ^ 31) (h0 : V 224 0 = nI 0) : MC l yL_changes cL_changes 15 (some .boolean) 6 g V L [.ref (ad g 223), .int (nI a), .int (nI X), .int (nI Y), .ref (ad g 224), .ref (ad g 225), .ref (ad g 226), .ref (ad g 227)] (some (.int (nI 1))) V L := by
  refine MC.of [some (.ref (ad g 223)), some (.int (nI a)), some (.int (nI X)), some (.int (nI Y)), some (.ref (ad g 224)), some (.ref (ad g 225)), some (.ref (ad g 226)), some (.ref (ad g 227)), none, none, none, none, none, none, none] (by decide +kernel) rfl (Nat.le_of_ble_eq_true rfl) (fun p e s m args below meth c C => ?_)
  refine j_aload C dL_changes_0 rfl ?_
  refine j_iconst (v := (nI 0)) C dL_changes_2 (by decide) ?_
  refine j_ialdN C (by first | assumption | rfl) rfl rfl (by omega) dL_changes_3 ?_
  refine j_if_ne (tgt := 9) C dL_changes_4 (by decide) (fun h4 => (by exact absurd h0 h4)) (fun h4 => ?_)
  refine j_iconst (v := (nI 1)) C dL_changes_7 (by decide) ?_
  exact j_zret C dL_changes_8 (by first | rfl | exact nar_b2i) (by rfl) (by rfl) (by rfl)
set_option maxHeartbeats 4000000 in
theorem c_L_ch_term0 {l : Launch} {g : GC} {V : Mem} {L : LMem} {k nl ns : Nat} {X Y : Nat} (hX : X < 2 ^ 31) (hY : Y < 2 ^ 31) (h0 : V 224 0 = nI nl) (h8 : nl ≤ 8) (hk : atN (X / 4) nl = k) (hkl : k < nl) {n r : Nat} (hn : 1 + atN Y (if atN X 2 = 0 then 60 else 8) = n) (hrr : atN (Y / 32) 2001 = r) (hr : ¬ 0 < V 225 (3 * k + 1))  : MC l yL_changes cL_changes 15 (some .boolean) 6 g V L [.ref (ad g 223), .int (nI 0), .int (nI X), .int (nI Y), .ref (ad g 224), .ref (ad g 225), .ref (ad g 226), .ref (ad g 227)] (some (.int (nI 1))) V L := by
  refine MC.of [some (.ref (ad g 223)), some (.int (nI 0)), some (.int (nI X)), some (.int (nI Y)), some (.ref (ad g 224)), some (.ref (ad g 225)), some (.ref (ad g 226)), some (.ref (ad g 227)), none, none, none, none, none, none, none] (by decide +kernel) rfl (Nat.le_of_ble_eq_true rfl) (fun p e s m args below meth c C => ?_)
  refine j_aload C dL_changes_0 rfl ?_
  refine j_iconst (v := (nI 0)) C dL_changes_2 (by decide) ?_
  refine j_ialdN C (by first | assumption | rfl) rfl rfl (by omega) dL_changes_3 ?_
  refine j_tope (y := nI nl) (by exact h0) ?_
  refine j_if_ne (tgt := 9) C dL_changes_4 (by decide) (fun h4 => ?_) (fun h4 => (by exact absurd h4 (nI_ne0 (by omega) (by omega))))
  refine j_iload_n C dL_changes_9 rfl rfl ?_
  refine j_iconst (v := (nI 2)) C dL_changes_10 (by decide) ?_
  refine j_ishr C dL_changes_11 ?_
  refine j_tope (y := nI (X / 4)) (by exact shrN (by omega) 2 (by decide)) ?_
  refine j_aload C dL_changes_12 rfl ?_
  refine j_iconst (v := (nI 0)) C dL_changes_14 (by decide) ?_
  refine j_ialdN C (by first | assumption | rfl) rfl rfl (by omega) dL_changes_15 ?_
  refine j_tope (y := nI nl) (by exact h0) ?_
  refine j_callS2r C (c_L_at (by omega) (by omega) (by omega)) qm_L_44 qt_L_at qn_L qc_L_at fit_L_at ⟨Nat.le_of_ble_eq_true rfl, Nat.le_of_ble_eq_true rfl, Nat.le_of_ble_eq_true rfl, Nat.le_of_ble_eq_true rfl⟩ (Nat.le_of_ble_eq_true rfl) dL_changes_16 ?_
  refine j_tope (y := nI k) (by rw [hk]) ?_
  refine j_ist8 C dL_changes_19 (Nat.le_of_ble_eq_true rfl) rfl ?_
  refine j_aload C dL_changes_21 rfl ?_
  refine j_iconst (v := (nI 3)) C dL_changes_23 (by decide) ?_
  refine j_iload C dL_changes_24 rfl ?_
  refine j_imulN C dL_changes_26 ?_
  refine j_iconst (v := (nI 1)) C dL_changes_27 (by decide) ?_
  refine j_iaddN C dL_changes_28 ?_
  refine j_ialdN C (by first | assumption | rfl) rfl rfl (by omega) dL_changes_29 ?_
  refine j_if_le (tgt := 37) C dL_changes_30 (by decide) (fun h30 => ?_) (fun h30 => (by exact absurd (Int32.not_le.mp h30) hr))
  refine j_iconst (v := (nI 0)) C dL_changes_37 (by decide) ?_
  refine j_ist9 C dL_changes_38 (Nat.le_of_ble_eq_true rfl) rfl ?_
  refine j_iload_n C dL_changes_40 rfl rfl ?_
  refine j_if_ne (tgt := 126) C dL_changes_41 (by decide) (fun h41 => (by exact absurd (by decide) h41)) (fun h41 => ?_)
  refine j_iconst (v := (nI 1)) C dL_changes_44 (by decide) ?_
  refine j_iload_n C dL_changes_45 rfl rfl ?_
  refine j_iload_n C dL_changes_46 rfl rfl ?_
  refine j_iconst (v := (nI 2)) C dL_changes_47 (by decide) ?_
  refine j_callS2r C (c_L_at (by omega) (by omega) (by omega)) qm_L_44 qt_L_at qn_L qc_L_at fit_L_at ⟨Nat.le_of_ble_eq_true rfl, Nat.le_of_ble_eq_true rfl, Nat.le_of_ble_eq_true rfl, Nat.le_of_ble_eq_true rfl⟩ (Nat.le_of_ble_eq_true rfl) dL_changes_48 ?_
  refine j_tern (a := nI 60) (b := nI 8) (tgt := 59) (join := 61) C dL_changes_51 (by decide) (fun k => ?_) (fun k => ?_) ?_
  · refine j_bipush (v := (nI 60)) C dL_changes_54 (by decide) ?_
    refine j_goto (tgt := 61) C dL_changes_56 (by decide) ?_
    exact k
  · refine j_bipush (v := (nI 8)) C dL_changes_59 (by decide) ?_
    exact k
  refine j_tope (y := nI (if atN X 2 = 0 then 60 else 8)) (by exact ternN (atN_lt (by omega))) ?_
  refine j_callS2r C (c_L_at (by omega) (ite_pos (by omega) (by omega)) (ite_lt (by omega) (by omega))) qm_L_44 qt_L_at qn_L qc_L_at fit_L_at ⟨Nat.le_of_ble_eq_true rfl, Nat.le_of_ble_eq_true rfl, Nat.le_of_ble_eq_true rfl, Nat.le_of_ble_eq_true rfl⟩ (Nat.le_of_ble_eq_true rfl) dL_changes_61 ?_
  refine j_iaddN C dL_changes_64 ?_
  refine j_tope (y := nI n) (by rw [hn]) ?_
  refine j_ist10 C dL_changes_65 (Nat.le_of_ble_eq_true rfl) rfl ?_
  refine j_iload_n C dL_changes_67 rfl rfl ?_
  refine j_iconst (v := (nI 5)) C dL_changes_68 (by decide) ?_
  refine j_ishr C dL_changes_69 ?_
  refine j_tope (y := nI (Y / 32)) (by exact shrN (by omega) 5 (by decide)) ?_
  refine j_sipush (v := (nI 2001)) C dL_changes_70 (by decide) ?_
  refine j_callS2r C (c_L_at (by omega) (by omega) (by omega)) qm_L_44 qt_L_at qn_L qc_L_at fit_L_at ⟨Nat.le_of_ble_eq_true rfl, Nat.le_of_ble_eq_true rfl, Nat.le_of_ble_eq_true rfl, Nat.le_of_ble_eq_true rfl⟩ (Nat.le_of_ble_eq_true rfl) dL_changes_73 ?_
  refine j_tope (y := nI r) (by rw [hrr]) ?_
  refine j_ist11 C dL_changes_76 (Nat.le_of_ble_eq_true rfl) rfl ?_
  refine j_iload C dL_changes_78 rfl ?_
  refine j_if_eq (tgt := 120) C dL_changes_80 (by decide) (fun h80 => ?_) (fun h80 => (by exact absurd h80 (by decide)))
  refine j_iconst (v := (nI 1)) C dL_changes_120 (by decide) ?_
  refine j_goto (tgt := 125) C dL_changes_121 (by decide) ?_
  exact j_zret C dL_changes_125 (by first | rfl | exact nar_b2i) (by rfl) (by rfl) (by rfl)
set_option maxHeartbeats 4000000 in
theorem c_L_ch_term {l : Launch} {g : GC} {V : Mem} {L : LMem} {k nl ns : Nat} {X Y : Nat} (hX : X < 2 ^ 31) (hY : Y < 2 ^ 31) (h0 : V 224 0 = nI nl) (h8 : nl ≤ 8) (hk : atN (X / 4) nl = k) (hkl : k < nl) {n r : Nat} (hn : 1 + atN Y (if atN X 2 = 0 then 60 else 8) = n) (hrr : atN (Y / 32) 2001 = r) (hr : 0 < V 225 (3 * k + 1)) {z : Int32} {V1 V2 : Mem} (hT : MC l yX6_term cX6_term 5 (some .int) 5 g V L [.ref (ad g 223), .int (nI k), .int (nI n), .int (nI r)] (some (.int z)) V1 L) (hM : MC l yL_measure cL_measure 12 (some .int) 1 g V1 L [.int (nI k), .int (V1 225 (3 * k)), .int (nI n), .int (nI r), .ref (ad g 224), .ref (ad g 225), .ref (ad g 226), .ref (ad g 227)] (some (.int z)) V2 L) : MC l yL_changes cL_changes 15 (some .boolean) 6 g V L [.ref (ad g 223), .int (nI 0), .int (nI X), .int (nI Y), .ref (ad g 224), .ref (ad g 225), .ref (ad g 226), .ref (ad g 227)] (some (.int (nI 1))) V2 L := by
  refine MC.of [some (.ref (ad g 223)), some (.int (nI 0)), some (.int (nI X)), some (.int (nI Y)), some (.ref (ad g 224)), some (.ref (ad g 225)), some (.ref (ad g 226)), some (.ref (ad g 227)), none, none, none, none, none, none, none] (by decide +kernel) rfl (Nat.le_of_ble_eq_true rfl) (fun p e s m args below meth c C => ?_)
  refine j_aload C dL_changes_0 rfl ?_
  refine j_iconst (v := (nI 0)) C dL_changes_2 (by decide) ?_
  refine j_ialdN C (by first | assumption | rfl) rfl rfl (by omega) dL_changes_3 ?_
  refine j_tope (y := nI nl) (by exact h0) ?_
  refine j_if_ne (tgt := 9) C dL_changes_4 (by decide) (fun h4 => ?_) (fun h4 => (by exact absurd h4 (nI_ne0 (by omega) (by omega))))
  refine j_iload_n C dL_changes_9 rfl rfl ?_
  refine j_iconst (v := (nI 2)) C dL_changes_10 (by decide) ?_
  refine j_ishr C dL_changes_11 ?_
  refine j_tope (y := nI (X / 4)) (by exact shrN (by omega) 2 (by decide)) ?_
  refine j_aload C dL_changes_12 rfl ?_
  refine j_iconst (v := (nI 0)) C dL_changes_14 (by decide) ?_
  refine j_ialdN C (by first | assumption | rfl) rfl rfl (by omega) dL_changes_15 ?_
  refine j_tope (y := nI nl) (by exact h0) ?_
  refine j_callS2r C (c_L_at (by omega) (by omega) (by omega)) qm_L_44 qt_L_at qn_L qc_L_at fit_L_at ⟨Nat.le_of_ble_eq_true rfl, Nat.le_of_ble_eq_true rfl, Nat.le_of_ble_eq_true rfl, Nat.le_of_ble_eq_true rfl⟩ (Nat.le_of_ble_eq_true rfl) dL_changes_16 ?_
  refine j_tope (y := nI k) (by rw [hk]) ?_
  refine j_ist8 C dL_changes_19 (Nat.le_of_ble_eq_true rfl) rfl ?_
  refine j_aload C dL_changes_21 rfl ?_
  refine j_iconst (v := (nI 3)) C dL_changes_23 (by decide) ?_
  refine j_iload C dL_changes_24 rfl ?_
  refine j_imulN C dL_changes_26 ?_
  refine j_iconst (v := (nI 1)) C dL_changes_27 (by decide) ?_
  refine j_iaddN C dL_changes_28 ?_
  refine j_ialdN C (by first | assumption | rfl) rfl rfl (by omega) dL_changes_29 ?_
  refine j_if_le (tgt := 37) C dL_changes_30 (by decide) (fun h30 => (by exact absurd h30 (Int32.not_le.mpr hr))) (fun h30 => ?_)
  refine j_iconst (v := (nI 1)) C dL_changes_33 (by decide) ?_
  refine j_goto (tgt := 38) C dL_changes_34 (by decide) ?_
  refine j_ist9 C dL_changes_38 (Nat.le_of_ble_eq_true rfl) rfl ?_
  refine j_iload_n C dL_changes_40 rfl rfl ?_
  refine j_if_ne (tgt := 126) C dL_changes_41 (by decide) (fun h41 => (by exact absurd (by decide) h41)) (fun h41 => ?_)
  refine j_iconst (v := (nI 1)) C dL_changes_44 (by decide) ?_
  refine j_iload_n C dL_changes_45 rfl rfl ?_
  refine j_iload_n C dL_changes_46 rfl rfl ?_
  refine j_iconst (v := (nI 2)) C dL_changes_47 (by decide) ?_
  refine j_callS2r C (c_L_at (by omega) (by omega) (by omega)) qm_L_44 qt_L_at qn_L qc_L_at fit_L_at ⟨Nat.le_of_ble_eq_true rfl, Nat.le_of_ble_eq_true rfl, Nat.le_of_ble_eq_true rfl, Nat.le_of_ble_eq_true rfl⟩ (Nat.le_of_ble_eq_true rfl) dL_changes_48 ?_
  refine j_tern (a := nI 60) (b := nI 8) (tgt := 59) (join := 61) C dL_changes_51 (by decide) (fun k => ?_) (fun k => ?_) ?_
  · refine j_bipush (v := (nI 60)) C dL_changes_54 (by decide) ?_
    refine j_goto (tgt := 61) C dL_changes_56 (by decide) ?_
    exact k
  · refine j_bipush (v := (nI 8)) C dL_changes_59 (by decide) ?_
    exact k
  refine j_tope (y := nI (if atN X 2 = 0 then 60 else 8)) (by exact ternN (atN_lt (by omega))) ?_
  refine j_callS2r C (c_L_at (by omega) (ite_pos (by omega) (by omega)) (ite_lt (by omega) (by omega))) qm_L_44 qt_L_at qn_L qc_L_at fit_L_at ⟨Nat.le_of_ble_eq_true rfl, Nat.le_of_ble_eq_true rfl, Nat.le_of_ble_eq_true rfl, Nat.le_of_ble_eq_true rfl⟩ (Nat.le_of_ble_eq_true rfl) dL_changes_61 ?_
  refine j_iaddN C dL_changes_64 ?_
  refine j_tope (y := nI n) (by rw [hn]) ?_
  refine j_ist10 C dL_changes_65 (Nat.le_of_ble_eq_true rfl) rfl ?_
  refine j_iload_n C dL_changes_67 rfl rfl ?_
  refine j_iconst (v := (nI 5)) C dL_changes_68 (by decide) ?_
  refine j_ishr C dL_changes_69 ?_
  refine j_tope (y := nI (Y / 32)) (by exact shrN (by omega) 5 (by decide)) ?_
  refine j_sipush (v := (nI 2001)) C dL_changes_70 (by decide) ?_
  refine j_callS2r C (c_L_at (by omega) (by omega) (by omega)) qm_L_44 qt_L_at qn_L qc_L_at fit_L_at ⟨Nat.le_of_ble_eq_true rfl, Nat.le_of_ble_eq_true rfl, Nat.le_of_ble_eq_true rfl, Nat.le_of_ble_eq_true rfl⟩ (Nat.le_of_ble_eq_true rfl) dL_changes_73 ?_
  refine j_tope (y := nI r) (by rw [hrr]) ?_
  refine j_ist11 C dL_changes_76 (Nat.le_of_ble_eq_true rfl) rfl ?_
  refine j_iload C dL_changes_78 rfl ?_
  refine j_if_eq (tgt := 120) C dL_changes_80 (by decide) (fun h80 => (by exact absurd h80 (by decide))) (fun h80 => ?_)
  refine j_aload_n C dL_changes_83 rfl rfl ?_
  refine j_iload C dL_changes_84 rfl ?_
  refine j_iload C dL_changes_86 rfl ?_
  refine j_iload C dL_changes_88 rfl ?_
  refine j_callV3r C (oa_X6 (by first | assumption | rfl)) rfl rfl (hT) qm_L_47 qi_X6_term qs_X6_term qn_X6 qc_X6_term fit_X6_term ⟨Nat.le_of_ble_eq_true rfl, Nat.le_of_ble_eq_true rfl, Nat.le_of_ble_eq_true rfl, Nat.le_of_ble_eq_true rfl⟩ (Nat.le_of_ble_eq_true rfl) dL_changes_90 ?_
  refine j_iload C dL_changes_93 rfl ?_
  refine j_aload C dL_changes_95 rfl ?_
  refine j_iconst (v := (nI 3)) C dL_changes_97 (by decide) ?_
  refine j_iload C dL_changes_98 rfl ?_
  refine j_imulN C dL_changes_100 ?_
  refine j_ialdN C (by first | assumption | rfl) rfl rfl (by omega) dL_changes_101 ?_
  refine j_iload C dL_changes_102 rfl ?_
  refine j_iload C dL_changes_104 rfl ?_
  refine j_aload C dL_changes_106 rfl ?_
  refine j_aload C dL_changes_108 rfl ?_
  refine j_aload C dL_changes_110 rfl ?_
  refine j_aload C dL_changes_112 rfl ?_
  refine j_callS8r C (hM) qm_L_50 qt_L_measure qn_L qc_L_measure fit_L_measure ⟨Nat.le_of_ble_eq_true rfl, Nat.le_of_ble_eq_true rfl, Nat.le_of_ble_eq_true rfl, Nat.le_of_ble_eq_true rfl⟩ (Nat.le_of_ble_eq_true rfl) dL_changes_114 ?_
  refine j_icmp_ne (tgt := 124) C dL_changes_117 (by decide) (fun h117 => (by exact absurd rfl h117)) (fun h117 => ?_)
  refine j_iconst (v := (nI 1)) C dL_changes_120 (by decide) ?_
  refine j_goto (tgt := 125) C dL_changes_121 (by decide) ?_
  exact j_zret C dL_changes_125 (by first | rfl | exact nar_b2i) (by rfl) (by rfl) (by rfl)
set_option maxHeartbeats 4000000 in
theorem c_L_ch_rent0 {l : Launch} {g : GC} {V : Mem} {L : LMem} {k nl ns : Nat} {X Y : Nat} (hX : X < 2 ^ 31) (hY : Y < 2 ^ 31) (h0 : V 224 0 = nI nl) (h8 : nl ≤ 8) (hk : atN (X / 4) nl = k) (hkl : k < nl) {p1 : Nat} (hp : atN Y (if atN X 3 = 0 then 100001 else 3000) = p1) (hr : ¬ 0 < V 225 (3 * k + 1))  : MC l yL_changes cL_changes 15 (some .boolean) 6 g V L [.ref (ad g 223), .int (nI 1), .int (nI X), .int (nI Y), .ref (ad g 224), .ref (ad g 225), .ref (ad g 226), .ref (ad g 227)] (some (.int (nI 1))) V L := by
  refine MC.of [some (.ref (ad g 223)), some (.int (nI 1)), some (.int (nI X)), some (.int (nI Y)), some (.ref (ad g 224)), some (.ref (ad g 225)), some (.ref (ad g 226)), some (.ref (ad g 227)), none, none, none, none, none, none, none] (by decide +kernel) rfl (Nat.le_of_ble_eq_true rfl) (fun p e s m args below meth c C => ?_)
  refine j_aload C dL_changes_0 rfl ?_
  refine j_iconst (v := (nI 0)) C dL_changes_2 (by decide) ?_
  refine j_ialdN C (by first | assumption | rfl) rfl rfl (by omega) dL_changes_3 ?_
  refine j_tope (y := nI nl) (by exact h0) ?_
  refine j_if_ne (tgt := 9) C dL_changes_4 (by decide) (fun h4 => ?_) (fun h4 => (by exact absurd h4 (nI_ne0 (by omega) (by omega))))
  refine j_iload_n C dL_changes_9 rfl rfl ?_
  refine j_iconst (v := (nI 2)) C dL_changes_10 (by decide) ?_
  refine j_ishr C dL_changes_11 ?_
  refine j_tope (y := nI (X / 4)) (by exact shrN (by omega) 2 (by decide)) ?_
  refine j_aload C dL_changes_12 rfl ?_
  refine j_iconst (v := (nI 0)) C dL_changes_14 (by decide) ?_
  refine j_ialdN C (by first | assumption | rfl) rfl rfl (by omega) dL_changes_15 ?_
  refine j_tope (y := nI nl) (by exact h0) ?_
  refine j_callS2r C (c_L_at (by omega) (by omega) (by omega)) qm_L_44 qt_L_at qn_L qc_L_at fit_L_at ⟨Nat.le_of_ble_eq_true rfl, Nat.le_of_ble_eq_true rfl, Nat.le_of_ble_eq_true rfl, Nat.le_of_ble_eq_true rfl⟩ (Nat.le_of_ble_eq_true rfl) dL_changes_16 ?_
  refine j_tope (y := nI k) (by rw [hk]) ?_
  refine j_ist8 C dL_changes_19 (Nat.le_of_ble_eq_true rfl) rfl ?_
  refine j_aload C dL_changes_21 rfl ?_
  refine j_iconst (v := (nI 3)) C dL_changes_23 (by decide) ?_
  refine j_iload C dL_changes_24 rfl ?_
  refine j_imulN C dL_changes_26 ?_
  refine j_iconst (v := (nI 1)) C dL_changes_27 (by decide) ?_
  refine j_iaddN C dL_changes_28 ?_
  refine j_ialdN C (by first | assumption | rfl) rfl rfl (by omega) dL_changes_29 ?_
  refine j_if_le (tgt := 37) C dL_changes_30 (by decide) (fun h30 => ?_) (fun h30 => (by exact absurd (Int32.not_le.mp h30) hr))
  refine j_iconst (v := (nI 0)) C dL_changes_37 (by decide) ?_
  refine j_ist9 C dL_changes_38 (Nat.le_of_ble_eq_true rfl) rfl ?_
  refine j_iload_n C dL_changes_40 rfl rfl ?_
  refine j_if_ne (tgt := 126) C dL_changes_41 (by decide) (fun h41 => ?_) (fun h41 => (by exact absurd h41 (by decide)))
  refine j_iload_n C dL_changes_126 rfl rfl ?_
  refine j_iconst (v := (nI 1)) C dL_changes_127 (by decide) ?_
  refine j_icmp_ne (tgt := 208) C dL_changes_128 (by decide) (fun h128 => (by exact absurd rfl h128)) (fun h128 => ?_)
  refine j_iload_n C dL_changes_131 rfl rfl ?_
  refine j_iload_n C dL_changes_132 rfl rfl ?_
  refine j_iconst (v := (nI 3)) C dL_changes_133 (by decide) ?_
  refine j_callS2r C (c_L_at (by omega) (by omega) (by omega)) qm_L_44 qt_L_at qn_L qc_L_at fit_L_at ⟨Nat.le_of_ble_eq_true rfl, Nat.le_of_ble_eq_true rfl, Nat.le_of_ble_eq_true rfl, Nat.le_of_ble_eq_true rfl⟩ (Nat.le_of_ble_eq_true rfl) dL_changes_134 ?_
  refine j_tern (a := nI 100001) (b := nI 3000) (tgt := 145) (join := 148) C dL_changes_137 (by decide) (fun k => ?_) (fun k => ?_) ?_
  · refine j_ldc (v := nI 100001) C qk_L_54 dL_changes_140 ?_
    refine j_goto (tgt := 148) C dL_changes_142 (by decide) ?_
    exact k
  · refine j_sipush (v := (nI 3000)) C dL_changes_145 (by decide) ?_
    exact k
  refine j_tope (y := nI (if atN X 3 = 0 then 100001 else 3000)) (by exact ternN (atN_lt (by omega))) ?_
  refine j_callS2r C (c_L_at (by omega) (ite_pos (by omega) (by omega)) (ite_lt (by omega) (by omega))) qm_L_44 qt_L_at qn_L qc_L_at fit_L_at ⟨Nat.le_of_ble_eq_true rfl, Nat.le_of_ble_eq_true rfl, Nat.le_of_ble_eq_true rfl, Nat.le_of_ble_eq_true rfl⟩ (Nat.le_of_ble_eq_true rfl) dL_changes_148 ?_
  refine j_tope (y := nI p1) (by rw [hp]) ?_
  refine j_ist10 C dL_changes_151 (Nat.le_of_ble_eq_true rfl) rfl ?_
  refine j_iload C dL_changes_153 rfl ?_
  refine j_if_eq (tgt := 202) C dL_changes_155 (by decide) (fun h155 => ?_) (fun h155 => (by exact absurd h155 (by decide)))
  refine j_iconst (v := (nI 1)) C dL_changes_202 (by decide) ?_
  refine j_goto (tgt := 207) C dL_changes_203 (by decide) ?_
  exact j_zret C dL_changes_207 (by first | rfl | exact nar_b2i) (by rfl) (by rfl) (by rfl)
set_option maxHeartbeats 4000000 in
theorem c_L_ch_rent {l : Launch} {g : GC} {V : Mem} {L : LMem} {k nl ns : Nat} {X Y : Nat} (hX : X < 2 ^ 31) (hY : Y < 2 ^ 31) (h0 : V 224 0 = nI nl) (h8 : nl ≤ 8) (hk : atN (X / 4) nl = k) (hkl : k < nl) {p1 : Nat} (hp : atN Y (if atN X 3 = 0 then 100001 else 3000) = p1) (hr : 0 < V 225 (3 * k + 1)) {z : Int32} {V1 V2 : Mem} (hT : MC l yX6_rent cX6_rent 4 (some .int) 5 g V L [.ref (ad g 223), .int (nI k), .int (nI p1)] (some (.int z)) V1 L) (hM : MC l yL_measure cL_measure 12 (some .int) 1 g V1 L [.int (nI k), .int (nI p1), .int (V1 225 (3 * k + 1)), .int (V1 225 (3 * k + 2)), .ref (ad g 224), .ref (ad g 225), .ref (ad g 226), .ref (ad g 227)] (some (.int z)) V2 L) : MC l yL_changes cL_changes 15 (some .boolean) 6 g V L [.ref (ad g 223), .int (nI 1), .int (nI X), .int (nI Y), .ref (ad g 224), .ref (ad g 225), .ref (ad g 226), .ref (ad g 227)] (some (.int (nI 1))) V2 L := by
  refine MC.of [some (.ref (ad g 223)), some (.int (nI 1)), some (.int (nI X)), some (.int (nI Y)), some (.ref (ad g 224)), some (.ref (ad g 225)), some (.ref (ad g 226)), some (.ref (ad g 227)), none, none, none, none, none, none, none] (by decide +kernel) rfl (Nat.le_of_ble_eq_true rfl) (fun p e s m args below meth c C => ?_)
  refine j_aload C dL_changes_0 rfl ?_
  refine j_iconst (v := (nI 0)) C dL_changes_2 (by decide) ?_
  refine j_ialdN C (by first | assumption | rfl) rfl rfl (by omega) dL_changes_3 ?_
  refine j_tope (y := nI nl) (by exact h0) ?_
  refine j_if_ne (tgt := 9) C dL_changes_4 (by decide) (fun h4 => ?_) (fun h4 => (by exact absurd h4 (nI_ne0 (by omega) (by omega))))
  refine j_iload_n C dL_changes_9 rfl rfl ?_
  refine j_iconst (v := (nI 2)) C dL_changes_10 (by decide) ?_
  refine j_ishr C dL_changes_11 ?_
  refine j_tope (y := nI (X / 4)) (by exact shrN (by omega) 2 (by decide)) ?_
  refine j_aload C dL_changes_12 rfl ?_
  refine j_iconst (v := (nI 0)) C dL_changes_14 (by decide) ?_
  refine j_ialdN C (by first | assumption | rfl) rfl rfl (by omega) dL_changes_15 ?_
  refine j_tope (y := nI nl) (by exact h0) ?_
  refine j_callS2r C (c_L_at (by omega) (by omega) (by omega)) qm_L_44 qt_L_at qn_L qc_L_at fit_L_at ⟨Nat.le_of_ble_eq_true rfl, Nat.le_of_ble_eq_true rfl, Nat.le_of_ble_eq_true rfl, Nat.le_of_ble_eq_true rfl⟩ (Nat.le_of_ble_eq_true rfl) dL_changes_16 ?_
  refine j_tope (y := nI k) (by rw [hk]) ?_
  refine j_ist8 C dL_changes_19 (Nat.le_of_ble_eq_true rfl) rfl ?_
  refine j_aload C dL_changes_21 rfl ?_
  refine j_iconst (v := (nI 3)) C dL_changes_23 (by decide) ?_
  refine j_iload C dL_changes_24 rfl ?_
  refine j_imulN C dL_changes_26 ?_
  refine j_iconst (v := (nI 1)) C dL_changes_27 (by decide) ?_
  refine j_iaddN C dL_changes_28 ?_
  refine j_ialdN C (by first | assumption | rfl) rfl rfl (by omega) dL_changes_29 ?_
  refine j_if_le (tgt := 37) C dL_changes_30 (by decide) (fun h30 => (by exact absurd h30 (Int32.not_le.mpr hr))) (fun h30 => ?_)
  refine j_iconst (v := (nI 1)) C dL_changes_33 (by decide) ?_
  refine j_goto (tgt := 38) C dL_changes_34 (by decide) ?_
  refine j_ist9 C dL_changes_38 (Nat.le_of_ble_eq_true rfl) rfl ?_
  refine j_iload_n C dL_changes_40 rfl rfl ?_
  refine j_if_ne (tgt := 126) C dL_changes_41 (by decide) (fun h41 => ?_) (fun h41 => (by exact absurd h41 (by decide)))
  refine j_iload_n C dL_changes_126 rfl rfl ?_
  refine j_iconst (v := (nI 1)) C dL_changes_127 (by decide) ?_
  refine j_icmp_ne (tgt := 208) C dL_changes_128 (by decide) (fun h128 => (by exact absurd rfl h128)) (fun h128 => ?_)
  refine j_iload_n C dL_changes_131 rfl rfl ?_
  refine j_iload_n C dL_changes_132 rfl rfl ?_
  refine j_iconst (v := (nI 3)) C dL_changes_133 (by decide) ?_
  refine j_callS2r C (c_L_at (by omega) (by omega) (by omega)) qm_L_44 qt_L_at qn_L qc_L_at fit_L_at ⟨Nat.le_of_ble_eq_true rfl, Nat.le_of_ble_eq_true rfl, Nat.le_of_ble_eq_true rfl, Nat.le_of_ble_eq_true rfl⟩ (Nat.le_of_ble_eq_true rfl) dL_changes_134 ?_
  refine j_tern (a := nI 100001) (b := nI 3000) (tgt := 145) (join := 148) C dL_changes_137 (by decide) (fun k => ?_) (fun k => ?_) ?_
  · refine j_ldc (v := nI 100001) C qk_L_54 dL_changes_140 ?_
    refine j_goto (tgt := 148) C dL_changes_142 (by decide) ?_
    exact k
  · refine j_sipush (v := (nI 3000)) C dL_changes_145 (by decide) ?_
    exact k
  refine j_tope (y := nI (if atN X 3 = 0 then 100001 else 3000)) (by exact ternN (atN_lt (by omega))) ?_
  refine j_callS2r C (c_L_at (by omega) (ite_pos (by omega) (by omega)) (ite_lt (by omega) (by omega))) qm_L_44 qt_L_at qn_L qc_L_at fit_L_at ⟨Nat.le_of_ble_eq_true rfl, Nat.le_of_ble_eq_true rfl, Nat.le_of_ble_eq_true rfl, Nat.le_of_ble_eq_true rfl⟩ (Nat.le_of_ble_eq_true rfl) dL_changes_148 ?_
  refine j_tope (y := nI p1) (by rw [hp]) ?_
  refine j_ist10 C dL_changes_151 (Nat.le_of_ble_eq_true rfl) rfl ?_
  refine j_iload C dL_changes_153 rfl ?_
  refine j_if_eq (tgt := 202) C dL_changes_155 (by decide) (fun h155 => (by exact absurd h155 (by decide))) (fun h155 => ?_)
  refine j_aload_n C dL_changes_158 rfl rfl ?_
  refine j_iload C dL_changes_159 rfl ?_
  refine j_iload C dL_changes_161 rfl ?_
  refine j_callV2r C (oa_X6 (by first | assumption | rfl)) rfl rfl (hT) qm_L_55 qi_X6_rent qs_X6_rent qn_X6 qc_X6_rent fit_X6_rent ⟨Nat.le_of_ble_eq_true rfl, Nat.le_of_ble_eq_true rfl, Nat.le_of_ble_eq_true rfl, Nat.le_of_ble_eq_true rfl⟩ (Nat.le_of_ble_eq_true rfl) dL_changes_163 ?_
  refine j_iload C dL_changes_166 rfl ?_
  refine j_iload C dL_changes_168 rfl ?_
  refine j_aload C dL_changes_170 rfl ?_
  refine j_iconst (v := (nI 3)) C dL_changes_172 (by decide) ?_
  refine j_iload C dL_changes_173 rfl ?_
  refine j_imulN C dL_changes_175 ?_
  refine j_iconst (v := (nI 1)) C dL_changes_176 (by decide) ?_
  refine j_iaddN C dL_changes_177 ?_
  refine j_ialdN C (by first | assumption | rfl) rfl rfl (by omega) dL_changes_178 ?_
  refine j_aload C dL_changes_179 rfl ?_
  refine j_iconst (v := (nI 3)) C dL_changes_181 (by decide) ?_
  refine j_iload C dL_changes_182 rfl ?_
  refine j_imulN C dL_changes_184 ?_
  refine j_iconst (v := (nI 2)) C dL_changes_185 (by decide) ?_
  refine j_iaddN C dL_changes_186 ?_
  refine j_ialdN C (by first | assumption | rfl) rfl rfl (by omega) dL_changes_187 ?_
  refine j_aload C dL_changes_188 rfl ?_
  refine j_aload C dL_changes_190 rfl ?_
  refine j_aload C dL_changes_192 rfl ?_
  refine j_aload C dL_changes_194 rfl ?_
  refine j_callS8r C (hM) qm_L_50 qt_L_measure qn_L qc_L_measure fit_L_measure ⟨Nat.le_of_ble_eq_true rfl, Nat.le_of_ble_eq_true rfl, Nat.le_of_ble_eq_true rfl, Nat.le_of_ble_eq_true rfl⟩ (Nat.le_of_ble_eq_true rfl) dL_changes_196 ?_
  refine j_icmp_ne (tgt := 206) C dL_changes_199 (by decide) (fun h199 => (by exact absurd rfl h199)) (fun h199 => ?_)
  refine j_iconst (v := (nI 1)) C dL_changes_202 (by decide) ?_
  refine j_goto (tgt := 207) C dL_changes_203 (by decide) ?_
  exact j_zret C dL_changes_207 (by first | rfl | exact nar_b2i) (by rfl) (by rfl) (by rfl)
set_option maxHeartbeats 4000000 in
theorem c_L_ch_end0 {l : Launch} {g : GC} {V : Mem} {L : LMem} {k nl ns : Nat} {X Y : Nat} (hX : X < 2 ^ 31) (hY : Y < 2 ^ 31) (h0 : V 224 0 = nI nl) (h8 : nl ≤ 8) (hk : atN (X / 4) nl = k) (hkl : k < nl) (hr : ¬ 0 < V 225 (3 * k + 1))  : MC l yL_changes cL_changes 15 (some .boolean) 6 g V L [.ref (ad g 223), .int (nI 2), .int (nI X), .int (nI Y), .ref (ad g 224), .ref (ad g 225), .ref (ad g 226), .ref (ad g 227)] (some (.int (nI 1))) V L := by
  refine MC.of [some (.ref (ad g 223)), some (.int (nI 2)), some (.int (nI X)), some (.int (nI Y)), some (.ref (ad g 224)), some (.ref (ad g 225)), some (.ref (ad g 226)), some (.ref (ad g 227)), none, none, none, none, none, none, none] (by decide +kernel) rfl (Nat.le_of_ble_eq_true rfl) (fun p e s m args below meth c C => ?_)
  refine j_aload C dL_changes_0 rfl ?_
  refine j_iconst (v := (nI 0)) C dL_changes_2 (by decide) ?_
  refine j_ialdN C (by first | assumption | rfl) rfl rfl (by omega) dL_changes_3 ?_
  refine j_tope (y := nI nl) (by exact h0) ?_
  refine j_if_ne (tgt := 9) C dL_changes_4 (by decide) (fun h4 => ?_) (fun h4 => (by exact absurd h4 (nI_ne0 (by omega) (by omega))))
  refine j_iload_n C dL_changes_9 rfl rfl ?_
  refine j_iconst (v := (nI 2)) C dL_changes_10 (by decide) ?_
  refine j_ishr C dL_changes_11 ?_
  refine j_tope (y := nI (X / 4)) (by exact shrN (by omega) 2 (by decide)) ?_
  refine j_aload C dL_changes_12 rfl ?_
  refine j_iconst (v := (nI 0)) C dL_changes_14 (by decide) ?_
  refine j_ialdN C (by first | assumption | rfl) rfl rfl (by omega) dL_changes_15 ?_
  refine j_tope (y := nI nl) (by exact h0) ?_
  refine j_callS2r C (c_L_at (by omega) (by omega) (by omega)) qm_L_44 qt_L_at qn_L qc_L_at fit_L_at ⟨Nat.le_of_ble_eq_true rfl, Nat.le_of_ble_eq_true rfl, Nat.le_of_ble_eq_true rfl, Nat.le_of_ble_eq_true rfl⟩ (Nat.le_of_ble_eq_true rfl) dL_changes_16 ?_
  refine j_tope (y := nI k) (by rw [hk]) ?_
  refine j_ist8 C dL_changes_19 (Nat.le_of_ble_eq_true rfl) rfl ?_
  refine j_aload C dL_changes_21 rfl ?_
  refine j_iconst (v := (nI 3)) C dL_changes_23 (by decide) ?_
  refine j_iload C dL_changes_24 rfl ?_
  refine j_imulN C dL_changes_26 ?_
  refine j_iconst (v := (nI 1)) C dL_changes_27 (by decide) ?_
  refine j_iaddN C dL_changes_28 ?_
  refine j_ialdN C (by first | assumption | rfl) rfl rfl (by omega) dL_changes_29 ?_
  refine j_if_le (tgt := 37) C dL_changes_30 (by decide) (fun h30 => ?_) (fun h30 => (by exact absurd (Int32.not_le.mp h30) hr))
  refine j_iconst (v := (nI 0)) C dL_changes_37 (by decide) ?_
  refine j_ist9 C dL_changes_38 (Nat.le_of_ble_eq_true rfl) rfl ?_
  refine j_iload_n C dL_changes_40 rfl rfl ?_
  refine j_if_ne (tgt := 126) C dL_changes_41 (by decide) (fun h41 => ?_) (fun h41 => (by exact absurd h41 (by decide)))
  refine j_iload_n C dL_changes_126 rfl rfl ?_
  refine j_iconst (v := (nI 1)) C dL_changes_127 (by decide) ?_
  refine j_icmp_ne (tgt := 208) C dL_changes_128 (by decide) (fun h128 => ?_) (fun h128 => (by exact absurd h128 (by decide)))
  refine j_iload_n C dL_changes_208 rfl rfl ?_
  refine j_iconst (v := (nI 2)) C dL_changes_209 (by decide) ?_
  refine j_icmp_ne (tgt := 413) C dL_changes_210 (by decide) (fun h210 => (by exact absurd rfl h210)) (fun h210 => ?_)
  refine j_iload C dL_changes_213 rfl ?_
  refine j_if_eq (tgt := 234) C dL_changes_215 (by decide) (fun h215 => ?_) (fun h215 => (by exact absurd h215 (by decide)))
  refine j_iconst (v := (nI 1)) C dL_changes_234 (by decide) ?_
  exact j_zret C dL_changes_235 (by first | rfl | exact nar_b2i) (by rfl) (by rfl) (by rfl)
set_option maxHeartbeats 4000000 in
theorem c_L_ch_end1 {l : Launch} {g : GC} {V : Mem} {L : LMem} {k nl ns : Nat} {X Y : Nat} (hX : X < 2 ^ 31) (hY : Y < 2 ^ 31) (h0 : V 224 0 = nI nl) (h8 : nl ≤ 8) (hk : atN (X / 4) nl = k) (hkl : k < nl) (hr : 0 < V 225 (3 * k + 1)) (h1 : V 224 1 = nI ns) (h12 : ns ≤ 12) (ho : 0 < lOf V k 8 ns) : MC l yL_changes cL_changes 15 (some .boolean) 6 g V L [.ref (ad g 223), .int (nI 2), .int (nI X), .int (nI Y), .ref (ad g 224), .ref (ad g 225), .ref (ad g 226), .ref (ad g 227)] (some (.int (nI 1))) V L := by
  refine MC.of [some (.ref (ad g 223)), some (.int (nI 2)), some (.int (nI X)), some (.int (nI Y)), some (.ref (ad g 224)), some (.ref (ad g 225)), some (.ref (ad g 226)), some (.ref (ad g 227)), none, none, none, none, none, none, none] (by decide +kernel) rfl (Nat.le_of_ble_eq_true rfl) (fun p e s m args below meth c C => ?_)
  refine j_aload C dL_changes_0 rfl ?_
  refine j_iconst (v := (nI 0)) C dL_changes_2 (by decide) ?_
  refine j_ialdN C (by first | assumption | rfl) rfl rfl (by omega) dL_changes_3 ?_
  refine j_tope (y := nI nl) (by exact h0) ?_
  refine j_if_ne (tgt := 9) C dL_changes_4 (by decide) (fun h4 => ?_) (fun h4 => (by exact absurd h4 (nI_ne0 (by omega) (by omega))))
  refine j_iload_n C dL_changes_9 rfl rfl ?_
  refine j_iconst (v := (nI 2)) C dL_changes_10 (by decide) ?_
  refine j_ishr C dL_changes_11 ?_
  refine j_tope (y := nI (X / 4)) (by exact shrN (by omega) 2 (by decide)) ?_
  refine j_aload C dL_changes_12 rfl ?_
  refine j_iconst (v := (nI 0)) C dL_changes_14 (by decide) ?_
  refine j_ialdN C (by first | assumption | rfl) rfl rfl (by omega) dL_changes_15 ?_
  refine j_tope (y := nI nl) (by exact h0) ?_
  refine j_callS2r C (c_L_at (by omega) (by omega) (by omega)) qm_L_44 qt_L_at qn_L qc_L_at fit_L_at ⟨Nat.le_of_ble_eq_true rfl, Nat.le_of_ble_eq_true rfl, Nat.le_of_ble_eq_true rfl, Nat.le_of_ble_eq_true rfl⟩ (Nat.le_of_ble_eq_true rfl) dL_changes_16 ?_
  refine j_tope (y := nI k) (by rw [hk]) ?_
  refine j_ist8 C dL_changes_19 (Nat.le_of_ble_eq_true rfl) rfl ?_
  refine j_aload C dL_changes_21 rfl ?_
  refine j_iconst (v := (nI 3)) C dL_changes_23 (by decide) ?_
  refine j_iload C dL_changes_24 rfl ?_
  refine j_imulN C dL_changes_26 ?_
  refine j_iconst (v := (nI 1)) C dL_changes_27 (by decide) ?_
  refine j_iaddN C dL_changes_28 ?_
  refine j_ialdN C (by first | assumption | rfl) rfl rfl (by omega) dL_changes_29 ?_
  refine j_if_le (tgt := 37) C dL_changes_30 (by decide) (fun h30 => (by exact absurd h30 (Int32.not_le.mpr hr))) (fun h30 => ?_)
  refine j_iconst (v := (nI 1)) C dL_changes_33 (by decide) ?_
  refine j_goto (tgt := 38) C dL_changes_34 (by decide) ?_
  refine j_ist9 C dL_changes_38 (Nat.le_of_ble_eq_true rfl) rfl ?_
  refine j_iload_n C dL_changes_40 rfl rfl ?_
  refine j_if_ne (tgt := 126) C dL_changes_41 (by decide) (fun h41 => ?_) (fun h41 => (by exact absurd h41 (by decide)))
  refine j_iload_n C dL_changes_126 rfl rfl ?_
  refine j_iconst (v := (nI 1)) C dL_changes_127 (by decide) ?_
  refine j_icmp_ne (tgt := 208) C dL_changes_128 (by decide) (fun h128 => ?_) (fun h128 => (by exact absurd h128 (by decide)))
  refine j_iload_n C dL_changes_208 rfl rfl ?_
  refine j_iconst (v := (nI 2)) C dL_changes_209 (by decide) ?_
  refine j_icmp_ne (tgt := 413) C dL_changes_210 (by decide) (fun h210 => (by exact absurd rfl h210)) (fun h210 => ?_)
  refine j_iload C dL_changes_213 rfl ?_
  refine j_if_eq (tgt := 234) C dL_changes_215 (by decide) (fun h215 => (by exact absurd h215 (by decide))) (fun h215 => ?_)
  refine j_iload C dL_changes_218 rfl ?_
  refine j_bipush (v := (nI 8)) C dL_changes_220 (by decide) ?_
  refine j_aload C dL_changes_222 rfl ?_
  refine j_aload C dL_changes_224 rfl ?_
  refine j_aload C dL_changes_226 rfl ?_
  refine j_callS5r C (c_L_off8 h1 h12) qm_L_20 qt_L_off qn_L qc_L_off fit_L_off ⟨Nat.le_of_ble_eq_true rfl, Nat.le_of_ble_eq_true rfl, Nat.le_of_ble_eq_true rfl, Nat.le_of_ble_eq_true rfl⟩ (Nat.le_of_ble_eq_true rfl) dL_changes_228 ?_
  refine j_if_le (tgt := 236) C dL_changes_231 (by decide) (fun h231 => (by exact absurd h231 (Int32.not_le.mpr ho))) (fun h231 => ?_)
  refine j_iconst (v := (nI 1)) C dL_changes_234 (by decide) ?_
  exact j_zret C dL_changes_235 (by first | rfl | exact nar_b2i) (by rfl) (by rfl) (by rfl)
set_option maxHeartbeats 4000000 in
theorem c_L_ch_end {l : Launch} {g : GC} {V : Mem} {L : LMem} {k nl ns : Nat} {X Y : Nat} (hX : X < 2 ^ 31) (hY : Y < 2 ^ 31) (h0 : V 224 0 = nI nl) (h8 : nl ≤ 8) (hk : atN (X / 4) nl = k) (hkl : k < nl) (hr : 0 < V 225 (3 * k + 1)) (h1 : V 224 1 = nI ns) (h12 : ns ≤ 12) (ho : ¬ 0 < lOf V k 8 ns) {t fee : Nat} (ht : 1 + atN Y 1000 = t) (hf : atN (Y / 64) 500 = fee) (hw : money (V 225 (3 * k) - prt (V 225 (3 * k)) (nI t)) ∧ perR (V 225 (3 * k + 1)) ∧ rateR (V 225 (3 * k + 2))) {V2 : Mem} (hT : MC l yX6_endPart cX6_endPart 5 (some .int) 5 g (lEnd k (nI t) (nI fee) V) L [.ref (ad g 223), .int (nI k), .int (nI t), .int (nI fee)] (some (.int (lEndB k (nI t) (nI fee) V))) V2 L) : MC l yL_changes cL_changes 15 (some .boolean) 6 g V L [.ref (ad g 223), .int (nI 2), .int (nI X), .int (nI Y), .ref (ad g 224), .ref (ad g 225), .ref (ad g 226), .ref (ad g 227)] (some (.int (nI 1))) V2 L := by
  refine MC.of [some (.ref (ad g 223)), some (.int (nI 2)), some (.int (nI X)), some (.int (nI Y)), some (.ref (ad g 224)), some (.ref (ad g 225)), some (.ref (ad g 226)), some (.ref (ad g 227)), none, none, none, none, none, none, none] (by decide +kernel) rfl (Nat.le_of_ble_eq_true rfl) (fun p e s m args below meth c C => ?_)
  refine j_aload C dL_changes_0 rfl ?_
  refine j_iconst (v := (nI 0)) C dL_changes_2 (by decide) ?_
  refine j_ialdN C (by first | assumption | rfl) rfl rfl (by omega) dL_changes_3 ?_
  refine j_tope (y := nI nl) (by exact h0) ?_
  refine j_if_ne (tgt := 9) C dL_changes_4 (by decide) (fun h4 => ?_) (fun h4 => (by exact absurd h4 (nI_ne0 (by omega) (by omega))))
  refine j_iload_n C dL_changes_9 rfl rfl ?_
  refine j_iconst (v := (nI 2)) C dL_changes_10 (by decide) ?_
  refine j_ishr C dL_changes_11 ?_
  refine j_tope (y := nI (X / 4)) (by exact shrN (by omega) 2 (by decide)) ?_
  refine j_aload C dL_changes_12 rfl ?_
  refine j_iconst (v := (nI 0)) C dL_changes_14 (by decide) ?_
  refine j_ialdN C (by first | assumption | rfl) rfl rfl (by omega) dL_changes_15 ?_
  refine j_tope (y := nI nl) (by exact h0) ?_
  refine j_callS2r C (c_L_at (by omega) (by omega) (by omega)) qm_L_44 qt_L_at qn_L qc_L_at fit_L_at ⟨Nat.le_of_ble_eq_true rfl, Nat.le_of_ble_eq_true rfl, Nat.le_of_ble_eq_true rfl, Nat.le_of_ble_eq_true rfl⟩ (Nat.le_of_ble_eq_true rfl) dL_changes_16 ?_
  refine j_tope (y := nI k) (by rw [hk]) ?_
  refine j_ist8 C dL_changes_19 (Nat.le_of_ble_eq_true rfl) rfl ?_
  refine j_aload C dL_changes_21 rfl ?_
  refine j_iconst (v := (nI 3)) C dL_changes_23 (by decide) ?_
  refine j_iload C dL_changes_24 rfl ?_
  refine j_imulN C dL_changes_26 ?_
  refine j_iconst (v := (nI 1)) C dL_changes_27 (by decide) ?_
  refine j_iaddN C dL_changes_28 ?_
  refine j_ialdN C (by first | assumption | rfl) rfl rfl (by omega) dL_changes_29 ?_
  refine j_if_le (tgt := 37) C dL_changes_30 (by decide) (fun h30 => (by exact absurd h30 (Int32.not_le.mpr hr))) (fun h30 => ?_)
  refine j_iconst (v := (nI 1)) C dL_changes_33 (by decide) ?_
  refine j_goto (tgt := 38) C dL_changes_34 (by decide) ?_
  refine j_ist9 C dL_changes_38 (Nat.le_of_ble_eq_true rfl) rfl ?_
  refine j_iload_n C dL_changes_40 rfl rfl ?_
  refine j_if_ne (tgt := 126) C dL_changes_41 (by decide) (fun h41 => ?_) (fun h41 => (by exact absurd h41 (by decide)))
  refine j_iload_n C dL_changes_126 rfl rfl ?_
  refine j_iconst (v := (nI 1)) C dL_changes_127 (by decide) ?_
  refine j_icmp_ne (tgt := 208) C dL_changes_128 (by decide) (fun h128 => ?_) (fun h128 => (by exact absurd h128 (by decide)))
  refine j_iload_n C dL_changes_208 rfl rfl ?_
  refine j_iconst (v := (nI 2)) C dL_changes_209 (by decide) ?_
  refine j_icmp_ne (tgt := 413) C dL_changes_210 (by decide) (fun h210 => (by exact absurd rfl h210)) (fun h210 => ?_)
  refine j_iload C dL_changes_213 rfl ?_
  refine j_if_eq (tgt := 234) C dL_changes_215 (by decide) (fun h215 => (by exact absurd h215 (by decide))) (fun h215 => ?_)
  refine j_iload C dL_changes_218 rfl ?_
  refine j_bipush (v := (nI 8)) C dL_changes_220 (by decide) ?_
  refine j_aload C dL_changes_222 rfl ?_
  refine j_aload C dL_changes_224 rfl ?_
  refine j_aload C dL_changes_226 rfl ?_
  refine j_callS5r C (c_L_off8 h1 h12) qm_L_20 qt_L_off qn_L qc_L_off fit_L_off ⟨Nat.le_of_ble_eq_true rfl, Nat.le_of_ble_eq_true rfl, Nat.le_of_ble_eq_true rfl, Nat.le_of_ble_eq_true rfl⟩ (Nat.le_of_ble_eq_true rfl) dL_changes_228 ?_
  refine j_if_le (tgt := 236) C dL_changes_231 (by decide) (fun h231 => ?_) (fun h231 => (by exact absurd (Int32.not_le.mp h231) ho))
  refine j_iconst (v := (nI 1)) C dL_changes_236 (by decide) ?_
  refine j_iload_n C dL_changes_237 rfl rfl ?_
  refine j_sipush (v := (nI 1000)) C dL_changes_238 (by decide) ?_
  refine j_callS2r C (c_L_at (by omega) (by omega) (by omega)) qm_L_44 qt_L_at qn_L qc_L_at fit_L_at ⟨Nat.le_of_ble_eq_true rfl, Nat.le_of_ble_eq_true rfl, Nat.le_of_ble_eq_true rfl, Nat.le_of_ble_eq_true rfl⟩ (Nat.le_of_ble_eq_true rfl) dL_changes_241 ?_
  refine j_iaddN C dL_changes_244 ?_
  refine j_tope (y := nI t) (by rw [ht]) ?_
  refine j_ist10 C dL_changes_245 (Nat.le_of_ble_eq_true rfl) rfl ?_
  refine j_iload_n C dL_changes_247 rfl rfl ?_
  refine j_bipush (v := (nI 6)) C dL_changes_248 (by decide) ?_
  refine j_ishr C dL_changes_250 ?_
  refine j_tope (y := nI (Y / 64)) (by exact shrN (by omega) 6 (by decide)) ?_
  refine j_sipush (v := (nI 500)) C dL_changes_251 (by decide) ?_
  refine j_callS2r C (c_L_at (by omega) (by omega) (by omega)) qm_L_44 qt_L_at qn_L qc_L_at fit_L_at ⟨Nat.le_of_ble_eq_true rfl, Nat.le_of_ble_eq_true rfl, Nat.le_of_ble_eq_true rfl, Nat.le_of_ble_eq_true rfl⟩ (Nat.le_of_ble_eq_true rfl) dL_changes_254 ?_
  refine j_tope (y := nI fee) (by rw [hf]) ?_
  refine j_ist11 C dL_changes_257 (Nat.le_of_ble_eq_true rfl) rfl ?_
  refine j_aload C dL_changes_259 rfl ?_
  refine j_bipush (v := (nI 11)) C dL_changes_261 (by decide) ?_
  refine j_iload C dL_changes_263 rfl ?_
  refine j_iaddN C dL_changes_265 ?_
  refine j_ialdN C (by first | assumption | rfl) rfl rfl (by omega) dL_changes_266 ?_
  refine j_iload C dL_changes_267 rfl ?_
  refine j_callS2r C (c_L_part) qm_L_58 qt_L_part qn_L qc_L_part fit_L_part ⟨Nat.le_of_ble_eq_true rfl, Nat.le_of_ble_eq_true rfl, Nat.le_of_ble_eq_true rfl, Nat.le_of_ble_eq_true rfl⟩ (Nat.le_of_ble_eq_true rfl) dL_changes_269 ?_
  refine j_ist12 C dL_changes_272 (Nat.le_of_ble_eq_true rfl) rfl ?_
  refine j_aload C dL_changes_274 rfl ?_
  refine j_iconst (v := (nI 3)) C dL_changes_276 (by decide) ?_
  refine j_iload C dL_changes_277 rfl ?_
  refine j_imulN C dL_changes_279 ?_
  refine j_dup2 C dL_changes_280 rfl rfl ?_
  refine j_ialdN C (by first | assumption | rfl) rfl rfl (by omega) dL_changes_281 ?_
  refine j_aload C dL_changes_282 rfl ?_
  refine j_iconst (v := (nI 3)) C dL_changes_284 (by decide) ?_
  refine j_iload C dL_changes_285 rfl ?_
  refine j_imulN C dL_changes_287 ?_
  refine j_ialdN C (by first | assumption | rfl) rfl rfl (by omega) dL_changes_288 ?_
  refine j_iload C dL_changes_289 rfl ?_
  refine j_callS2r C (c_L_part) qm_L_58 qt_L_part qn_L qc_L_part fit_L_part ⟨Nat.le_of_ble_eq_true rfl, Nat.le_of_ble_eq_true rfl, Nat.le_of_ble_eq_true rfl, Nat.le_of_ble_eq_true rfl⟩ (Nat.le_of_ble_eq_true rfl) dL_changes_291 ?_
  refine j_isub C dL_changes_294 ?_
  refine j_iastN C (by first | assumption | rfl) rfl rfl (by omega) dL_changes_295 ?_
  refine j_aload C dL_changes_296 rfl ?_
  refine j_iconst (v := (nI 3)) C dL_changes_298 (by decide) ?_
  refine j_iload C dL_changes_299 rfl ?_
  refine j_imulN C dL_changes_301 ?_
  refine j_ialdN C (by first | assumption | rfl) rfl rfl (by omega) dL_changes_302 ?_
  refine j_aload C dL_changes_303 rfl ?_
  refine j_iconst (v := (nI 3)) C dL_changes_305 (by decide) ?_
  refine j_iload C dL_changes_306 rfl ?_
  refine j_imulN C dL_changes_308 ?_
  refine j_iconst (v := (nI 1)) C dL_changes_309 (by decide) ?_
  refine j_iaddN C dL_changes_310 ?_
  refine j_ialdN C (by first | assumption | rfl) rfl rfl (by omega) dL_changes_311 ?_
  refine j_aload C dL_changes_312 rfl ?_
  refine j_iconst (v := (nI 3)) C dL_changes_314 (by decide) ?_
  refine j_iload C dL_changes_315 rfl ?_
  refine j_imulN C dL_changes_317 ?_
  refine j_iconst (v := (nI 2)) C dL_changes_318 (by decide) ?_
  refine j_iaddN C dL_changes_319 ?_
  refine j_ialdN C (by first | assumption | rfl) rfl rfl (by omega) dL_changes_320 ?_
  refine j_callS3r C (c_L_worth (by rw [mset_at]; exact hw.1) (by rw [mset_ne (by omega)]; exact hw.2.1) (by rw [mset_ne (by omega)]; exact hw.2.2)) qm_L_40 qt_L_worth qn_L qc_L_worth fit_L_worth ⟨Nat.le_of_ble_eq_true rfl, Nat.le_of_ble_eq_true rfl, Nat.le_of_ble_eq_true rfl, Nat.le_of_ble_eq_true rfl⟩ (Nat.le_of_ble_eq_true rfl) dL_changes_321 ?_
  refine j_ist13 C dL_changes_324 (Nat.le_of_ble_eq_true rfl) rfl ?_
  refine j_aload C dL_changes_326 rfl ?_
  refine j_iconst (v := (nI 3)) C dL_changes_328 (by decide) ?_
  refine j_iload C dL_changes_329 rfl ?_
  refine j_iaddN C dL_changes_331 ?_
  refine j_ialdN C (by first | assumption | rfl) rfl rfl (by omega) dL_changes_332 ?_
  refine j_iload C dL_changes_333 rfl ?_
  refine j_isub C dL_changes_335 ?_
  refine j_iload C dL_changes_336 rfl ?_
  refine j_isub C dL_changes_338 ?_
  refine j_iload C dL_changes_339 rfl ?_
  refine j_isub C dL_changes_341 ?_
  refine j_tope (y := lEndB k (nI t) (nI fee) V) (by rfl) ?_
  refine j_ist14 C dL_changes_342 (Nat.le_of_ble_eq_true rfl) rfl ?_
  refine j_aload C dL_changes_344 rfl ?_
  refine j_iconst (v := (nI 3)) C dL_changes_346 (by decide) ?_
  refine j_iload C dL_changes_347 rfl ?_
  refine j_iaddN C dL_changes_349 ?_
  refine j_iload C dL_changes_350 rfl ?_
  refine j_iastN C (by first | assumption | rfl) rfl rfl (by omega) dL_changes_352 ?_
  refine j_aload C dL_changes_353 rfl ?_
  refine j_bipush (v := (nI 11)) C dL_changes_355 (by decide) ?_
  refine j_iload C dL_changes_357 rfl ?_
  refine j_iaddN C dL_changes_359 ?_
  refine j_dup2 C dL_changes_360 rfl rfl ?_
  refine j_ialdN C (by first | assumption | rfl) rfl rfl (by omega) dL_changes_361 ?_
  refine j_iload C dL_changes_362 rfl ?_
  refine j_isub C dL_changes_364 ?_
  refine j_iastN C (by first | assumption | rfl) rfl rfl (by omega) dL_changes_365 ?_
  refine j_aload C dL_changes_366 rfl ?_
  refine j_bipush (v := (nI 19)) C dL_changes_368 (by decide) ?_
  refine j_iload C dL_changes_370 rfl ?_
  refine j_iaddN C dL_changes_372 ?_
  refine j_dup2 C dL_changes_373 rfl rfl ?_
  refine j_ialdN C (by first | assumption | rfl) rfl rfl (by omega) dL_changes_374 ?_
  refine j_iload C dL_changes_375 rfl ?_
  refine j_isub C dL_changes_377 ?_
  refine j_iastN C (by first | assumption | rfl) rfl rfl (by omega) dL_changes_378 ?_
  refine j_aload C dL_changes_379 rfl ?_
  refine j_bipush (v := (nI 27)) C dL_changes_381 (by decide) ?_
  refine j_iload C dL_changes_383 rfl ?_
  refine j_iaddN C dL_changes_385 ?_
  refine j_dup2 C dL_changes_386 rfl rfl ?_
  refine j_ialdN C (by first | assumption | rfl) rfl rfl (by omega) dL_changes_387 ?_
  refine j_iload C dL_changes_388 rfl ?_
  refine j_iadd C dL_changes_390 ?_
  refine j_iastN C (by first | assumption | rfl) rfl rfl (by omega) dL_changes_391 ?_
  refine j_mem (V' := lEnd k (nI t) (nI fee) V) (L' := L) rfl rfl ?_
  refine j_aload_n C dL_changes_392 rfl rfl ?_
  refine j_iload C dL_changes_393 rfl ?_
  refine j_iload C dL_changes_395 rfl ?_
  refine j_iload C dL_changes_397 rfl ?_
  refine j_callV3r C (oa_X6 (by first | assumption | rfl)) rfl rfl (hT) qm_L_61 qi_X6_endPart qs_X6_endPart qn_X6 qc_X6_endPart fit_X6_endPart ⟨Nat.le_of_ble_eq_true rfl, Nat.le_of_ble_eq_true rfl, Nat.le_of_ble_eq_true rfl, Nat.le_of_ble_eq_true rfl⟩ (Nat.le_of_ble_eq_true rfl) dL_changes_399 ?_
  refine j_iload C dL_changes_402 rfl ?_
  refine j_icmp_ne (tgt := 411) C dL_changes_404 (by decide) (fun h404 => (by exact absurd rfl h404)) (fun h404 => ?_)
  refine j_iconst (v := (nI 1)) C dL_changes_407 (by decide) ?_
  refine j_goto (tgt := 412) C dL_changes_408 (by decide) ?_
  exact j_zret C dL_changes_412 (by first | rfl | exact nar_b2i) (by rfl) (by rfl) (by rfl)
set_option maxHeartbeats 4000000 in
theorem c_L_ch_imp0a {l : Launch} {g : GC} {V : Mem} {L : LMem} {k nl ns : Nat} {X Y : Nat} (hX : X < 2 ^ 31) (hY : Y < 2 ^ 31) (h0 : V 224 0 = nI nl) (h8 : nl ≤ 8) (hk : atN (X / 4) nl = k) (hkl : k < nl) {m1 : Nat} (hm : 1 + atN Y (if atN X 2 = 0 then 100000 else 500) = m1) (hr : 0 < V 225 (3 * k + 1)) (hc : ¬ nI m1 ≤ V 224 (11 + k)) : MC l yL_changes cL_changes 15 (some .boolean) 6 g V L [.ref (ad g 223), .int (nI 3), .int (nI X), .int (nI Y), .ref (ad g 224), .ref (ad g 225), .ref (ad g 226), .ref (ad g 227)] (some (.int (nI 1))) V L := by
  refine MC.of [some (.ref (ad g 223)), some (.int (nI 3)), some (.int (nI X)), some (.int (nI Y)), some (.ref (ad g 224)), some (.ref (ad g 225)), some (.ref (ad g 226)), some (.ref (ad g 227)), none, none, none, none, none, none, none] (by decide +kernel) rfl (Nat.le_of_ble_eq_true rfl) (fun p e s m args below meth c C => ?_)
  refine j_aload C dL_changes_0 rfl ?_
  refine j_iconst (v := (nI 0)) C dL_changes_2 (by decide) ?_
  refine j_ialdN C (by first | assumption | rfl) rfl rfl (by omega) dL_changes_3 ?_
  refine j_tope (y := nI nl) (by exact h0) ?_
  refine j_if_ne (tgt := 9) C dL_changes_4 (by decide) (fun h4 => ?_) (fun h4 => (by exact absurd h4 (nI_ne0 (by omega) (by omega))))
  refine j_iload_n C dL_changes_9 rfl rfl ?_
  refine j_iconst (v := (nI 2)) C dL_changes_10 (by decide) ?_
  refine j_ishr C dL_changes_11 ?_
  refine j_tope (y := nI (X / 4)) (by exact shrN (by omega) 2 (by decide)) ?_
  refine j_aload C dL_changes_12 rfl ?_
  refine j_iconst (v := (nI 0)) C dL_changes_14 (by decide) ?_
  refine j_ialdN C (by first | assumption | rfl) rfl rfl (by omega) dL_changes_15 ?_
  refine j_tope (y := nI nl) (by exact h0) ?_
  refine j_callS2r C (c_L_at (by omega) (by omega) (by omega)) qm_L_44 qt_L_at qn_L qc_L_at fit_L_at ⟨Nat.le_of_ble_eq_true rfl, Nat.le_of_ble_eq_true rfl, Nat.le_of_ble_eq_true rfl, Nat.le_of_ble_eq_true rfl⟩ (Nat.le_of_ble_eq_true rfl) dL_changes_16 ?_
  refine j_tope (y := nI k) (by rw [hk]) ?_
  refine j_ist8 C dL_changes_19 (Nat.le_of_ble_eq_true rfl) rfl ?_
  refine j_aload C dL_changes_21 rfl ?_
  refine j_iconst (v := (nI 3)) C dL_changes_23 (by decide) ?_
  refine j_iload C dL_changes_24 rfl ?_
  refine j_imulN C dL_changes_26 ?_
  refine j_iconst (v := (nI 1)) C dL_changes_27 (by decide) ?_
  refine j_iaddN C dL_changes_28 ?_
  refine j_ialdN C (by first | assumption | rfl) rfl rfl (by omega) dL_changes_29 ?_
  refine j_if_le (tgt := 37) C dL_changes_30 (by decide) (fun h30 => (by exact absurd h30 (Int32.not_le.mpr hr))) (fun h30 => ?_)
  refine j_iconst (v := (nI 1)) C dL_changes_33 (by decide) ?_
  refine j_goto (tgt := 38) C dL_changes_34 (by decide) ?_
  refine j_ist9 C dL_changes_38 (Nat.le_of_ble_eq_true rfl) rfl ?_
  refine j_iload_n C dL_changes_40 rfl rfl ?_
  refine j_if_ne (tgt := 126) C dL_changes_41 (by decide) (fun h41 => ?_) (fun h41 => (by exact absurd h41 (by decide)))
  refine j_iload_n C dL_changes_126 rfl rfl ?_
  refine j_iconst (v := (nI 1)) C dL_changes_127 (by decide) ?_
  refine j_icmp_ne (tgt := 208) C dL_changes_128 (by decide) (fun h128 => ?_) (fun h128 => (by exact absurd h128 (by decide)))
  refine j_iload_n C dL_changes_208 rfl rfl ?_
  refine j_iconst (v := (nI 2)) C dL_changes_209 (by decide) ?_
  refine j_icmp_ne (tgt := 413) C dL_changes_210 (by decide) (fun h210 => ?_) (fun h210 => (by exact absurd h210 (by decide)))
  refine j_iload_n C dL_changes_413 rfl rfl ?_
  refine j_iconst (v := (nI 3)) C dL_changes_414 (by decide) ?_
  refine j_icmp_ne (tgt := 508) C dL_changes_415 (by decide) (fun h415 => (by exact absurd rfl h415)) (fun h415 => ?_)
  refine j_iconst (v := (nI 1)) C dL_changes_418 (by decide) ?_
  refine j_iload_n C dL_changes_419 rfl rfl ?_
  refine j_iload_n C dL_changes_420 rfl rfl ?_
  refine j_iconst (v := (nI 2)) C dL_changes_421 (by decide) ?_
  refine j_callS2r C (c_L_at (by omega) (by omega) (by omega)) qm_L_44 qt_L_at qn_L qc_L_at fit_L_at ⟨Nat.le_of_ble_eq_true rfl, Nat.le_of_ble_eq_true rfl, Nat.le_of_ble_eq_true rfl, Nat.le_of_ble_eq_true rfl⟩ (Nat.le_of_ble_eq_true rfl) dL_changes_422 ?_
  refine j_tern (a := nI 100000) (b := nI 500) (tgt := 433) (join := 436) C dL_changes_425 (by decide) (fun k => ?_) (fun k => ?_) ?_
  · refine j_ldc (v := nI 100000) C qk_L_64 dL_changes_428 ?_
    refine j_goto (tgt := 436) C dL_changes_430 (by decide) ?_
    exact k
  · refine j_sipush (v := (nI 500)) C dL_changes_433 (by decide) ?_
    exact k
  refine j_tope (y := nI (if atN X 2 = 0 then 100000 else 500)) (by exact ternN (atN_lt (by omega))) ?_
  refine j_callS2r C (c_L_at (by omega) (ite_pos (by omega) (by omega)) (ite_lt (by omega) (by omega))) qm_L_44 qt_L_at qn_L qc_L_at fit_L_at ⟨Nat.le_of_ble_eq_true rfl, Nat.le_of_ble_eq_true rfl, Nat.le_of_ble_eq_true rfl, Nat.le_of_ble_eq_true rfl⟩ (Nat.le_of_ble_eq_true rfl) dL_changes_436 ?_
  refine j_iaddN C dL_changes_439 ?_
  refine j_tope (y := nI m1) (by rw [hm]) ?_
  refine j_ist10 C dL_changes_440 (Nat.le_of_ble_eq_true rfl) rfl ?_
  refine j_aload C dL_changes_442 rfl ?_
  refine j_bipush (v := (nI 11)) C dL_changes_444 (by decide) ?_
  refine j_iload C dL_changes_446 rfl ?_
  refine j_iaddN C dL_changes_448 ?_
  refine j_ialdN C (by first | assumption | rfl) rfl rfl (by omega) dL_changes_449 ?_
  refine j_iload C dL_changes_450 rfl ?_
  refine j_icmp_ge (tgt := 457) C dL_changes_452 (by decide) (fun h452 => (by exact absurd h452 hc)) (fun h452 => ?_)
  refine j_iconst (v := (nI 1)) C dL_changes_455 (by decide) ?_
  exact j_zret C dL_changes_456 (by first | rfl | exact nar_b2i) (by rfl) (by rfl) (by rfl)
set_option maxHeartbeats 4000000 in
theorem c_L_ch_impa {l : Launch} {g : GC} {V : Mem} {L : LMem} {k nl ns : Nat} {X Y : Nat} (hX : X < 2 ^ 31) (hY : Y < 2 ^ 31) (h0 : V 224 0 = nI nl) (h8 : nl ≤ 8) (hk : atN (X / 4) nl = k) (hkl : k < nl) {m1 : Nat} (hm : 1 + atN Y (if atN X 2 = 0 then 100000 else 500) = m1) (hr : 0 < V 225 (3 * k + 1)) (hc : nI m1 ≤ V 224 (11 + k)) {z : Int32} {V2 : Mem} (hT : MC l yX6_impair cX6_impair 4 (some .int) 5 g (lImp k (nI m1) V) L [.ref (ad g 223), .int (nI k), .int (nI m1)] (some (.int z)) V2 L) (he : V2 224 (11 + k) = z) : MC l yL_changes cL_changes 15 (some .boolean) 6 g V L [.ref (ad g 223), .int (nI 3), .int (nI X), .int (nI Y), .ref (ad g 224), .ref (ad g 225), .ref (ad g 226), .ref (ad g 227)] (some (.int (nI 1))) V2 L := by
  refine MC.of [some (.ref (ad g 223)), some (.int (nI 3)), some (.int (nI X)), some (.int (nI Y)), some (.ref (ad g 224)), some (.ref (ad g 225)), some (.ref (ad g 226)), some (.ref (ad g 227)), none, none, none, none, none, none, none] (by decide +kernel) rfl (Nat.le_of_ble_eq_true rfl) (fun p e s m args below meth c C => ?_)
  refine j_aload C dL_changes_0 rfl ?_
  refine j_iconst (v := (nI 0)) C dL_changes_2 (by decide) ?_
  refine j_ialdN C (by first | assumption | rfl) rfl rfl (by omega) dL_changes_3 ?_
  refine j_tope (y := nI nl) (by exact h0) ?_
  refine j_if_ne (tgt := 9) C dL_changes_4 (by decide) (fun h4 => ?_) (fun h4 => (by exact absurd h4 (nI_ne0 (by omega) (by omega))))
  refine j_iload_n C dL_changes_9 rfl rfl ?_
  refine j_iconst (v := (nI 2)) C dL_changes_10 (by decide) ?_
  refine j_ishr C dL_changes_11 ?_
  refine j_tope (y := nI (X / 4)) (by exact shrN (by omega) 2 (by decide)) ?_
  refine j_aload C dL_changes_12 rfl ?_
  refine j_iconst (v := (nI 0)) C dL_changes_14 (by decide) ?_
  refine j_ialdN C (by first | assumption | rfl) rfl rfl (by omega) dL_changes_15 ?_
  refine j_tope (y := nI nl) (by exact h0) ?_
  refine j_callS2r C (c_L_at (by omega) (by omega) (by omega)) qm_L_44 qt_L_at qn_L qc_L_at fit_L_at ⟨Nat.le_of_ble_eq_true rfl, Nat.le_of_ble_eq_true rfl, Nat.le_of_ble_eq_true rfl, Nat.le_of_ble_eq_true rfl⟩ (Nat.le_of_ble_eq_true rfl) dL_changes_16 ?_
  refine j_tope (y := nI k) (by rw [hk]) ?_
  refine j_ist8 C dL_changes_19 (Nat.le_of_ble_eq_true rfl) rfl ?_
  refine j_aload C dL_changes_21 rfl ?_
  refine j_iconst (v := (nI 3)) C dL_changes_23 (by decide) ?_
  refine j_iload C dL_changes_24 rfl ?_
  refine j_imulN C dL_changes_26 ?_
  refine j_iconst (v := (nI 1)) C dL_changes_27 (by decide) ?_
  refine j_iaddN C dL_changes_28 ?_
  refine j_ialdN C (by first | assumption | rfl) rfl rfl (by omega) dL_changes_29 ?_
  refine j_if_le (tgt := 37) C dL_changes_30 (by decide) (fun h30 => (by exact absurd h30 (Int32.not_le.mpr hr))) (fun h30 => ?_)
  refine j_iconst (v := (nI 1)) C dL_changes_33 (by decide) ?_
  refine j_goto (tgt := 38) C dL_changes_34 (by decide) ?_
  refine j_ist9 C dL_changes_38 (Nat.le_of_ble_eq_true rfl) rfl ?_
  refine j_iload_n C dL_changes_40 rfl rfl ?_
  refine j_if_ne (tgt := 126) C dL_changes_41 (by decide) (fun h41 => ?_) (fun h41 => (by exact absurd h41 (by decide)))
  refine j_iload_n C dL_changes_126 rfl rfl ?_
  refine j_iconst (v := (nI 1)) C dL_changes_127 (by decide) ?_
  refine j_icmp_ne (tgt := 208) C dL_changes_128 (by decide) (fun h128 => ?_) (fun h128 => (by exact absurd h128 (by decide)))
  refine j_iload_n C dL_changes_208 rfl rfl ?_
  refine j_iconst (v := (nI 2)) C dL_changes_209 (by decide) ?_
  refine j_icmp_ne (tgt := 413) C dL_changes_210 (by decide) (fun h210 => ?_) (fun h210 => (by exact absurd h210 (by decide)))
  refine j_iload_n C dL_changes_413 rfl rfl ?_
  refine j_iconst (v := (nI 3)) C dL_changes_414 (by decide) ?_
  refine j_icmp_ne (tgt := 508) C dL_changes_415 (by decide) (fun h415 => (by exact absurd rfl h415)) (fun h415 => ?_)
  refine j_iconst (v := (nI 1)) C dL_changes_418 (by decide) ?_
  refine j_iload_n C dL_changes_419 rfl rfl ?_
  refine j_iload_n C dL_changes_420 rfl rfl ?_
  refine j_iconst (v := (nI 2)) C dL_changes_421 (by decide) ?_
  refine j_callS2r C (c_L_at (by omega) (by omega) (by omega)) qm_L_44 qt_L_at qn_L qc_L_at fit_L_at ⟨Nat.le_of_ble_eq_true rfl, Nat.le_of_ble_eq_true rfl, Nat.le_of_ble_eq_true rfl, Nat.le_of_ble_eq_true rfl⟩ (Nat.le_of_ble_eq_true rfl) dL_changes_422 ?_
  refine j_tern (a := nI 100000) (b := nI 500) (tgt := 433) (join := 436) C dL_changes_425 (by decide) (fun k => ?_) (fun k => ?_) ?_
  · refine j_ldc (v := nI 100000) C qk_L_64 dL_changes_428 ?_
    refine j_goto (tgt := 436) C dL_changes_430 (by decide) ?_
    exact k
  · refine j_sipush (v := (nI 500)) C dL_changes_433 (by decide) ?_
    exact k
  refine j_tope (y := nI (if atN X 2 = 0 then 100000 else 500)) (by exact ternN (atN_lt (by omega))) ?_
  refine j_callS2r C (c_L_at (by omega) (ite_pos (by omega) (by omega)) (ite_lt (by omega) (by omega))) qm_L_44 qt_L_at qn_L qc_L_at fit_L_at ⟨Nat.le_of_ble_eq_true rfl, Nat.le_of_ble_eq_true rfl, Nat.le_of_ble_eq_true rfl, Nat.le_of_ble_eq_true rfl⟩ (Nat.le_of_ble_eq_true rfl) dL_changes_436 ?_
  refine j_iaddN C dL_changes_439 ?_
  refine j_tope (y := nI m1) (by rw [hm]) ?_
  refine j_ist10 C dL_changes_440 (Nat.le_of_ble_eq_true rfl) rfl ?_
  refine j_aload C dL_changes_442 rfl ?_
  refine j_bipush (v := (nI 11)) C dL_changes_444 (by decide) ?_
  refine j_iload C dL_changes_446 rfl ?_
  refine j_iaddN C dL_changes_448 ?_
  refine j_ialdN C (by first | assumption | rfl) rfl rfl (by omega) dL_changes_449 ?_
  refine j_iload C dL_changes_450 rfl ?_
  refine j_icmp_ge (tgt := 457) C dL_changes_452 (by decide) (fun h452 => ?_) (fun h452 => (by exact absurd hc h452))
  refine j_aload C dL_changes_457 rfl ?_
  refine j_bipush (v := (nI 11)) C dL_changes_459 (by decide) ?_
  refine j_iload C dL_changes_461 rfl ?_
  refine j_iaddN C dL_changes_463 ?_
  refine j_dup2 C dL_changes_464 rfl rfl ?_
  refine j_ialdN C (by first | assumption | rfl) rfl rfl (by omega) dL_changes_465 ?_
  refine j_iload C dL_changes_466 rfl ?_
  refine j_isub C dL_changes_468 ?_
  refine j_iastN C (by first | assumption | rfl) rfl rfl (by omega) dL_changes_469 ?_
  refine j_aload C dL_changes_470 rfl ?_
  refine j_bipush (v := (nI 27)) C dL_changes_472 (by decide) ?_
  refine j_iload C dL_changes_474 rfl ?_
  refine j_iaddN C dL_changes_476 ?_
  refine j_dup2 C dL_changes_477 rfl rfl ?_
  refine j_ialdN C (by first | assumption | rfl) rfl rfl (by omega) dL_changes_478 ?_
  refine j_iload C dL_changes_479 rfl ?_
  refine j_isub C dL_changes_481 ?_
  refine j_iastN C (by first | assumption | rfl) rfl rfl (by omega) dL_changes_482 ?_
  refine j_mem (V' := lImp k (nI m1) V) (L' := L) rfl rfl ?_
  refine j_aload_n C dL_changes_483 rfl rfl ?_
  refine j_iload C dL_changes_484 rfl ?_
  refine j_iload C dL_changes_486 rfl ?_
  refine j_callV2r C (oa_X6 (by first | assumption | rfl)) rfl rfl (hT) qm_L_65 qi_X6_impair qs_X6_impair qn_X6 qc_X6_impair fit_X6_impair ⟨Nat.le_of_ble_eq_true rfl, Nat.le_of_ble_eq_true rfl, Nat.le_of_ble_eq_true rfl, Nat.le_of_ble_eq_true rfl⟩ (Nat.le_of_ble_eq_true rfl) dL_changes_488 ?_
  refine j_aload C dL_changes_491 rfl ?_
  refine j_bipush (v := (nI 11)) C dL_changes_493 (by decide) ?_
  refine j_iload C dL_changes_495 rfl ?_
  refine j_iaddN C dL_changes_497 ?_
  refine j_ialdN C (by first | assumption | rfl) rfl rfl (by omega) dL_changes_498 ?_
  refine j_tope (y := z) (by exact he) ?_
  refine j_icmp_ne (tgt := 506) C dL_changes_499 (by decide) (fun h499 => (by exact absurd rfl h499)) (fun h499 => ?_)
  refine j_iconst (v := (nI 1)) C dL_changes_502 (by decide) ?_
  refine j_goto (tgt := 507) C dL_changes_503 (by decide) ?_
  exact j_zret C dL_changes_507 (by first | rfl | exact nar_b2i) (by rfl) (by rfl) (by rfl)
set_option maxHeartbeats 4000000 in
theorem c_L_ch_imp0b {l : Launch} {g : GC} {V : Mem} {L : LMem} {k nl ns : Nat} {X Y : Nat} (hX : X < 2 ^ 31) (hY : Y < 2 ^ 31) (h0 : V 224 0 = nI nl) (h8 : nl ≤ 8) (hk : atN (X / 4) nl = k) (hkl : k < nl) {m1 : Nat} (hm : 1 + atN Y (if atN X 2 = 0 then 100000 else 500) = m1) (hr : ¬ 0 < V 225 (3 * k + 1)) (hc : ¬ nI m1 ≤ V 224 (11 + k)) : MC l yL_changes cL_changes 15 (some .boolean) 6 g V L [.ref (ad g 223), .int (nI 3), .int (nI X), .int (nI Y), .ref (ad g 224), .ref (ad g 225), .ref (ad g 226), .ref (ad g 227)] (some (.int (nI 1))) V L := by
  refine MC.of [some (.ref (ad g 223)), some (.int (nI 3)), some (.int (nI X)), some (.int (nI Y)), some (.ref (ad g 224)), some (.ref (ad g 225)), some (.ref (ad g 226)), some (.ref (ad g 227)), none, none, none, none, none, none, none] (by decide +kernel) rfl (Nat.le_of_ble_eq_true rfl) (fun p e s m args below meth c C => ?_)
  refine j_aload C dL_changes_0 rfl ?_
  refine j_iconst (v := (nI 0)) C dL_changes_2 (by decide) ?_
  refine j_ialdN C (by first | assumption | rfl) rfl rfl (by omega) dL_changes_3 ?_
  refine j_tope (y := nI nl) (by exact h0) ?_
  refine j_if_ne (tgt := 9) C dL_changes_4 (by decide) (fun h4 => ?_) (fun h4 => (by exact absurd h4 (nI_ne0 (by omega) (by omega))))
  refine j_iload_n C dL_changes_9 rfl rfl ?_
  refine j_iconst (v := (nI 2)) C dL_changes_10 (by decide) ?_
  refine j_ishr C dL_changes_11 ?_
  refine j_tope (y := nI (X / 4)) (by exact shrN (by omega) 2 (by decide)) ?_
  refine j_aload C dL_changes_12 rfl ?_
  refine j_iconst (v := (nI 0)) C dL_changes_14 (by decide) ?_
  refine j_ialdN C (by first | assumption | rfl) rfl rfl (by omega) dL_changes_15 ?_
  refine j_tope (y := nI nl) (by exact h0) ?_
  refine j_callS2r C (c_L_at (by omega) (by omega) (by omega)) qm_L_44 qt_L_at qn_L qc_L_at fit_L_at ⟨Nat.le_of_ble_eq_true rfl, Nat.le_of_ble_eq_true rfl, Nat.le_of_ble_eq_true rfl, Nat.le_of_ble_eq_true rfl⟩ (Nat.le_of_ble_eq_true rfl) dL_changes_16 ?_
  refine j_tope (y := nI k) (by rw [hk]) ?_
  refine j_ist8 C dL_changes_19 (Nat.le_of_ble_eq_true rfl) rfl ?_
  refine j_aload C dL_changes_21 rfl ?_
  refine j_iconst (v := (nI 3)) C dL_changes_23 (by decide) ?_
  refine j_iload C dL_changes_24 rfl ?_
  refine j_imulN C dL_changes_26 ?_
  refine j_iconst (v := (nI 1)) C dL_changes_27 (by decide) ?_
  refine j_iaddN C dL_changes_28 ?_
  refine j_ialdN C (by first | assumption | rfl) rfl rfl (by omega) dL_changes_29 ?_
  refine j_if_le (tgt := 37) C dL_changes_30 (by decide) (fun h30 => ?_) (fun h30 => (by exact absurd (Int32.not_le.mp h30) hr))
  refine j_iconst (v := (nI 0)) C dL_changes_37 (by decide) ?_
  refine j_ist9 C dL_changes_38 (Nat.le_of_ble_eq_true rfl) rfl ?_
  refine j_iload_n C dL_changes_40 rfl rfl ?_
  refine j_if_ne (tgt := 126) C dL_changes_41 (by decide) (fun h41 => ?_) (fun h41 => (by exact absurd h41 (by decide)))
  refine j_iload_n C dL_changes_126 rfl rfl ?_
  refine j_iconst (v := (nI 1)) C dL_changes_127 (by decide) ?_
  refine j_icmp_ne (tgt := 208) C dL_changes_128 (by decide) (fun h128 => ?_) (fun h128 => (by exact absurd h128 (by decide)))
  refine j_iload_n C dL_changes_208 rfl rfl ?_
  refine j_iconst (v := (nI 2)) C dL_changes_209 (by decide) ?_
  refine j_icmp_ne (tgt := 413) C dL_changes_210 (by decide) (fun h210 => ?_) (fun h210 => (by exact absurd h210 (by decide)))
  refine j_iload_n C dL_changes_413 rfl rfl ?_
  refine j_iconst (v := (nI 3)) C dL_changes_414 (by decide) ?_
  refine j_icmp_ne (tgt := 508) C dL_changes_415 (by decide) (fun h415 => (by exact absurd rfl h415)) (fun h415 => ?_)
  refine j_iconst (v := (nI 1)) C dL_changes_418 (by decide) ?_
  refine j_iload_n C dL_changes_419 rfl rfl ?_
  refine j_iload_n C dL_changes_420 rfl rfl ?_
  refine j_iconst (v := (nI 2)) C dL_changes_421 (by decide) ?_
  refine j_callS2r C (c_L_at (by omega) (by omega) (by omega)) qm_L_44 qt_L_at qn_L qc_L_at fit_L_at ⟨Nat.le_of_ble_eq_true rfl, Nat.le_of_ble_eq_true rfl, Nat.le_of_ble_eq_true rfl, Nat.le_of_ble_eq_true rfl⟩ (Nat.le_of_ble_eq_true rfl) dL_changes_422 ?_
  refine j_tern (a := nI 100000) (b := nI 500) (tgt := 433) (join := 436) C dL_changes_425 (by decide) (fun k => ?_) (fun k => ?_) ?_
  · refine j_ldc (v := nI 100000) C qk_L_64 dL_changes_428 ?_
    refine j_goto (tgt := 436) C dL_changes_430 (by decide) ?_
    exact k
  · refine j_sipush (v := (nI 500)) C dL_changes_433 (by decide) ?_
    exact k
  refine j_tope (y := nI (if atN X 2 = 0 then 100000 else 500)) (by exact ternN (atN_lt (by omega))) ?_
  refine j_callS2r C (c_L_at (by omega) (ite_pos (by omega) (by omega)) (ite_lt (by omega) (by omega))) qm_L_44 qt_L_at qn_L qc_L_at fit_L_at ⟨Nat.le_of_ble_eq_true rfl, Nat.le_of_ble_eq_true rfl, Nat.le_of_ble_eq_true rfl, Nat.le_of_ble_eq_true rfl⟩ (Nat.le_of_ble_eq_true rfl) dL_changes_436 ?_
  refine j_iaddN C dL_changes_439 ?_
  refine j_tope (y := nI m1) (by rw [hm]) ?_
  refine j_ist10 C dL_changes_440 (Nat.le_of_ble_eq_true rfl) rfl ?_
  refine j_aload C dL_changes_442 rfl ?_
  refine j_bipush (v := (nI 11)) C dL_changes_444 (by decide) ?_
  refine j_iload C dL_changes_446 rfl ?_
  refine j_iaddN C dL_changes_448 ?_
  refine j_ialdN C (by first | assumption | rfl) rfl rfl (by omega) dL_changes_449 ?_
  refine j_iload C dL_changes_450 rfl ?_
  refine j_icmp_ge (tgt := 457) C dL_changes_452 (by decide) (fun h452 => (by exact absurd h452 hc)) (fun h452 => ?_)
  refine j_iconst (v := (nI 1)) C dL_changes_455 (by decide) ?_
  exact j_zret C dL_changes_456 (by first | rfl | exact nar_b2i) (by rfl) (by rfl) (by rfl)
set_option maxHeartbeats 4000000 in
theorem c_L_ch_impb {l : Launch} {g : GC} {V : Mem} {L : LMem} {k nl ns : Nat} {X Y : Nat} (hX : X < 2 ^ 31) (hY : Y < 2 ^ 31) (h0 : V 224 0 = nI nl) (h8 : nl ≤ 8) (hk : atN (X / 4) nl = k) (hkl : k < nl) {m1 : Nat} (hm : 1 + atN Y (if atN X 2 = 0 then 100000 else 500) = m1) (hr : ¬ 0 < V 225 (3 * k + 1)) (hc : nI m1 ≤ V 224 (11 + k)) {z : Int32} {V2 : Mem} (hT : MC l yX6_impair cX6_impair 4 (some .int) 5 g (lImp k (nI m1) V) L [.ref (ad g 223), .int (nI k), .int (nI m1)] (some (.int z)) V2 L) (he : V2 224 (11 + k) = z) : MC l yL_changes cL_changes 15 (some .boolean) 6 g V L [.ref (ad g 223), .int (nI 3), .int (nI X), .int (nI Y), .ref (ad g 224), .ref (ad g 225), .ref (ad g 226), .ref (ad g 227)] (some (.int (nI 1))) V2 L := by
  refine MC.of [some (.ref (ad g 223)), some (.int (nI 3)), some (.int (nI X)), some (.int (nI Y)), some (.ref (ad g 224)), some (.ref (ad g 225)), some (.ref (ad g 226)), some (.ref (ad g 227)), none, none, none, none, none, none, none] (by decide +kernel) rfl (Nat.le_of_ble_eq_true rfl) (fun p e s m args below meth c C => ?_)
  refine j_aload C dL_changes_0 rfl ?_
  refine j_iconst (v := (nI 0)) C dL_changes_2 (by decide) ?_
  refine j_ialdN C (by first | assumption | rfl) rfl rfl (by omega) dL_changes_3 ?_
  refine j_tope (y := nI nl) (by exact h0) ?_
  refine j_if_ne (tgt := 9) C dL_changes_4 (by decide) (fun h4 => ?_) (fun h4 => (by exact absurd h4 (nI_ne0 (by omega) (by omega))))
  refine j_iload_n C dL_changes_9 rfl rfl ?_
  refine j_iconst (v := (nI 2)) C dL_changes_10 (by decide) ?_
  refine j_ishr C dL_changes_11 ?_
  refine j_tope (y := nI (X / 4)) (by exact shrN (by omega) 2 (by decide)) ?_
  refine j_aload C dL_changes_12 rfl ?_
  refine j_iconst (v := (nI 0)) C dL_changes_14 (by decide) ?_
  refine j_ialdN C (by first | assumption | rfl) rfl rfl (by omega) dL_changes_15 ?_
  refine j_tope (y := nI nl) (by exact h0) ?_
  refine j_callS2r C (c_L_at (by omega) (by omega) (by omega)) qm_L_44 qt_L_at qn_L qc_L_at fit_L_at ⟨Nat.le_of_ble_eq_true rfl, Nat.le_of_ble_eq_true rfl, Nat.le_of_ble_eq_true rfl, Nat.le_of_ble_eq_true rfl⟩ (Nat.le_of_ble_eq_true rfl) dL_changes_16 ?_
  refine j_tope (y := nI k) (by rw [hk]) ?_
  refine j_ist8 C dL_changes_19 (Nat.le_of_ble_eq_true rfl) rfl ?_
  refine j_aload C dL_changes_21 rfl ?_
  refine j_iconst (v := (nI 3)) C dL_changes_23 (by decide) ?_
  refine j_iload C dL_changes_24 rfl ?_
  refine j_imulN C dL_changes_26 ?_
  refine j_iconst (v := (nI 1)) C dL_changes_27 (by decide) ?_
  refine j_iaddN C dL_changes_28 ?_
  refine j_ialdN C (by first | assumption | rfl) rfl rfl (by omega) dL_changes_29 ?_
  refine j_if_le (tgt := 37) C dL_changes_30 (by decide) (fun h30 => ?_) (fun h30 => (by exact absurd (Int32.not_le.mp h30) hr))
  refine j_iconst (v := (nI 0)) C dL_changes_37 (by decide) ?_
  refine j_ist9 C dL_changes_38 (Nat.le_of_ble_eq_true rfl) rfl ?_
  refine j_iload_n C dL_changes_40 rfl rfl ?_
  refine j_if_ne (tgt := 126) C dL_changes_41 (by decide) (fun h41 => ?_) (fun h41 => (by exact absurd h41 (by decide)))
  refine j_iload_n C dL_changes_126 rfl rfl ?_
  refine j_iconst (v := (nI 1)) C dL_changes_127 (by decide) ?_
  refine j_icmp_ne (tgt := 208) C dL_changes_128 (by decide) (fun h128 => ?_) (fun h128 => (by exact absurd h128 (by decide)))
  refine j_iload_n C dL_changes_208 rfl rfl ?_
  refine j_iconst (v := (nI 2)) C dL_changes_209 (by decide) ?_
  refine j_icmp_ne (tgt := 413) C dL_changes_210 (by decide) (fun h210 => ?_) (fun h210 => (by exact absurd h210 (by decide)))
  refine j_iload_n C dL_changes_413 rfl rfl ?_
  refine j_iconst (v := (nI 3)) C dL_changes_414 (by decide) ?_
  refine j_icmp_ne (tgt := 508) C dL_changes_415 (by decide) (fun h415 => (by exact absurd rfl h415)) (fun h415 => ?_)
  refine j_iconst (v := (nI 1)) C dL_changes_418 (by decide) ?_
  refine j_iload_n C dL_changes_419 rfl rfl ?_
  refine j_iload_n C dL_changes_420 rfl rfl ?_
  refine j_iconst (v := (nI 2)) C dL_changes_421 (by decide) ?_
  refine j_callS2r C (c_L_at (by omega) (by omega) (by omega)) qm_L_44 qt_L_at qn_L qc_L_at fit_L_at ⟨Nat.le_of_ble_eq_true rfl, Nat.le_of_ble_eq_true rfl, Nat.le_of_ble_eq_true rfl, Nat.le_of_ble_eq_true rfl⟩ (Nat.le_of_ble_eq_true rfl) dL_changes_422 ?_
  refine j_tern (a := nI 100000) (b := nI 500) (tgt := 433) (join := 436) C dL_changes_425 (by decide) (fun k => ?_) (fun k => ?_) ?_
  · refine j_ldc (v := nI 100000) C qk_L_64 dL_changes_428 ?_
    refine j_goto (tgt := 436) C dL_changes_430 (by decide) ?_
    exact k
  · refine j_sipush (v := (nI 500)) C dL_changes_433 (by decide) ?_
    exact k
  refine j_tope (y := nI (if atN X 2 = 0 then 100000 else 500)) (by exact ternN (atN_lt (by omega))) ?_
  refine j_callS2r C (c_L_at (by omega) (ite_pos (by omega) (by omega)) (ite_lt (by omega) (by omega))) qm_L_44 qt_L_at qn_L qc_L_at fit_L_at ⟨Nat.le_of_ble_eq_true rfl, Nat.le_of_ble_eq_true rfl, Nat.le_of_ble_eq_true rfl, Nat.le_of_ble_eq_true rfl⟩ (Nat.le_of_ble_eq_true rfl) dL_changes_436 ?_
  refine j_iaddN C dL_changes_439 ?_
  refine j_tope (y := nI m1) (by rw [hm]) ?_
  refine j_ist10 C dL_changes_440 (Nat.le_of_ble_eq_true rfl) rfl ?_
  refine j_aload C dL_changes_442 rfl ?_
  refine j_bipush (v := (nI 11)) C dL_changes_444 (by decide) ?_
  refine j_iload C dL_changes_446 rfl ?_
  refine j_iaddN C dL_changes_448 ?_
  refine j_ialdN C (by first | assumption | rfl) rfl rfl (by omega) dL_changes_449 ?_
  refine j_iload C dL_changes_450 rfl ?_
  refine j_icmp_ge (tgt := 457) C dL_changes_452 (by decide) (fun h452 => ?_) (fun h452 => (by exact absurd hc h452))
  refine j_aload C dL_changes_457 rfl ?_
  refine j_bipush (v := (nI 11)) C dL_changes_459 (by decide) ?_
  refine j_iload C dL_changes_461 rfl ?_
  refine j_iaddN C dL_changes_463 ?_
  refine j_dup2 C dL_changes_464 rfl rfl ?_
  refine j_ialdN C (by first | assumption | rfl) rfl rfl (by omega) dL_changes_465 ?_
  refine j_iload C dL_changes_466 rfl ?_
  refine j_isub C dL_changes_468 ?_
  refine j_iastN C (by first | assumption | rfl) rfl rfl (by omega) dL_changes_469 ?_
  refine j_aload C dL_changes_470 rfl ?_
  refine j_bipush (v := (nI 27)) C dL_changes_472 (by decide) ?_
  refine j_iload C dL_changes_474 rfl ?_
  refine j_iaddN C dL_changes_476 ?_
  refine j_dup2 C dL_changes_477 rfl rfl ?_
  refine j_ialdN C (by first | assumption | rfl) rfl rfl (by omega) dL_changes_478 ?_
  refine j_iload C dL_changes_479 rfl ?_
  refine j_isub C dL_changes_481 ?_
  refine j_iastN C (by first | assumption | rfl) rfl rfl (by omega) dL_changes_482 ?_
  refine j_mem (V' := lImp k (nI m1) V) (L' := L) rfl rfl ?_
  refine j_aload_n C dL_changes_483 rfl rfl ?_
  refine j_iload C dL_changes_484 rfl ?_
  refine j_iload C dL_changes_486 rfl ?_
  refine j_callV2r C (oa_X6 (by first | assumption | rfl)) rfl rfl (hT) qm_L_65 qi_X6_impair qs_X6_impair qn_X6 qc_X6_impair fit_X6_impair ⟨Nat.le_of_ble_eq_true rfl, Nat.le_of_ble_eq_true rfl, Nat.le_of_ble_eq_true rfl, Nat.le_of_ble_eq_true rfl⟩ (Nat.le_of_ble_eq_true rfl) dL_changes_488 ?_
  refine j_aload C dL_changes_491 rfl ?_
  refine j_bipush (v := (nI 11)) C dL_changes_493 (by decide) ?_
  refine j_iload C dL_changes_495 rfl ?_
  refine j_iaddN C dL_changes_497 ?_
  refine j_ialdN C (by first | assumption | rfl) rfl rfl (by omega) dL_changes_498 ?_
  refine j_tope (y := z) (by exact he) ?_
  refine j_icmp_ne (tgt := 506) C dL_changes_499 (by decide) (fun h499 => (by exact absurd rfl h499)) (fun h499 => ?_)
  refine j_iconst (v := (nI 1)) C dL_changes_502 (by decide) ?_
  refine j_goto (tgt := 507) C dL_changes_503 (by decide) ?_
  exact j_zret C dL_changes_507 (by first | rfl | exact nar_b2i) (by rfl) (by rfl) (by rfl)
set_option maxHeartbeats 4000000 in
theorem c_L_ch_sub0 {l : Launch} {g : GC} {V : Mem} {L : LMem} {k nl ns : Nat} {X Y : Nat} (hX : X < 2 ^ 31) (hY : Y < 2 ^ 31) (h0 : V 224 0 = nI nl) (h8 : nl ≤ 8) (hk : atN (X / 4) nl = k) (hkl : k < nl) {t n rc : Nat} (ht : 1 + atN Y (if atN X 2 = 0 then 1000 else 300) = t) (hn : 1 + atN (Y / 128) 10 = n) (hrc : atN (Y / 8) 3000 = rc) (hr : ¬ 0 < V 225 (3 * k + 1))  : MC l yL_changes cL_changes 15 (some .boolean) 6 g V L [.ref (ad g 223), .int (nI 4), .int (nI X), .int (nI Y), .ref (ad g 224), .ref (ad g 225), .ref (ad g 226), .ref (ad g 227)] (some (.int (nI 1))) V L := by
  refine MC.of [some (.ref (ad g 223)), some (.int (nI 4)), some (.int (nI X)), some (.int (nI Y)), some (.ref (ad g 224)), some (.ref (ad g 225)), some (.ref (ad g 226)), some (.ref (ad g 227)), none, none, none, none, none, none, none] (by decide +kernel) rfl (Nat.le_of_ble_eq_true rfl) (fun p e s m args below meth c C => ?_)
  refine j_aload C dL_changes_0 rfl ?_
  refine j_iconst (v := (nI 0)) C dL_changes_2 (by decide) ?_
  refine j_ialdN C (by first | assumption | rfl) rfl rfl (by omega) dL_changes_3 ?_
  refine j_tope (y := nI nl) (by exact h0) ?_
  refine j_if_ne (tgt := 9) C dL_changes_4 (by decide) (fun h4 => ?_) (fun h4 => (by exact absurd h4 (nI_ne0 (by omega) (by omega))))
  refine j_iload_n C dL_changes_9 rfl rfl ?_
  refine j_iconst (v := (nI 2)) C dL_changes_10 (by decide) ?_
  refine j_ishr C dL_changes_11 ?_
  refine j_tope (y := nI (X / 4)) (by exact shrN (by omega) 2 (by decide)) ?_
  refine j_aload C dL_changes_12 rfl ?_
  refine j_iconst (v := (nI 0)) C dL_changes_14 (by decide) ?_
  refine j_ialdN C (by first | assumption | rfl) rfl rfl (by omega) dL_changes_15 ?_
  refine j_tope (y := nI nl) (by exact h0) ?_
  refine j_callS2r C (c_L_at (by omega) (by omega) (by omega)) qm_L_44 qt_L_at qn_L qc_L_at fit_L_at ⟨Nat.le_of_ble_eq_true rfl, Nat.le_of_ble_eq_true rfl, Nat.le_of_ble_eq_true rfl, Nat.le_of_ble_eq_true rfl⟩ (Nat.le_of_ble_eq_true rfl) dL_changes_16 ?_
  refine j_tope (y := nI k) (by rw [hk]) ?_
  refine j_ist8 C dL_changes_19 (Nat.le_of_ble_eq_true rfl) rfl ?_
  refine j_aload C dL_changes_21 rfl ?_
  refine j_iconst (v := (nI 3)) C dL_changes_23 (by decide) ?_
  refine j_iload C dL_changes_24 rfl ?_
  refine j_imulN C dL_changes_26 ?_
  refine j_iconst (v := (nI 1)) C dL_changes_27 (by decide) ?_
  refine j_iaddN C dL_changes_28 ?_
  refine j_ialdN C (by first | assumption | rfl) rfl rfl (by omega) dL_changes_29 ?_
  refine j_if_le (tgt := 37) C dL_changes_30 (by decide) (fun h30 => ?_) (fun h30 => (by exact absurd (Int32.not_le.mp h30) hr))
  refine j_iconst (v := (nI 0)) C dL_changes_37 (by decide) ?_
  refine j_ist9 C dL_changes_38 (Nat.le_of_ble_eq_true rfl) rfl ?_
  refine j_iload_n C dL_changes_40 rfl rfl ?_
  refine j_if_ne (tgt := 126) C dL_changes_41 (by decide) (fun h41 => ?_) (fun h41 => (by exact absurd h41 (by decide)))
  refine j_iload_n C dL_changes_126 rfl rfl ?_
  refine j_iconst (v := (nI 1)) C dL_changes_127 (by decide) ?_
  refine j_icmp_ne (tgt := 208) C dL_changes_128 (by decide) (fun h128 => ?_) (fun h128 => (by exact absurd h128 (by decide)))
  refine j_iload_n C dL_changes_208 rfl rfl ?_
  refine j_iconst (v := (nI 2)) C dL_changes_209 (by decide) ?_
  refine j_icmp_ne (tgt := 413) C dL_changes_210 (by decide) (fun h210 => ?_) (fun h210 => (by exact absurd h210 (by decide)))
  refine j_iload_n C dL_changes_413 rfl rfl ?_
  refine j_iconst (v := (nI 3)) C dL_changes_414 (by decide) ?_
  refine j_icmp_ne (tgt := 508) C dL_changes_415 (by decide) (fun h415 => ?_) (fun h415 => (by exact absurd h415 (by decide)))
  refine j_iconst (v := (nI 1)) C dL_changes_508 (by decide) ?_
  refine j_iload_n C dL_changes_509 rfl rfl ?_
  refine j_iload_n C dL_changes_510 rfl rfl ?_
  refine j_iconst (v := (nI 2)) C dL_changes_511 (by decide) ?_
  refine j_callS2r C (c_L_at (by omega) (by omega) (by omega)) qm_L_44 qt_L_at qn_L qc_L_at fit_L_at ⟨Nat.le_of_ble_eq_true rfl, Nat.le_of_ble_eq_true rfl, Nat.le_of_ble_eq_true rfl, Nat.le_of_ble_eq_true rfl⟩ (Nat.le_of_ble_eq_true rfl) dL_changes_512 ?_
  refine j_tern (a := nI 1000) (b := nI 300) (tgt := 524) (join := 527) C dL_changes_515 (by decide) (fun k => ?_) (fun k => ?_) ?_
  · refine j_sipush (v := (nI 1000)) C dL_changes_518 (by decide) ?_
    refine j_goto (tgt := 527) C dL_changes_521 (by decide) ?_
    exact k
  · refine j_sipush (v := (nI 300)) C dL_changes_524 (by decide) ?_
    exact k
  refine j_tope (y := nI (if atN X 2 = 0 then 1000 else 300)) (by exact ternN (atN_lt (by omega))) ?_
  refine j_callS2r C (c_L_at (by omega) (ite_pos (by omega) (by omega)) (ite_lt (by omega) (by omega))) qm_L_44 qt_L_at qn_L qc_L_at fit_L_at ⟨Nat.le_of_ble_eq_true rfl, Nat.le_of_ble_eq_true rfl, Nat.le_of_ble_eq_true rfl, Nat.le_of_ble_eq_true rfl⟩ (Nat.le_of_ble_eq_true rfl) dL_changes_527 ?_
  refine j_iaddN C dL_changes_530 ?_
  refine j_tope (y := nI t) (by rw [ht]) ?_
  refine j_ist10 C dL_changes_531 (Nat.le_of_ble_eq_true rfl) rfl ?_
  refine j_iconst (v := (nI 1)) C dL_changes_533 (by decide) ?_
  refine j_iload_n C dL_changes_534 rfl rfl ?_
  refine j_bipush (v := (nI 7)) C dL_changes_535 (by decide) ?_
  refine j_ishr C dL_changes_537 ?_
  refine j_tope (y := nI (Y / 128)) (by exact shrN (by omega) 7 (by decide)) ?_
  refine j_bipush (v := (nI 10)) C dL_changes_538 (by decide) ?_
  refine j_callS2r C (c_L_at (by omega) (by omega) (by omega)) qm_L_44 qt_L_at qn_L qc_L_at fit_L_at ⟨Nat.le_of_ble_eq_true rfl, Nat.le_of_ble_eq_true rfl, Nat.le_of_ble_eq_true rfl, Nat.le_of_ble_eq_true rfl⟩ (Nat.le_of_ble_eq_true rfl) dL_changes_540 ?_
  refine j_iaddN C dL_changes_543 ?_
  refine j_tope (y := nI n) (by rw [hn]) ?_
  refine j_ist11 C dL_changes_544 (Nat.le_of_ble_eq_true rfl) rfl ?_
  refine j_iload_n C dL_changes_546 rfl rfl ?_
  refine j_iconst (v := (nI 3)) C dL_changes_547 (by decide) ?_
  refine j_ishr C dL_changes_548 ?_
  refine j_tope (y := nI (Y / 8)) (by exact shrN (by omega) 3 (by decide)) ?_
  refine j_sipush (v := (nI 3000)) C dL_changes_549 (by decide) ?_
  refine j_callS2r C (c_L_at (by omega) (by omega) (by omega)) qm_L_44 qt_L_at qn_L qc_L_at fit_L_at ⟨Nat.le_of_ble_eq_true rfl, Nat.le_of_ble_eq_true rfl, Nat.le_of_ble_eq_true rfl, Nat.le_of_ble_eq_true rfl⟩ (Nat.le_of_ble_eq_true rfl) dL_changes_552 ?_
  refine j_tope (y := nI rc) (by rw [hrc]) ?_
  refine j_ist12 C dL_changes_555 (Nat.le_of_ble_eq_true rfl) rfl ?_
  refine j_iload C dL_changes_557 rfl ?_
  refine j_if_eq (tgt := 607) C dL_changes_559 (by decide) (fun h559 => ?_) (fun h559 => (by exact absurd h559 (by decide)))
  refine j_iconst (v := (nI 1)) C dL_changes_607 (by decide) ?_
  exact j_zret C dL_changes_608 (by first | rfl | exact nar_b2i) (by rfl) (by rfl) (by rfl)
set_option maxHeartbeats 4000000 in
theorem c_L_ch_sub1 {l : Launch} {g : GC} {V : Mem} {L : LMem} {k nl ns : Nat} {X Y : Nat} (hX : X < 2 ^ 31) (hY : Y < 2 ^ 31) (h0 : V 224 0 = nI nl) (h8 : nl ≤ 8) (hk : atN (X / 4) nl = k) (hkl : k < nl) {t n rc : Nat} (ht : 1 + atN Y (if atN X 2 = 0 then 1000 else 300) = t) (hn : 1 + atN (Y / 128) 10 = n) (hrc : atN (Y / 8) 3000 = rc) (hr : 0 < V 225 (3 * k + 1)) (hlt : V 225 (3 * k + 1) < nI n) : MC l yL_changes cL_changes 15 (some .boolean) 6 g V L [.ref (ad g 223), .int (nI 4), .int (nI X), .int (nI Y), .ref (ad g 224), .ref (ad g 225), .ref (ad g 226), .ref (ad g 227)] (some (.int (nI 1))) V L := by
  refine MC.of [some (.ref (ad g 223)), some (.int (nI 4)), some (.int (nI X)), some (.int (nI Y)), some (.ref (ad g 224)), some (.ref (ad g 225)), some (.ref (ad g 226)), some (.ref (ad g 227)), none, none, none, none, none, none, none] (by decide +kernel) rfl (Nat.le_of_ble_eq_true rfl) (fun p e s m args below meth c C => ?_)
  refine j_aload C dL_changes_0 rfl ?_
  refine j_iconst (v := (nI 0)) C dL_changes_2 (by decide) ?_
  refine j_ialdN C (by first | assumption | rfl) rfl rfl (by omega) dL_changes_3 ?_
  refine j_tope (y := nI nl) (by exact h0) ?_
  refine j_if_ne (tgt := 9) C dL_changes_4 (by decide) (fun h4 => ?_) (fun h4 => (by exact absurd h4 (nI_ne0 (by omega) (by omega))))
  refine j_iload_n C dL_changes_9 rfl rfl ?_
  refine j_iconst (v := (nI 2)) C dL_changes_10 (by decide) ?_
  refine j_ishr C dL_changes_11 ?_
  refine j_tope (y := nI (X / 4)) (by exact shrN (by omega) 2 (by decide)) ?_
  refine j_aload C dL_changes_12 rfl ?_
  refine j_iconst (v := (nI 0)) C dL_changes_14 (by decide) ?_
  refine j_ialdN C (by first | assumption | rfl) rfl rfl (by omega) dL_changes_15 ?_
  refine j_tope (y := nI nl) (by exact h0) ?_
  refine j_callS2r C (c_L_at (by omega) (by omega) (by omega)) qm_L_44 qt_L_at qn_L qc_L_at fit_L_at ⟨Nat.le_of_ble_eq_true rfl, Nat.le_of_ble_eq_true rfl, Nat.le_of_ble_eq_true rfl, Nat.le_of_ble_eq_true rfl⟩ (Nat.le_of_ble_eq_true rfl) dL_changes_16 ?_
  refine j_tope (y := nI k) (by rw [hk]) ?_
  refine j_ist8 C dL_changes_19 (Nat.le_of_ble_eq_true rfl) rfl ?_
  refine j_aload C dL_changes_21 rfl ?_
  refine j_iconst (v := (nI 3)) C dL_changes_23 (by decide) ?_
  refine j_iload C dL_changes_24 rfl ?_
  refine j_imulN C dL_changes_26 ?_
  refine j_iconst (v := (nI 1)) C dL_changes_27 (by decide) ?_
  refine j_iaddN C dL_changes_28 ?_
  refine j_ialdN C (by first | assumption | rfl) rfl rfl (by omega) dL_changes_29 ?_
  refine j_if_le (tgt := 37) C dL_changes_30 (by decide) (fun h30 => (by exact absurd h30 (Int32.not_le.mpr hr))) (fun h30 => ?_)
  refine j_iconst (v := (nI 1)) C dL_changes_33 (by decide) ?_
  refine j_goto (tgt := 38) C dL_changes_34 (by decide) ?_
  refine j_ist9 C dL_changes_38 (Nat.le_of_ble_eq_true rfl) rfl ?_
  refine j_iload_n C dL_changes_40 rfl rfl ?_
  refine j_if_ne (tgt := 126) C dL_changes_41 (by decide) (fun h41 => ?_) (fun h41 => (by exact absurd h41 (by decide)))
  refine j_iload_n C dL_changes_126 rfl rfl ?_
  refine j_iconst (v := (nI 1)) C dL_changes_127 (by decide) ?_
  refine j_icmp_ne (tgt := 208) C dL_changes_128 (by decide) (fun h128 => ?_) (fun h128 => (by exact absurd h128 (by decide)))
  refine j_iload_n C dL_changes_208 rfl rfl ?_
  refine j_iconst (v := (nI 2)) C dL_changes_209 (by decide) ?_
  refine j_icmp_ne (tgt := 413) C dL_changes_210 (by decide) (fun h210 => ?_) (fun h210 => (by exact absurd h210 (by decide)))
  refine j_iload_n C dL_changes_413 rfl rfl ?_
  refine j_iconst (v := (nI 3)) C dL_changes_414 (by decide) ?_
  refine j_icmp_ne (tgt := 508) C dL_changes_415 (by decide) (fun h415 => ?_) (fun h415 => (by exact absurd h415 (by decide)))
  refine j_iconst (v := (nI 1)) C dL_changes_508 (by decide) ?_
  refine j_iload_n C dL_changes_509 rfl rfl ?_
  refine j_iload_n C dL_changes_510 rfl rfl ?_
  refine j_iconst (v := (nI 2)) C dL_changes_511 (by decide) ?_
  refine j_callS2r C (c_L_at (by omega) (by omega) (by omega)) qm_L_44 qt_L_at qn_L qc_L_at fit_L_at ⟨Nat.le_of_ble_eq_true rfl, Nat.le_of_ble_eq_true rfl, Nat.le_of_ble_eq_true rfl, Nat.le_of_ble_eq_true rfl⟩ (Nat.le_of_ble_eq_true rfl) dL_changes_512 ?_
  refine j_tern (a := nI 1000) (b := nI 300) (tgt := 524) (join := 527) C dL_changes_515 (by decide) (fun k => ?_) (fun k => ?_) ?_
  · refine j_sipush (v := (nI 1000)) C dL_changes_518 (by decide) ?_
    refine j_goto (tgt := 527) C dL_changes_521 (by decide) ?_
    exact k
  · refine j_sipush (v := (nI 300)) C dL_changes_524 (by decide) ?_
    exact k
  refine j_tope (y := nI (if atN X 2 = 0 then 1000 else 300)) (by exact ternN (atN_lt (by omega))) ?_
  refine j_callS2r C (c_L_at (by omega) (ite_pos (by omega) (by omega)) (ite_lt (by omega) (by omega))) qm_L_44 qt_L_at qn_L qc_L_at fit_L_at ⟨Nat.le_of_ble_eq_true rfl, Nat.le_of_ble_eq_true rfl, Nat.le_of_ble_eq_true rfl, Nat.le_of_ble_eq_true rfl⟩ (Nat.le_of_ble_eq_true rfl) dL_changes_527 ?_
  refine j_iaddN C dL_changes_530 ?_
  refine j_tope (y := nI t) (by rw [ht]) ?_
  refine j_ist10 C dL_changes_531 (Nat.le_of_ble_eq_true rfl) rfl ?_
  refine j_iconst (v := (nI 1)) C dL_changes_533 (by decide) ?_
  refine j_iload_n C dL_changes_534 rfl rfl ?_
  refine j_bipush (v := (nI 7)) C dL_changes_535 (by decide) ?_
  refine j_ishr C dL_changes_537 ?_
  refine j_tope (y := nI (Y / 128)) (by exact shrN (by omega) 7 (by decide)) ?_
  refine j_bipush (v := (nI 10)) C dL_changes_538 (by decide) ?_
  refine j_callS2r C (c_L_at (by omega) (by omega) (by omega)) qm_L_44 qt_L_at qn_L qc_L_at fit_L_at ⟨Nat.le_of_ble_eq_true rfl, Nat.le_of_ble_eq_true rfl, Nat.le_of_ble_eq_true rfl, Nat.le_of_ble_eq_true rfl⟩ (Nat.le_of_ble_eq_true rfl) dL_changes_540 ?_
  refine j_iaddN C dL_changes_543 ?_
  refine j_tope (y := nI n) (by rw [hn]) ?_
  refine j_ist11 C dL_changes_544 (Nat.le_of_ble_eq_true rfl) rfl ?_
  refine j_iload_n C dL_changes_546 rfl rfl ?_
  refine j_iconst (v := (nI 3)) C dL_changes_547 (by decide) ?_
  refine j_ishr C dL_changes_548 ?_
  refine j_tope (y := nI (Y / 8)) (by exact shrN (by omega) 3 (by decide)) ?_
  refine j_sipush (v := (nI 3000)) C dL_changes_549 (by decide) ?_
  refine j_callS2r C (c_L_at (by omega) (by omega) (by omega)) qm_L_44 qt_L_at qn_L qc_L_at fit_L_at ⟨Nat.le_of_ble_eq_true rfl, Nat.le_of_ble_eq_true rfl, Nat.le_of_ble_eq_true rfl, Nat.le_of_ble_eq_true rfl⟩ (Nat.le_of_ble_eq_true rfl) dL_changes_552 ?_
  refine j_tope (y := nI rc) (by rw [hrc]) ?_
  refine j_ist12 C dL_changes_555 (Nat.le_of_ble_eq_true rfl) rfl ?_
  refine j_iload C dL_changes_557 rfl ?_
  refine j_if_eq (tgt := 607) C dL_changes_559 (by decide) (fun h559 => (by exact absurd h559 (by decide))) (fun h559 => ?_)
  refine j_aload C dL_changes_562 rfl ?_
  refine j_iconst (v := (nI 3)) C dL_changes_564 (by decide) ?_
  refine j_iload C dL_changes_565 rfl ?_
  refine j_imulN C dL_changes_567 ?_
  refine j_iconst (v := (nI 1)) C dL_changes_568 (by decide) ?_
  refine j_iaddN C dL_changes_569 ?_
  refine j_ialdN C (by first | assumption | rfl) rfl rfl (by omega) dL_changes_570 ?_
  refine j_iload C dL_changes_571 rfl ?_
  refine j_icmp_lt (tgt := 607) C dL_changes_573 (by decide) (fun h573 => ?_) (fun h573 => (by exact absurd hlt h573))
  refine j_iconst (v := (nI 1)) C dL_changes_607 (by decide) ?_
  exact j_zret C dL_changes_608 (by first | rfl | exact nar_b2i) (by rfl) (by rfl) (by rfl)
set_option maxHeartbeats 4000000 in
theorem c_L_ch_sub2 {l : Launch} {g : GC} {V : Mem} {L : LMem} {k nl ns : Nat} {X Y : Nat} (hX : X < 2 ^ 31) (hY : Y < 2 ^ 31) (h0 : V 224 0 = nI nl) (h8 : nl ≤ 8) (hk : atN (X / 4) nl = k) (hkl : k < nl) {t n rc : Nat} (ht : 1 + atN Y (if atN X 2 = 0 then 1000 else 300) = t) (hn : 1 + atN (Y / 128) 10 = n) (hrc : atN (Y / 8) 3000 = rc) (hr : 0 < V 225 (3 * k + 1)) (h1 : V 224 1 = nI ns) (h12 : ns ≤ 12) (hlt : ¬ V 225 (3 * k + 1) < nI n) (hgt : nI 1000 < lOf V k 7 ns + nI t) : MC l yL_changes cL_changes 15 (some .boolean) 6 g V L [.ref (ad g 223), .int (nI 4), .int (nI X), .int (nI Y), .ref (ad g 224), .ref (ad g 225), .ref (ad g 226), .ref (ad g 227)] (some (.int (nI 1))) V L := by
  refine MC.of [some (.ref (ad g 223)), some (.int (nI 4)), some (.int (nI X)), some (.int (nI Y)), some (.ref (ad g 224)), some (.ref (ad g 225)), some (.ref (ad g 226)), some (.ref (ad g 227)), none, none, none, none, none, none, none] (by decide +kernel) rfl (Nat.le_of_ble_eq_true rfl) (fun p e s m args below meth c C => ?_)
  refine j_aload C dL_changes_0 rfl ?_
  refine j_iconst (v := (nI 0)) C dL_changes_2 (by decide) ?_
  refine j_ialdN C (by first | assumption | rfl) rfl rfl (by omega) dL_changes_3 ?_
  refine j_tope (y := nI nl) (by exact h0) ?_
  refine j_if_ne (tgt := 9) C dL_changes_4 (by decide) (fun h4 => ?_) (fun h4 => (by exact absurd h4 (nI_ne0 (by omega) (by omega))))
  refine j_iload_n C dL_changes_9 rfl rfl ?_
  refine j_iconst (v := (nI 2)) C dL_changes_10 (by decide) ?_
  refine j_ishr C dL_changes_11 ?_
  refine j_tope (y := nI (X / 4)) (by exact shrN (by omega) 2 (by decide)) ?_
  refine j_aload C dL_changes_12 rfl ?_
  refine j_iconst (v := (nI 0)) C dL_changes_14 (by decide) ?_
  refine j_ialdN C (by first | assumption | rfl) rfl rfl (by omega) dL_changes_15 ?_
  refine j_tope (y := nI nl) (by exact h0) ?_
  refine j_callS2r C (c_L_at (by omega) (by omega) (by omega)) qm_L_44 qt_L_at qn_L qc_L_at fit_L_at ⟨Nat.le_of_ble_eq_true rfl, Nat.le_of_ble_eq_true rfl, Nat.le_of_ble_eq_true rfl, Nat.le_of_ble_eq_true rfl⟩ (Nat.le_of_ble_eq_true rfl) dL_changes_16 ?_
  refine j_tope (y := nI k) (by rw [hk]) ?_
  refine j_ist8 C dL_changes_19 (Nat.le_of_ble_eq_true rfl) rfl ?_
  refine j_aload C dL_changes_21 rfl ?_
  refine j_iconst (v := (nI 3)) C dL_changes_23 (by decide) ?_
  refine j_iload C dL_changes_24 rfl ?_
  refine j_imulN C dL_changes_26 ?_
  refine j_iconst (v := (nI 1)) C dL_changes_27 (by decide) ?_
  refine j_iaddN C dL_changes_28 ?_
  refine j_ialdN C (by first | assumption | rfl) rfl rfl (by omega) dL_changes_29 ?_
  refine j_if_le (tgt := 37) C dL_changes_30 (by decide) (fun h30 => (by exact absurd h30 (Int32.not_le.mpr hr))) (fun h30 => ?_)
  refine j_iconst (v := (nI 1)) C dL_changes_33 (by decide) ?_
  refine j_goto (tgt := 38) C dL_changes_34 (by decide) ?_
  refine j_ist9 C dL_changes_38 (Nat.le_of_ble_eq_true rfl) rfl ?_
  refine j_iload_n C dL_changes_40 rfl rfl ?_
  refine j_if_ne (tgt := 126) C dL_changes_41 (by decide) (fun h41 => ?_) (fun h41 => (by exact absurd h41 (by decide)))
  refine j_iload_n C dL_changes_126 rfl rfl ?_
  refine j_iconst (v := (nI 1)) C dL_changes_127 (by decide) ?_
  refine j_icmp_ne (tgt := 208) C dL_changes_128 (by decide) (fun h128 => ?_) (fun h128 => (by exact absurd h128 (by decide)))
  refine j_iload_n C dL_changes_208 rfl rfl ?_
  refine j_iconst (v := (nI 2)) C dL_changes_209 (by decide) ?_
  refine j_icmp_ne (tgt := 413) C dL_changes_210 (by decide) (fun h210 => ?_) (fun h210 => (by exact absurd h210 (by decide)))
  refine j_iload_n C dL_changes_413 rfl rfl ?_
  refine j_iconst (v := (nI 3)) C dL_changes_414 (by decide) ?_
  refine j_icmp_ne (tgt := 508) C dL_changes_415 (by decide) (fun h415 => ?_) (fun h415 => (by exact absurd h415 (by decide)))
  refine j_iconst (v := (nI 1)) C dL_changes_508 (by decide) ?_
  refine j_iload_n C dL_changes_509 rfl rfl ?_
  refine j_iload_n C dL_changes_510 rfl rfl ?_
  refine j_iconst (v := (nI 2)) C dL_changes_511 (by decide) ?_
  refine j_callS2r C (c_L_at (by omega) (by omega) (by omega)) qm_L_44 qt_L_at qn_L qc_L_at fit_L_at ⟨Nat.le_of_ble_eq_true rfl, Nat.le_of_ble_eq_true rfl, Nat.le_of_ble_eq_true rfl, Nat.le_of_ble_eq_true rfl⟩ (Nat.le_of_ble_eq_true rfl) dL_changes_512 ?_
  refine j_tern (a := nI 1000) (b := nI 300) (tgt := 524) (join := 527) C dL_changes_515 (by decide) (fun k => ?_) (fun k => ?_) ?_
  · refine j_sipush (v := (nI 1000)) C dL_changes_518 (by decide) ?_
    refine j_goto (tgt := 527) C dL_changes_521 (by decide) ?_
    exact k
  · refine j_sipush (v := (nI 300)) C dL_changes_524 (by decide) ?_
    exact k
  refine j_tope (y := nI (if atN X 2 = 0 then 1000 else 300)) (by exact ternN (atN_lt (by omega))) ?_
  refine j_callS2r C (c_L_at (by omega) (ite_pos (by omega) (by omega)) (ite_lt (by omega) (by omega))) qm_L_44 qt_L_at qn_L qc_L_at fit_L_at ⟨Nat.le_of_ble_eq_true rfl, Nat.le_of_ble_eq_true rfl, Nat.le_of_ble_eq_true rfl, Nat.le_of_ble_eq_true rfl⟩ (Nat.le_of_ble_eq_true rfl) dL_changes_527 ?_
  refine j_iaddN C dL_changes_530 ?_
  refine j_tope (y := nI t) (by rw [ht]) ?_
  refine j_ist10 C dL_changes_531 (Nat.le_of_ble_eq_true rfl) rfl ?_
  refine j_iconst (v := (nI 1)) C dL_changes_533 (by decide) ?_
  refine j_iload_n C dL_changes_534 rfl rfl ?_
  refine j_bipush (v := (nI 7)) C dL_changes_535 (by decide) ?_
  refine j_ishr C dL_changes_537 ?_
  refine j_tope (y := nI (Y / 128)) (by exact shrN (by omega) 7 (by decide)) ?_
  refine j_bipush (v := (nI 10)) C dL_changes_538 (by decide) ?_
  refine j_callS2r C (c_L_at (by omega) (by omega) (by omega)) qm_L_44 qt_L_at qn_L qc_L_at fit_L_at ⟨Nat.le_of_ble_eq_true rfl, Nat.le_of_ble_eq_true rfl, Nat.le_of_ble_eq_true rfl, Nat.le_of_ble_eq_true rfl⟩ (Nat.le_of_ble_eq_true rfl) dL_changes_540 ?_
  refine j_iaddN C dL_changes_543 ?_
  refine j_tope (y := nI n) (by rw [hn]) ?_
  refine j_ist11 C dL_changes_544 (Nat.le_of_ble_eq_true rfl) rfl ?_
  refine j_iload_n C dL_changes_546 rfl rfl ?_
  refine j_iconst (v := (nI 3)) C dL_changes_547 (by decide) ?_
  refine j_ishr C dL_changes_548 ?_
  refine j_tope (y := nI (Y / 8)) (by exact shrN (by omega) 3 (by decide)) ?_
  refine j_sipush (v := (nI 3000)) C dL_changes_549 (by decide) ?_
  refine j_callS2r C (c_L_at (by omega) (by omega) (by omega)) qm_L_44 qt_L_at qn_L qc_L_at fit_L_at ⟨Nat.le_of_ble_eq_true rfl, Nat.le_of_ble_eq_true rfl, Nat.le_of_ble_eq_true rfl, Nat.le_of_ble_eq_true rfl⟩ (Nat.le_of_ble_eq_true rfl) dL_changes_552 ?_
  refine j_tope (y := nI rc) (by rw [hrc]) ?_
  refine j_ist12 C dL_changes_555 (Nat.le_of_ble_eq_true rfl) rfl ?_
  refine j_iload C dL_changes_557 rfl ?_
  refine j_if_eq (tgt := 607) C dL_changes_559 (by decide) (fun h559 => (by exact absurd h559 (by decide))) (fun h559 => ?_)
  refine j_aload C dL_changes_562 rfl ?_
  refine j_iconst (v := (nI 3)) C dL_changes_564 (by decide) ?_
  refine j_iload C dL_changes_565 rfl ?_
  refine j_imulN C dL_changes_567 ?_
  refine j_iconst (v := (nI 1)) C dL_changes_568 (by decide) ?_
  refine j_iaddN C dL_changes_569 ?_
  refine j_ialdN C (by first | assumption | rfl) rfl rfl (by omega) dL_changes_570 ?_
  refine j_iload C dL_changes_571 rfl ?_
  refine j_icmp_lt (tgt := 607) C dL_changes_573 (by decide) (fun h573 => (by exact absurd h573 hlt)) (fun h573 => ?_)
  refine j_iload C dL_changes_576 rfl ?_
  refine j_bipush (v := (nI 7)) C dL_changes_578 (by decide) ?_
  refine j_aload C dL_changes_580 rfl ?_
  refine j_aload C dL_changes_582 rfl ?_
  refine j_aload C dL_changes_584 rfl ?_
  refine j_callS5r C (c_L_off7 h1 h12) qm_L_20 qt_L_off qn_L qc_L_off fit_L_off ⟨Nat.le_of_ble_eq_true rfl, Nat.le_of_ble_eq_true rfl, Nat.le_of_ble_eq_true rfl, Nat.le_of_ble_eq_true rfl⟩ (Nat.le_of_ble_eq_true rfl) dL_changes_586 ?_
  refine j_iload C dL_changes_589 rfl ?_
  refine j_iadd C dL_changes_591 ?_
  refine j_sipush (v := (nI 1000)) C dL_changes_592 (by decide) ?_
  refine j_icmp_gt (tgt := 607) C dL_changes_595 (by decide) (fun h595 => ?_) (fun h595 => (by exact absurd hgt h595))
  refine j_iconst (v := (nI 1)) C dL_changes_607 (by decide) ?_
  exact j_zret C dL_changes_608 (by first | rfl | exact nar_b2i) (by rfl) (by rfl) (by rfl)
set_option maxHeartbeats 4000000 in
theorem c_L_ch_sub3 {l : Launch} {g : GC} {V : Mem} {L : LMem} {k nl ns : Nat} {X Y : Nat} (hX : X < 2 ^ 31) (hY : Y < 2 ^ 31) (h0 : V 224 0 = nI nl) (h8 : nl ≤ 8) (hk : atN (X / 4) nl = k) (hkl : k < nl) {t n rc : Nat} (ht : 1 + atN Y (if atN X 2 = 0 then 1000 else 300) = t) (hn : 1 + atN (Y / 128) 10 = n) (hrc : atN (Y / 8) 3000 = rc) (hr : 0 < V 225 (3 * k + 1)) (h1 : V 224 1 = nI ns) (h12 : ns ≤ 12) (hlt : ¬ V 225 (3 * k + 1) < nI n) (hgt : ¬ nI 1000 < lOf V k 7 ns + nI t) (h12e : ns = 12) : MC l yL_changes cL_changes 15 (some .boolean) 6 g V L [.ref (ad g 223), .int (nI 4), .int (nI X), .int (nI Y), .ref (ad g 224), .ref (ad g 225), .ref (ad g 226), .ref (ad g 227)] (some (.int (nI 1))) V L := by
  refine MC.of [some (.ref (ad g 223)), some (.int (nI 4)), some (.int (nI X)), some (.int (nI Y)), some (.ref (ad g 224)), some (.ref (ad g 225)), some (.ref (ad g 226)), some (.ref (ad g 227)), none, none, none, none, none, none, none] (by decide +kernel) rfl (Nat.le_of_ble_eq_true rfl) (fun p e s m args below meth c C => ?_)
  refine j_aload C dL_changes_0 rfl ?_
  refine j_iconst (v := (nI 0)) C dL_changes_2 (by decide) ?_
  refine j_ialdN C (by first | assumption | rfl) rfl rfl (by omega) dL_changes_3 ?_
  refine j_tope (y := nI nl) (by exact h0) ?_
  refine j_if_ne (tgt := 9) C dL_changes_4 (by decide) (fun h4 => ?_) (fun h4 => (by exact absurd h4 (nI_ne0 (by omega) (by omega))))
  refine j_iload_n C dL_changes_9 rfl rfl ?_
  refine j_iconst (v := (nI 2)) C dL_changes_10 (by decide) ?_
  refine j_ishr C dL_changes_11 ?_
  refine j_tope (y := nI (X / 4)) (by exact shrN (by omega) 2 (by decide)) ?_
  refine j_aload C dL_changes_12 rfl ?_
  refine j_iconst (v := (nI 0)) C dL_changes_14 (by decide) ?_
  refine j_ialdN C (by first | assumption | rfl) rfl rfl (by omega) dL_changes_15 ?_
  refine j_tope (y := nI nl) (by exact h0) ?_
  refine j_callS2r C (c_L_at (by omega) (by omega) (by omega)) qm_L_44 qt_L_at qn_L qc_L_at fit_L_at ⟨Nat.le_of_ble_eq_true rfl, Nat.le_of_ble_eq_true rfl, Nat.le_of_ble_eq_true rfl, Nat.le_of_ble_eq_true rfl⟩ (Nat.le_of_ble_eq_true rfl) dL_changes_16 ?_
  refine j_tope (y := nI k) (by rw [hk]) ?_
  refine j_ist8 C dL_changes_19 (Nat.le_of_ble_eq_true rfl) rfl ?_
  refine j_aload C dL_changes_21 rfl ?_
  refine j_iconst (v := (nI 3)) C dL_changes_23 (by decide) ?_
  refine j_iload C dL_changes_24 rfl ?_
  refine j_imulN C dL_changes_26 ?_
  refine j_iconst (v := (nI 1)) C dL_changes_27 (by decide) ?_
  refine j_iaddN C dL_changes_28 ?_
  refine j_ialdN C (by first | assumption | rfl) rfl rfl (by omega) dL_changes_29 ?_
  refine j_if_le (tgt := 37) C dL_changes_30 (by decide) (fun h30 => (by exact absurd h30 (Int32.not_le.mpr hr))) (fun h30 => ?_)
  refine j_iconst (v := (nI 1)) C dL_changes_33 (by decide) ?_
  refine j_goto (tgt := 38) C dL_changes_34 (by decide) ?_
  refine j_ist9 C dL_changes_38 (Nat.le_of_ble_eq_true rfl) rfl ?_
  refine j_iload_n C dL_changes_40 rfl rfl ?_
  refine j_if_ne (tgt := 126) C dL_changes_41 (by decide) (fun h41 => ?_) (fun h41 => (by exact absurd h41 (by decide)))
  refine j_iload_n C dL_changes_126 rfl rfl ?_
  refine j_iconst (v := (nI 1)) C dL_changes_127 (by decide) ?_
  refine j_icmp_ne (tgt := 208) C dL_changes_128 (by decide) (fun h128 => ?_) (fun h128 => (by exact absurd h128 (by decide)))
  refine j_iload_n C dL_changes_208 rfl rfl ?_
  refine j_iconst (v := (nI 2)) C dL_changes_209 (by decide) ?_
  refine j_icmp_ne (tgt := 413) C dL_changes_210 (by decide) (fun h210 => ?_) (fun h210 => (by exact absurd h210 (by decide)))
  refine j_iload_n C dL_changes_413 rfl rfl ?_
  refine j_iconst (v := (nI 3)) C dL_changes_414 (by decide) ?_
  refine j_icmp_ne (tgt := 508) C dL_changes_415 (by decide) (fun h415 => ?_) (fun h415 => (by exact absurd h415 (by decide)))
  refine j_iconst (v := (nI 1)) C dL_changes_508 (by decide) ?_
  refine j_iload_n C dL_changes_509 rfl rfl ?_
  refine j_iload_n C dL_changes_510 rfl rfl ?_
  refine j_iconst (v := (nI 2)) C dL_changes_511 (by decide) ?_
  refine j_callS2r C (c_L_at (by omega) (by omega) (by omega)) qm_L_44 qt_L_at qn_L qc_L_at fit_L_at ⟨Nat.le_of_ble_eq_true rfl, Nat.le_of_ble_eq_true rfl, Nat.le_of_ble_eq_true rfl, Nat.le_of_ble_eq_true rfl⟩ (Nat.le_of_ble_eq_true rfl) dL_changes_512 ?_
  refine j_tern (a := nI 1000) (b := nI 300) (tgt := 524) (join := 527) C dL_changes_515 (by decide) (fun k => ?_) (fun k => ?_) ?_
  · refine j_sipush (v := (nI 1000)) C dL_changes_518 (by decide) ?_
    refine j_goto (tgt := 527) C dL_changes_521 (by decide) ?_
    exact k
  · refine j_sipush (v := (nI 300)) C dL_changes_524 (by decide) ?_
    exact k
  refine j_tope (y := nI (if atN X 2 = 0 then 1000 else 300)) (by exact ternN (atN_lt (by omega))) ?_
  refine j_callS2r C (c_L_at (by omega) (ite_pos (by omega) (by omega)) (ite_lt (by omega) (by omega))) qm_L_44 qt_L_at qn_L qc_L_at fit_L_at ⟨Nat.le_of_ble_eq_true rfl, Nat.le_of_ble_eq_true rfl, Nat.le_of_ble_eq_true rfl, Nat.le_of_ble_eq_true rfl⟩ (Nat.le_of_ble_eq_true rfl) dL_changes_527 ?_
  refine j_iaddN C dL_changes_530 ?_
  refine j_tope (y := nI t) (by rw [ht]) ?_
  refine j_ist10 C dL_changes_531 (Nat.le_of_ble_eq_true rfl) rfl ?_
  refine j_iconst (v := (nI 1)) C dL_changes_533 (by decide) ?_
  refine j_iload_n C dL_changes_534 rfl rfl ?_
  refine j_bipush (v := (nI 7)) C dL_changes_535 (by decide) ?_
  refine j_ishr C dL_changes_537 ?_
  refine j_tope (y := nI (Y / 128)) (by exact shrN (by omega) 7 (by decide)) ?_
  refine j_bipush (v := (nI 10)) C dL_changes_538 (by decide) ?_
  refine j_callS2r C (c_L_at (by omega) (by omega) (by omega)) qm_L_44 qt_L_at qn_L qc_L_at fit_L_at ⟨Nat.le_of_ble_eq_true rfl, Nat.le_of_ble_eq_true rfl, Nat.le_of_ble_eq_true rfl, Nat.le_of_ble_eq_true rfl⟩ (Nat.le_of_ble_eq_true rfl) dL_changes_540 ?_
  refine j_iaddN C dL_changes_543 ?_
  refine j_tope (y := nI n) (by rw [hn]) ?_
  refine j_ist11 C dL_changes_544 (Nat.le_of_ble_eq_true rfl) rfl ?_
  refine j_iload_n C dL_changes_546 rfl rfl ?_
  refine j_iconst (v := (nI 3)) C dL_changes_547 (by decide) ?_
  refine j_ishr C dL_changes_548 ?_
  refine j_tope (y := nI (Y / 8)) (by exact shrN (by omega) 3 (by decide)) ?_
  refine j_sipush (v := (nI 3000)) C dL_changes_549 (by decide) ?_
  refine j_callS2r C (c_L_at (by omega) (by omega) (by omega)) qm_L_44 qt_L_at qn_L qc_L_at fit_L_at ⟨Nat.le_of_ble_eq_true rfl, Nat.le_of_ble_eq_true rfl, Nat.le_of_ble_eq_true rfl, Nat.le_of_ble_eq_true rfl⟩ (Nat.le_of_ble_eq_true rfl) dL_changes_552 ?_
  refine j_tope (y := nI rc) (by rw [hrc]) ?_
  refine j_ist12 C dL_changes_555 (Nat.le_of_ble_eq_true rfl) rfl ?_
  refine j_iload C dL_changes_557 rfl ?_
  refine j_if_eq (tgt := 607) C dL_changes_559 (by decide) (fun h559 => (by exact absurd h559 (by decide))) (fun h559 => ?_)
  refine j_aload C dL_changes_562 rfl ?_
  refine j_iconst (v := (nI 3)) C dL_changes_564 (by decide) ?_
  refine j_iload C dL_changes_565 rfl ?_
  refine j_imulN C dL_changes_567 ?_
  refine j_iconst (v := (nI 1)) C dL_changes_568 (by decide) ?_
  refine j_iaddN C dL_changes_569 ?_
  refine j_ialdN C (by first | assumption | rfl) rfl rfl (by omega) dL_changes_570 ?_
  refine j_iload C dL_changes_571 rfl ?_
  refine j_icmp_lt (tgt := 607) C dL_changes_573 (by decide) (fun h573 => (by exact absurd h573 hlt)) (fun h573 => ?_)
  refine j_iload C dL_changes_576 rfl ?_
  refine j_bipush (v := (nI 7)) C dL_changes_578 (by decide) ?_
  refine j_aload C dL_changes_580 rfl ?_
  refine j_aload C dL_changes_582 rfl ?_
  refine j_aload C dL_changes_584 rfl ?_
  refine j_callS5r C (c_L_off7 h1 h12) qm_L_20 qt_L_off qn_L qc_L_off fit_L_off ⟨Nat.le_of_ble_eq_true rfl, Nat.le_of_ble_eq_true rfl, Nat.le_of_ble_eq_true rfl, Nat.le_of_ble_eq_true rfl⟩ (Nat.le_of_ble_eq_true rfl) dL_changes_586 ?_
  refine j_iload C dL_changes_589 rfl ?_
  refine j_iadd C dL_changes_591 ?_
  refine j_sipush (v := (nI 1000)) C dL_changes_592 (by decide) ?_
  refine j_icmp_gt (tgt := 607) C dL_changes_595 (by decide) (fun h595 => (by exact absurd h595 hgt)) (fun h595 => ?_)
  refine j_aload C dL_changes_598 rfl ?_
  refine j_iconst (v := (nI 1)) C dL_changes_600 (by decide) ?_
  refine j_ialdN C (by first | assumption | rfl) rfl rfl (by omega) dL_changes_601 ?_
  refine j_tope (y := nI ns) (by exact h1) ?_
  refine j_bipush (v := (nI 12)) C dL_changes_602 (by decide) ?_
  refine j_icmp_ne (tgt := 609) C dL_changes_604 (by decide) (fun h604 => (by exact absurd (by rw [h12e]) h604)) (fun h604 => ?_)
  refine j_iconst (v := (nI 1)) C dL_changes_607 (by decide) ?_
  exact j_zret C dL_changes_608 (by first | rfl | exact nar_b2i) (by rfl) (by rfl) (by rfl)
set_option maxHeartbeats 4000000 in
theorem c_L_ch_sub {l : Launch} {g : GC} {V : Mem} {L : LMem} {k nl ns : Nat} {X Y : Nat} (hX : X < 2 ^ 31) (hY : Y < 2 ^ 31) (h0 : V 224 0 = nI nl) (h8 : nl ≤ 8) (hk : atN (X / 4) nl = k) (hkl : k < nl) {t n rc : Nat} (ht : 1 + atN Y (if atN X 2 = 0 then 1000 else 300) = t) (hn : 1 + atN (Y / 128) 10 = n) (hrc : atN (Y / 8) 3000 = rc) (hr : 0 < V 225 (3 * k + 1)) (h1 : V 224 1 = nI ns) (h12 : ns ≤ 12) (hlt : ¬ V 225 (3 * k + 1) < nI n) (hgt : ¬ nI 1000 < lOf V k 7 ns + nI t) (h12l : ns < 12) (hz : rateR (V 225 (3 * k + 2))) {V2 : Mem} (hT : MC l yX6_sublet cX6_sublet 6 (some .int) 5 g (lSubl k ns (nI t) (nI rc) (nI n) V) L [.ref (ad g 223), .int (nI k), .int (nI t), .int (nI rc), .int (nI n)] (some (.int (nI ns))) V2 L) (hmr : money (nI rc)) (hpn : perR (nI n)) : MC l yL_changes cL_changes 15 (some .boolean) 6 g V L [.ref (ad g 223), .int (nI 4), .int (nI X), .int (nI Y), .ref (ad g 224), .ref (ad g 225), .ref (ad g 226), .ref (ad g 227)] (some (.int (nI 1))) V2 L := by
  refine MC.of [some (.ref (ad g 223)), some (.int (nI 4)), some (.int (nI X)), some (.int (nI Y)), some (.ref (ad g 224)), some (.ref (ad g 225)), some (.ref (ad g 226)), some (.ref (ad g 227)), none, none, none, none, none, none, none] (by decide +kernel) rfl (Nat.le_of_ble_eq_true rfl) (fun p e s m args below meth c C => ?_)
  refine j_aload C dL_changes_0 rfl ?_
  refine j_iconst (v := (nI 0)) C dL_changes_2 (by decide) ?_
  refine j_ialdN C (by first | assumption | rfl) rfl rfl (by omega) dL_changes_3 ?_
  refine j_tope (y := nI nl) (by exact h0) ?_
  refine j_if_ne (tgt := 9) C dL_changes_4 (by decide) (fun h4 => ?_) (fun h4 => (by exact absurd h4 (nI_ne0 (by omega) (by omega))))
  refine j_iload_n C dL_changes_9 rfl rfl ?_
  refine j_iconst (v := (nI 2)) C dL_changes_10 (by decide) ?_
  refine j_ishr C dL_changes_11 ?_
  refine j_tope (y := nI (X / 4)) (by exact shrN (by omega) 2 (by decide)) ?_
  refine j_aload C dL_changes_12 rfl ?_
  refine j_iconst (v := (nI 0)) C dL_changes_14 (by decide) ?_
  refine j_ialdN C (by first | assumption | rfl) rfl rfl (by omega) dL_changes_15 ?_
  refine j_tope (y := nI nl) (by exact h0) ?_
  refine j_callS2r C (c_L_at (by omega) (by omega) (by omega)) qm_L_44 qt_L_at qn_L qc_L_at fit_L_at ⟨Nat.le_of_ble_eq_true rfl, Nat.le_of_ble_eq_true rfl, Nat.le_of_ble_eq_true rfl, Nat.le_of_ble_eq_true rfl⟩ (Nat.le_of_ble_eq_true rfl) dL_changes_16 ?_
  refine j_tope (y := nI k) (by rw [hk]) ?_
  refine j_ist8 C dL_changes_19 (Nat.le_of_ble_eq_true rfl) rfl ?_
  refine j_aload C dL_changes_21 rfl ?_
  refine j_iconst (v := (nI 3)) C dL_changes_23 (by decide) ?_
  refine j_iload C dL_changes_24 rfl ?_
  refine j_imulN C dL_changes_26 ?_
  refine j_iconst (v := (nI 1)) C dL_changes_27 (by decide) ?_
  refine j_iaddN C dL_changes_28 ?_
  refine j_ialdN C (by first | assumption | rfl) rfl rfl (by omega) dL_changes_29 ?_
  refine j_if_le (tgt := 37) C dL_changes_30 (by decide) (fun h30 => (by exact absurd h30 (Int32.not_le.mpr hr))) (fun h30 => ?_)
  refine j_iconst (v := (nI 1)) C dL_changes_33 (by decide) ?_
  refine j_goto (tgt := 38) C dL_changes_34 (by decide) ?_
  refine j_ist9 C dL_changes_38 (Nat.le_of_ble_eq_true rfl) rfl ?_
  refine j_iload_n C dL_changes_40 rfl rfl ?_
  refine j_if_ne (tgt := 126) C dL_changes_41 (by decide) (fun h41 => ?_) (fun h41 => (by exact absurd h41 (by decide)))
  refine j_iload_n C dL_changes_126 rfl rfl ?_
  refine j_iconst (v := (nI 1)) C dL_changes_127 (by decide) ?_
  refine j_icmp_ne (tgt := 208) C dL_changes_128 (by decide) (fun h128 => ?_) (fun h128 => (by exact absurd h128 (by decide)))
  refine j_iload_n C dL_changes_208 rfl rfl ?_
  refine j_iconst (v := (nI 2)) C dL_changes_209 (by decide) ?_
  refine j_icmp_ne (tgt := 413) C dL_changes_210 (by decide) (fun h210 => ?_) (fun h210 => (by exact absurd h210 (by decide)))
  refine j_iload_n C dL_changes_413 rfl rfl ?_
  refine j_iconst (v := (nI 3)) C dL_changes_414 (by decide) ?_
  refine j_icmp_ne (tgt := 508) C dL_changes_415 (by decide) (fun h415 => ?_) (fun h415 => (by exact absurd h415 (by decide)))
  refine j_iconst (v := (nI 1)) C dL_changes_508 (by decide) ?_
  refine j_iload_n C dL_changes_509 rfl rfl ?_
  refine j_iload_n C dL_changes_510 rfl rfl ?_
  refine j_iconst (v := (nI 2)) C dL_changes_511 (by decide) ?_
  refine j_callS2r C (c_L_at (by omega) (by omega) (by omega)) qm_L_44 qt_L_at qn_L qc_L_at fit_L_at ⟨Nat.le_of_ble_eq_true rfl, Nat.le_of_ble_eq_true rfl, Nat.le_of_ble_eq_true rfl, Nat.le_of_ble_eq_true rfl⟩ (Nat.le_of_ble_eq_true rfl) dL_changes_512 ?_
  refine j_tern (a := nI 1000) (b := nI 300) (tgt := 524) (join := 527) C dL_changes_515 (by decide) (fun k => ?_) (fun k => ?_) ?_
  · refine j_sipush (v := (nI 1000)) C dL_changes_518 (by decide) ?_
    refine j_goto (tgt := 527) C dL_changes_521 (by decide) ?_
    exact k
  · refine j_sipush (v := (nI 300)) C dL_changes_524 (by decide) ?_
    exact k
  refine j_tope (y := nI (if atN X 2 = 0 then 1000 else 300)) (by exact ternN (atN_lt (by omega))) ?_
  refine j_callS2r C (c_L_at (by omega) (ite_pos (by omega) (by omega)) (ite_lt (by omega) (by omega))) qm_L_44 qt_L_at qn_L qc_L_at fit_L_at ⟨Nat.le_of_ble_eq_true rfl, Nat.le_of_ble_eq_true rfl, Nat.le_of_ble_eq_true rfl, Nat.le_of_ble_eq_true rfl⟩ (Nat.le_of_ble_eq_true rfl) dL_changes_527 ?_
  refine j_iaddN C dL_changes_530 ?_
  refine j_tope (y := nI t) (by rw [ht]) ?_
  refine j_ist10 C dL_changes_531 (Nat.le_of_ble_eq_true rfl) rfl ?_
  refine j_iconst (v := (nI 1)) C dL_changes_533 (by decide) ?_
  refine j_iload_n C dL_changes_534 rfl rfl ?_
  refine j_bipush (v := (nI 7)) C dL_changes_535 (by decide) ?_
  refine j_ishr C dL_changes_537 ?_
  refine j_tope (y := nI (Y / 128)) (by exact shrN (by omega) 7 (by decide)) ?_
  refine j_bipush (v := (nI 10)) C dL_changes_538 (by decide) ?_
  refine j_callS2r C (c_L_at (by omega) (by omega) (by omega)) qm_L_44 qt_L_at qn_L qc_L_at fit_L_at ⟨Nat.le_of_ble_eq_true rfl, Nat.le_of_ble_eq_true rfl, Nat.le_of_ble_eq_true rfl, Nat.le_of_ble_eq_true rfl⟩ (Nat.le_of_ble_eq_true rfl) dL_changes_540 ?_
  refine j_iaddN C dL_changes_543 ?_
  refine j_tope (y := nI n) (by rw [hn]) ?_
  refine j_ist11 C dL_changes_544 (Nat.le_of_ble_eq_true rfl) rfl ?_
  refine j_iload_n C dL_changes_546 rfl rfl ?_
  refine j_iconst (v := (nI 3)) C dL_changes_547 (by decide) ?_
  refine j_ishr C dL_changes_548 ?_
  refine j_tope (y := nI (Y / 8)) (by exact shrN (by omega) 3 (by decide)) ?_
  refine j_sipush (v := (nI 3000)) C dL_changes_549 (by decide) ?_
  refine j_callS2r C (c_L_at (by omega) (by omega) (by omega)) qm_L_44 qt_L_at qn_L qc_L_at fit_L_at ⟨Nat.le_of_ble_eq_true rfl, Nat.le_of_ble_eq_true rfl, Nat.le_of_ble_eq_true rfl, Nat.le_of_ble_eq_true rfl⟩ (Nat.le_of_ble_eq_true rfl) dL_changes_552 ?_
  refine j_tope (y := nI rc) (by rw [hrc]) ?_
  refine j_ist12 C dL_changes_555 (Nat.le_of_ble_eq_true rfl) rfl ?_
  refine j_iload C dL_changes_557 rfl ?_
  refine j_if_eq (tgt := 607) C dL_changes_559 (by decide) (fun h559 => (by exact absurd h559 (by decide))) (fun h559 => ?_)
  refine j_aload C dL_changes_562 rfl ?_
  refine j_iconst (v := (nI 3)) C dL_changes_564 (by decide) ?_
  refine j_iload C dL_changes_565 rfl ?_
  refine j_imulN C dL_changes_567 ?_
  refine j_iconst (v := (nI 1)) C dL_changes_568 (by decide) ?_
  refine j_iaddN C dL_changes_569 ?_
  refine j_ialdN C (by first | assumption | rfl) rfl rfl (by omega) dL_changes_570 ?_
  refine j_iload C dL_changes_571 rfl ?_
  refine j_icmp_lt (tgt := 607) C dL_changes_573 (by decide) (fun h573 => (by exact absurd h573 hlt)) (fun h573 => ?_)
  refine j_iload C dL_changes_576 rfl ?_
  refine j_bipush (v := (nI 7)) C dL_changes_578 (by decide) ?_
  refine j_aload C dL_changes_580 rfl ?_
  refine j_aload C dL_changes_582 rfl ?_
  refine j_aload C dL_changes_584 rfl ?_
  refine j_callS5r C (c_L_off7 h1 h12) qm_L_20 qt_L_off qn_L qc_L_off fit_L_off ⟨Nat.le_of_ble_eq_true rfl, Nat.le_of_ble_eq_true rfl, Nat.le_of_ble_eq_true rfl, Nat.le_of_ble_eq_true rfl⟩ (Nat.le_of_ble_eq_true rfl) dL_changes_586 ?_
  refine j_iload C dL_changes_589 rfl ?_
  refine j_iadd C dL_changes_591 ?_
  refine j_sipush (v := (nI 1000)) C dL_changes_592 (by decide) ?_
  refine j_icmp_gt (tgt := 607) C dL_changes_595 (by decide) (fun h595 => (by exact absurd h595 hgt)) (fun h595 => ?_)
  refine j_aload C dL_changes_598 rfl ?_
  refine j_iconst (v := (nI 1)) C dL_changes_600 (by decide) ?_
  refine j_ialdN C (by first | assumption | rfl) rfl rfl (by omega) dL_changes_601 ?_
  refine j_tope (y := nI ns) (by exact h1) ?_
  refine j_bipush (v := (nI 12)) C dL_changes_602 (by decide) ?_
  refine j_icmp_ne (tgt := 609) C dL_changes_604 (by decide) (fun h604 => ?_) (fun h604 => (by exact absurd ((nI_eq (by omega) (by omega)).mp h604) (by omega)))
  refine j_aload C dL_changes_609 rfl ?_
  refine j_iconst (v := (nI 1)) C dL_changes_611 (by decide) ?_
  refine j_ialdN C (by first | assumption | rfl) rfl rfl (by omega) dL_changes_612 ?_
  refine j_tope (y := nI ns) (by exact h1) ?_
  refine j_ist13 C dL_changes_613 (Nat.le_of_ble_eq_true rfl) rfl ?_
  refine j_aload C dL_changes_615 rfl ?_
  refine j_bipush (v := (nI 11)) C dL_changes_617 (by decide) ?_
  refine j_iload C dL_changes_619 rfl ?_
  refine j_iaddN C dL_changes_621 ?_
  refine j_ialdN C (by first | assumption | rfl) rfl rfl (by omega) dL_changes_622 ?_
  refine j_iload C dL_changes_623 rfl ?_
  refine j_callS2r C (c_L_part) qm_L_58 qt_L_part qn_L qc_L_part fit_L_part ⟨Nat.le_of_ble_eq_true rfl, Nat.le_of_ble_eq_true rfl, Nat.le_of_ble_eq_true rfl, Nat.le_of_ble_eq_true rfl⟩ (Nat.le_of_ble_eq_true rfl) dL_changes_625 ?_
  refine j_ist14 C dL_changes_628 (Nat.le_of_ble_eq_true rfl) rfl ?_
  refine j_aload C dL_changes_630 rfl ?_
  refine j_iconst (v := (nI 4)) C dL_changes_632 (by decide) ?_
  refine j_iload C dL_changes_633 rfl ?_
  refine j_imulN C dL_changes_635 ?_
  refine j_iload C dL_changes_636 rfl ?_
  refine j_iastN C (by first | assumption | rfl) rfl rfl (by omega) dL_changes_638 ?_
  refine j_aload C dL_changes_639 rfl ?_
  refine j_iconst (v := (nI 4)) C dL_changes_641 (by decide) ?_
  refine j_iload C dL_changes_642 rfl ?_
  refine j_imulN C dL_changes_644 ?_
  refine j_iconst (v := (nI 1)) C dL_changes_645 (by decide) ?_
  refine j_iaddN C dL_changes_646 ?_
  refine j_iload C dL_changes_647 rfl ?_
  refine j_iastN C (by first | assumption | rfl) rfl rfl (by omega) dL_changes_649 ?_
  refine j_aload C dL_changes_650 rfl ?_
  refine j_iconst (v := (nI 4)) C dL_changes_652 (by decide) ?_
  refine j_iload C dL_changes_653 rfl ?_
  refine j_imulN C dL_changes_655 ?_
  refine j_iconst (v := (nI 2)) C dL_changes_656 (by decide) ?_
  refine j_iaddN C dL_changes_657 ?_
  refine j_iload C dL_changes_658 rfl ?_
  refine j_iastN C (by first | assumption | rfl) rfl rfl (by omega) dL_changes_660 ?_
  refine j_aload C dL_changes_661 rfl ?_
  refine j_iconst (v := (nI 4)) C dL_changes_663 (by decide) ?_
  refine j_iload C dL_changes_664 rfl ?_
  refine j_imulN C dL_changes_666 ?_
  refine j_iconst (v := (nI 3)) C dL_changes_667 (by decide) ?_
  refine j_iaddN C dL_changes_668 ?_
  refine j_iload C dL_changes_669 rfl ?_
  refine j_iastN C (by first | assumption | rfl) rfl rfl (by omega) dL_changes_671 ?_
  refine j_aload C dL_changes_672 rfl ?_
  refine j_iload C dL_changes_674 rfl ?_
  refine j_aload C dL_changes_676 rfl ?_
  refine j_iconst (v := (nI 3)) C dL_changes_678 (by decide) ?_
  refine j_iload C dL_changes_679 rfl ?_
  refine j_imulN C dL_changes_681 ?_
  refine j_iconst (v := (nI 2)) C dL_changes_682 (by decide) ?_
  refine j_iaddN C dL_changes_683 ?_
  refine j_ialdN C (by first | assumption | rfl) rfl rfl (by omega) dL_changes_684 ?_
  refine j_iastN C (by first | assumption | rfl) rfl rfl (by omega) dL_changes_685 ?_
  refine j_aload C dL_changes_686 rfl ?_
  refine j_bipush (v := (nI 12)) C dL_changes_688 (by decide) ?_
  refine j_iload C dL_changes_690 rfl ?_
  refine j_iaddN C dL_changes_692 ?_
  refine j_iload C dL_changes_693 rfl ?_
  refine j_iload C dL_changes_695 rfl ?_
  refine j_aload C dL_changes_697 rfl ?_
  refine j_iload C dL_changes_699 rfl ?_
  refine j_ialdN C (by first | assumption | rfl) rfl rfl (by omega) dL_changes_701 ?_
  refine j_callS3r C (c_L_worth hmr hpn (by rw [mset_at, mset_ne (by omega), mset_ne (by omega), mset_ne (by omega), mset_ne (by omega)]; exact hz)) qm_L_40 qt_L_worth qn_L qc_L_worth fit_L_worth ⟨Nat.le_of_ble_eq_true rfl, Nat.le_of_ble_eq_true rfl, Nat.le_of_ble_eq_true rfl, Nat.le_of_ble_eq_true rfl⟩ (Nat.le_of_ble_eq_true rfl) dL_changes_702 ?_
  refine j_iastN C (by first | assumption | rfl) rfl rfl (by omega) dL_changes_705 ?_
  refine j_aload C dL_changes_706 rfl ?_
  refine j_bipush (v := (nI 11)) C dL_changes_708 (by decide) ?_
  refine j_iload C dL_changes_710 rfl ?_
  refine j_iaddN C dL_changes_712 ?_
  refine j_dup2 C dL_changes_713 rfl rfl ?_
  refine j_ialdN C (by first | assumption | rfl) rfl rfl (by omega) dL_changes_714 ?_
  refine j_iload C dL_changes_715 rfl ?_
  refine j_isub C dL_changes_717 ?_
  refine j_iastN C (by first | assumption | rfl) rfl rfl (by omega) dL_changes_718 ?_
  refine j_aload C dL_changes_719 rfl ?_
  refine j_bipush (v := (nI 27)) C dL_changes_721 (by decide) ?_
  refine j_iload C dL_changes_723 rfl ?_
  refine j_iaddN C dL_changes_725 ?_
  refine j_dup2 C dL_changes_726 rfl rfl ?_
  refine j_ialdN C (by first | assumption | rfl) rfl rfl (by omega) dL_changes_727 ?_
  refine j_aload C dL_changes_728 rfl ?_
  refine j_bipush (v := (nI 12)) C dL_changes_730 (by decide) ?_
  refine j_iload C dL_changes_732 rfl ?_
  refine j_iaddN C dL_changes_734 ?_
  refine j_ialdN C (by first | assumption | rfl) rfl rfl (by omega) dL_changes_735 ?_
  refine j_iload C dL_changes_736 rfl ?_
  refine j_isub C dL_changes_738 ?_
  refine j_iadd C dL_changes_739 ?_
  refine j_iastN C (by first | assumption | rfl) rfl rfl (by omega) dL_changes_740 ?_
  refine j_aload C dL_changes_741 rfl ?_
  refine j_iconst (v := (nI 1)) C dL_changes_743 (by decide) ?_
  refine j_dup2 C dL_changes_744 rfl rfl ?_
  refine j_ialdN C (by first | assumption | rfl) rfl rfl (by omega) dL_changes_745 ?_
  refine j_iconst (v := (nI 1)) C dL_changes_746 (by decide) ?_
  refine j_iadd C dL_changes_747 ?_
  refine j_iastN C (by first | assumption | rfl) rfl rfl (by omega) dL_changes_748 ?_
  refine j_mem (V' := lSubl k ns (nI t) (nI rc) (nI n) V) (L' := L) rfl rfl ?_
  refine j_aload_n C dL_changes_749 rfl rfl ?_
  refine j_iload C dL_changes_750 rfl ?_
  refine j_iload C dL_changes_752 rfl ?_
  refine j_iload C dL_changes_754 rfl ?_
  refine j_iload C dL_changes_756 rfl ?_
  refine j_callV4r C (oa_X6 (by first | assumption | rfl)) rfl rfl (hT) qm_L_68 qi_X6_sublet qs_X6_sublet qn_X6 qc_X6_sublet fit_X6_sublet ⟨Nat.le_of_ble_eq_true rfl, Nat.le_of_ble_eq_true rfl, Nat.le_of_ble_eq_true rfl, Nat.le_of_ble_eq_true rfl⟩ (Nat.le_of_ble_eq_true rfl) dL_changes_758 ?_
  refine j_iload C dL_changes_761 rfl ?_
  refine j_icmp_ne (tgt := 770) C dL_changes_763 (by decide) (fun h763 => (by exact absurd rfl h763)) (fun h763 => ?_)
  refine j_iconst (v := (nI 1)) C dL_changes_766 (by decide) ?_
  refine j_goto (tgt := 771) C dL_changes_767 (by decide) ?_
  exact j_zret C dL_changes_771 (by first | rfl | exact nar_b2i) (by rfl) (by rfl) (by rfl)
set_option maxHeartbeats 4000000 in
theorem c_L_act_full {l : Launch} {g : GC} {V : Mem} {L : LMem} {a : Nat} {X Y : Nat} (hX : X < 2 ^ 31) (hY : Y < 2 ^ 31) (ha : a < 3) (h0 : V 224 0 = nI 8) : MC l yL_act cL_act 12 (some .boolean) 8 g V L [.ref (ad g 223), .int (nI a), .int (nI X), .int (nI Y), .ref (ad g 224), .ref (ad g 225), .ref (ad g 226), .ref (ad g 227)] (some (.int (nI 1))) V L := by
  refine MC.of [some (.ref (ad g 223)), some (.int (nI a)), some (.int (nI X)), some (.int (nI Y)), some (.ref (ad g 224)), some (.ref (ad g 225)), some (.ref (ad g 226)), some (.ref (ad g 227)), none, none, none, none] (by decide +kernel) rfl (Nat.le_of_ble_eq_true rfl) (fun p e s m args below meth c C => ?_)
  refine j_iload_n C dL_act_0 rfl rfl ?_
  refine j_iconst (v := (nI 3)) C dL_act_1 (by decide) ?_
  refine j_icmp_ge (tgt := 142) C dL_act_2 (by decide) (fun h2 => (by exact absurd h2 (nI_ge (by omega) (by omega)))) (fun h2 => ?_)
  refine j_aload C dL_act_5 rfl ?_
  refine j_iconst (v := (nI 0)) C dL_act_7 (by decide) ?_
  refine j_ialdN C (by first | assumption | rfl) rfl rfl (by omega) dL_act_8 ?_
  refine j_tope (y := nI 8) (by exact h0) ?_
  refine j_bipush (v := (nI 8)) C dL_act_9 (by decide) ?_
  refine j_icmp_ne (tgt := 16) C dL_act_11 (by decide) (fun h11 => (by exact absurd rfl h11)) (fun h11 => ?_)
  refine j_iconst (v := (nI 1)) C dL_act_14 (by decide) ?_
  exact j_zret C dL_act_15 (by first | rfl | exact nar_b2i) (by rfl) (by rfl) (by rfl)
set_option maxHeartbeats 4000000 in
theorem c_L_act_open {l : Launch} {g : GC} {V : Mem} {L : LMem} {a : Nat} {X Y : Nat} (hX : X < 2 ^ 31) (hY : Y < 2 ^ 31) (ha : a < 3) {nl p1 n r c1 : Nat} (h0 : V 224 0 = nI nl) (h8 : nl < 8) (hp : atN Y (if atN X 4 = 0 then 100001 else 3000) = p1) (hn : 1 + atN (X / 8) (if atN Y 3 = 0 then 60 else 12) = n) (hr : atN (Y / 16) (if atN X 3 = 0 then 2001 else 300) = r) (hc : atN (X / 64) 2000 = c1) (hmp : money (nI p1)) (hpn : perR (nI n)) (hz : rateR (nI r)) {V2 : Mem} (hT : MC l yX6_open cX6_open 5 (some .int) 5 g (lAdd nl (nI p1) (nI n) (nI r) (nI c1) V) L [.ref (ad g 223), .int (nI p1), .int (nI n), .int (nI r), .int (nI c1)] (some (.int (nI nl))) V2 L) (he : V2 224 0 = nI (nl + 1)) : MC l yL_act cL_act 12 (some .boolean) 8 g V L [.ref (ad g 223), .int (nI a), .int (nI X), .int (nI Y), .ref (ad g 224), .ref (ad g 225), .ref (ad g 226), .ref (ad g 227)] (some (.int (nI 1))) V2 L := by
  refine MC.of [some (.ref (ad g 223)), some (.int (nI a)), some (.int (nI X)), some (.int (nI Y)), some (.ref (ad g 224)), some (.ref (ad g 225)), some (.ref (ad g 226)), some (.ref (ad g 227)), none, none, none, none] (by decide +kernel) rfl (Nat.le_of_ble_eq_true rfl) (fun p e s m args below meth c C => ?_)
  refine j_iload_n C dL_act_0 rfl rfl ?_
  refine j_iconst (v := (nI 3)) C dL_act_1 (by decide) ?_
  refine j_icmp_ge (tgt := 142) C dL_act_2 (by decide) (fun h2 => (by exact absurd h2 (nI_ge (by omega) (by omega)))) (fun h2 => ?_)
  refine j_aload C dL_act_5 rfl ?_
  refine j_iconst (v := (nI 0)) C dL_act_7 (by decide) ?_
  refine j_ialdN C (by first | assumption | rfl) rfl rfl (by omega) dL_act_8 ?_
  refine j_tope (y := nI nl) (by exact h0) ?_
  refine j_bipush (v := (nI 8)) C dL_act_9 (by decide) ?_
  refine j_icmp_ne (tgt := 16) C dL_act_11 (by decide) (fun h11 => ?_) (fun h11 => (by exact absurd ((nI_eq (by omega) (by omega)).mp h11) (by omega)))
  refine j_iload_n C dL_act_16 rfl rfl ?_
  refine j_iload_n C dL_act_17 rfl rfl ?_
  refine j_iconst (v := (nI 4)) C dL_act_18 (by decide) ?_
  refine j_callS2r C (c_L_at (by omega) (by omega) (by omega)) qm_L_44 qt_L_at qn_L qc_L_at fit_L_at ⟨Nat.le_of_ble_eq_true rfl, Nat.le_of_ble_eq_true rfl, Nat.le_of_ble_eq_true rfl, Nat.le_of_ble_eq_true rfl⟩ (Nat.le_of_ble_eq_true rfl) dL_act_19 ?_
  refine j_tern (a := nI 100001) (b := nI 3000) (tgt := 30) (join := 33) C dL_act_22 (by decide) (fun k => ?_) (fun k => ?_) ?_
  · refine j_ldc (v := nI 100001) C qk_L_54 dL_act_25 ?_
    refine j_goto (tgt := 33) C dL_act_27 (by decide) ?_
    exact k
  · refine j_sipush (v := (nI 3000)) C dL_act_30 (by decide) ?_
    exact k
  refine j_tope (y := nI (if atN X 4 = 0 then 100001 else 3000)) (by exact ternN (atN_lt (by omega))) ?_
  refine j_callS2r C (c_L_at (by omega) (ite_pos (by omega) (by omega)) (ite_lt (by omega) (by omega))) qm_L_44 qt_L_at qn_L qc_L_at fit_L_at ⟨Nat.le_of_ble_eq_true rfl, Nat.le_of_ble_eq_true rfl, Nat.le_of_ble_eq_true rfl, Nat.le_of_ble_eq_true rfl⟩ (Nat.le_of_ble_eq_true rfl) dL_act_33 ?_
  refine j_tope (y := nI p1) (by rw [hp]) ?_
  refine j_ist8 C dL_act_36 (Nat.le_of_ble_eq_true rfl) rfl ?_
  refine j_iconst (v := (nI 1)) C dL_act_38 (by decide) ?_
  refine j_iload_n C dL_act_39 rfl rfl ?_
  refine j_iconst (v := (nI 3)) C dL_act_40 (by decide) ?_
  refine j_ishr C dL_act_41 ?_
  refine j_tope (y := nI (X / 8)) (by exact shrN (by omega) 3 (by decide)) ?_
  refine j_iload_n C dL_act_42 rfl rfl ?_
  refine j_iconst (v := (nI 3)) C dL_act_43 (by decide) ?_
  refine j_callS2r C (c_L_at (by omega) (by omega) (by omega)) qm_L_44 qt_L_at qn_L qc_L_at fit_L_at ⟨Nat.le_of_ble_eq_true rfl, Nat.le_of_ble_eq_true rfl, Nat.le_of_ble_eq_true rfl, Nat.le_of_ble_eq_true rfl⟩ (Nat.le_of_ble_eq_true rfl) dL_act_44 ?_
  refine j_tern (a := nI 60) (b := nI 12) (tgt := 55) (join := 57) C dL_act_47 (by decide) (fun k => ?_) (fun k => ?_) ?_
  · refine j_bipush (v := (nI 60)) C dL_act_50 (by decide) ?_
    refine j_goto (tgt := 57) C dL_act_52 (by decide) ?_
    exact k
  · refine j_bipush (v := (nI 12)) C dL_act_55 (by decide) ?_
    exact k
  refine j_tope (y := nI (if atN Y 3 = 0 then 60 else 12)) (by exact ternN (atN_lt (by omega))) ?_
  refine j_callS2r C (c_L_at (by omega) (ite_pos (by omega) (by omega)) (ite_lt (by omega) (by omega))) qm_L_44 qt_L_at qn_L qc_L_at fit_L_at ⟨Nat.le_of_ble_eq_true rfl, Nat.le_of_ble_eq_true rfl, Nat.le_of_ble_eq_true rfl, Nat.le_of_ble_eq_true rfl⟩ (Nat.le_of_ble_eq_true rfl) dL_act_57 ?_
  refine j_iaddN C dL_act_60 ?_
  refine j_tope (y := nI n) (by rw [hn]) ?_
  refine j_ist9 C dL_act_61 (Nat.le_of_ble_eq_true rfl) rfl ?_
  refine j_iload_n C dL_act_63 rfl rfl ?_
  refine j_iconst (v := (nI 4)) C dL_act_64 (by decide) ?_
  refine j_ishr C dL_act_65 ?_
  refine j_tope (y := nI (Y / 16)) (by exact shrN (by omega) 4 (by decide)) ?_
  refine j_iload_n C dL_act_66 rfl rfl ?_
  refine j_iconst (v := (nI 3)) C dL_act_67 (by decide) ?_
  refine j_callS2r C (c_L_at (by omega) (by omega) (by omega)) qm_L_44 qt_L_at qn_L qc_L_at fit_L_at ⟨Nat.le_of_ble_eq_true rfl, Nat.le_of_ble_eq_true rfl, Nat.le_of_ble_eq_true rfl, Nat.le_of_ble_eq_true rfl⟩ (Nat.le_of_ble_eq_true rfl) dL_act_68 ?_
  refine j_tern (a := nI 2001) (b := nI 300) (tgt := 80) (join := 83) C dL_act_71 (by decide) (fun k => ?_) (fun k => ?_) ?_
  · refine j_sipush (v := (nI 2001)) C dL_act_74 (by decide) ?_
    refine j_goto (tgt := 83) C dL_act_77 (by decide) ?_
    exact k
  · refine j_sipush (v := (nI 300)) C dL_act_80 (by decide) ?_
    exact k
  refine j_tope (y := nI (if atN X 3 = 0 then 2001 else 300)) (by exact ternN (atN_lt (by omega))) ?_
  refine j_callS2r C (c_L_at (by omega) (ite_pos (by omega) (by omega)) (ite_lt (by omega) (by omega))) qm_L_44 qt_L_at qn_L qc_L_at fit_L_at ⟨Nat.le_of_ble_eq_true rfl, Nat.le_of_ble_eq_true rfl, Nat.le_of_ble_eq_true rfl, Nat.le_of_ble_eq_true rfl⟩ (Nat.le_of_ble_eq_true rfl) dL_act_83 ?_
  refine j_tope (y := nI r) (by rw [hr]) ?_
  refine j_ist10 C dL_act_86 (Nat.le_of_ble_eq_true rfl) rfl ?_
  refine j_iload_n C dL_act_88 rfl rfl ?_
  refine j_bipush (v := (nI 6)) C dL_act_89 (by decide) ?_
  refine j_ishr C dL_act_91 ?_
  refine j_tope (y := nI (X / 64)) (by exact shrN (by omega) 6 (by decide)) ?_
  refine j_sipush (v := (nI 2000)) C dL_act_92 (by decide) ?_
  refine j_callS2r C (c_L_at (by omega) (by omega) (by omega)) qm_L_44 qt_L_at qn_L qc_L_at fit_L_at ⟨Nat.le_of_ble_eq_true rfl, Nat.le_of_ble_eq_true rfl, Nat.le_of_ble_eq_true rfl, Nat.le_of_ble_eq_true rfl⟩ (Nat.le_of_ble_eq_true rfl) dL_act_95 ?_
  refine j_tope (y := nI c1) (by rw [hc]) ?_
  refine j_ist11 C dL_act_98 (Nat.le_of_ble_eq_true rfl) rfl ?_
  refine j_iload C dL_act_100 rfl ?_
  refine j_iload C dL_act_102 rfl ?_
  refine j_iload C dL_act_104 rfl ?_
  refine j_iload C dL_act_106 rfl ?_
  refine j_aload C dL_act_108 rfl ?_
  refine j_aload C dL_act_110 rfl ?_
  refine j_callS6v C (c_L_add h8 h0 hmp hpn hz) qm_L_72 qt_L_add qn_L qc_L_add fit_L_add ⟨Nat.le_of_ble_eq_true rfl, Nat.le_of_ble_eq_true rfl, Nat.le_of_ble_eq_true rfl, Nat.le_of_ble_eq_true rfl⟩ (Nat.le_of_ble_eq_true rfl) dL_act_112 ?_
  refine j_aload_n C dL_act_115 rfl rfl ?_
  refine j_iload C dL_act_116 rfl ?_
  refine j_iload C dL_act_118 rfl ?_
  refine j_iload C dL_act_120 rfl ?_
  refine j_iload C dL_act_122 rfl ?_
  refine j_callV4r C (oa_X6 (by first | assumption | rfl)) rfl rfl (hT) qm_L_76 qi_X6_open qs_X6_open qn_X6 qc_X6_open fit_X6_open ⟨Nat.le_of_ble_eq_true rfl, Nat.le_of_ble_eq_true rfl, Nat.le_of_ble_eq_true rfl, Nat.le_of_ble_eq_true rfl⟩ (Nat.le_of_ble_eq_true rfl) dL_act_124 ?_
  refine j_aload C dL_act_127 rfl ?_
  refine j_iconst (v := (nI 0)) C dL_act_129 (by decide) ?_
  refine j_ialdN C (by first | assumption | rfl) rfl rfl (by omega) dL_act_130 ?_
  refine j_tope (y := nI (nl + 1)) (by exact he) ?_
  refine j_iconst (v := (nI 1)) C dL_act_131 (by decide) ?_
  refine j_isub C dL_act_132 ?_
  refine j_tope (y := nI nl) (by exact pk_sub (by omega)) ?_
  refine j_icmp_ne (tgt := 140) C dL_act_133 (by decide) (fun h133 => (by exact absurd rfl h133)) (fun h133 => ?_)
  refine j_iconst (v := (nI 1)) C dL_act_136 (by decide) ?_
  refine j_goto (tgt := 141) C dL_act_137 (by decide) ?_
  exact j_zret C dL_act_141 (by first | rfl | exact nar_b2i) (by rfl) (by rfl) (by rfl)
set_option maxHeartbeats 4000000 in
theorem lp_L_actP {p : Program} {l : Launch} {e : Env} {s : State} {m : MethodId} {args : Array Value} {below : List Frame} {meth : Method} {c : Code} {g : GC} {Q : State → Prop} {V : Mem} {L : LMem} {a X Y d j0 nl ns : Nat} (C : Cx p s args m meth c cL_act 12 yL_act.cls (some .boolean) g) (h8 : nl ≤ 8) (h12 : ns ≤ 12) (hO : ∀ i, i ≤ nl → lPAll ns V i 224 0 = nI nl ∧ lPAll ns V i 224 1 = nI ns ∧ Sok ns (lPAll ns V i) ∧ Lok nl (lPAll ns V i)) (kx : J p l e (RM 8) s m args below meth c 12 g 0 0 Q (lPAll ns V (nl)) L 211 [some (.ref (ad g 223)), some (.int (nI a)), some (.int (nI X)), some (.int (nI Y)), some (.ref (ad g 224)), some (.ref (ad g 225)), some (.ref (ad g 226)), some (.ref (ad g 227)), some (.int (nI d)), some (.int (nI j0)), some (.int (nI (nl))), none] []) : ∀ j i : Nat, i + j = nl → J p l e (RM 8) s m args below meth c 12 g 0 0 Q (lPAll ns V i) L 183 [some (.ref (ad g 223)), some (.int (nI a)), some (.int (nI X)), some (.int (nI Y)), some (.ref (ad g 224)), some (.ref (ad g 225)), some (.ref (ad g 226)), some (.ref (ad g 227)), some (.int (nI d)), some (.int (nI j0)), some (.int (nI i)), none] [] := by
  intro j
  induction j with
  | zero =>
    intro i hi
    have hi : nl = i := by omega
    subst hi
    refine j_iload C dL_act_183 rfl ?_
    refine j_aload C dL_act_185 rfl ?_
    refine j_iconst (v := (nI 0)) C dL_act_187 (by decide) ?_
    refine j_ialdN C (by first | assumption | rfl) rfl rfl (by omega) dL_act_188 ?_
    refine j_tope (y := nI nl) (by exact (hO _ (by omega)).1) ?_
    refine j_icmp_ge (tgt := 211) C dL_act_189 (by decide) (fun h189 => ?_) (fun h189 => absurd (nI_le (by omega) (by omega)) h189)
    exact kx
  | succ j ih =>
    intro i hi
    have hi := hO i (by omega)
    refine j_iload C dL_act_183 rfl ?_
    refine j_aload C dL_act_185 rfl ?_
    refine j_iconst (v := (nI 0)) C dL_act_187 (by decide) ?_
    refine j_ialdN C (by first | assumption | rfl) rfl rfl (by omega) dL_act_188 ?_
    refine j_tope (y := nI nl) (by exact (hO _ (by omega)).1) ?_
    refine j_icmp_ge (tgt := 211) C dL_act_189 (by decide) (fun h189 => absurd h189 (nI_ge (by omega) (by omega))) (fun h189 => ?_)
    refine j_iload C dL_act_192 rfl ?_
    refine j_aload C dL_act_194 rfl ?_
    refine j_aload C dL_act_196 rfl ?_
    refine j_aload C dL_act_198 rfl ?_
    refine j_aload C dL_act_200 rfl ?_
    refine j_callS5v C (c_L_pass (by omega) hi.2.1 h12 hi.2.2.1 (hi.2.2.2 i (by omega))) qm_L_79 qt_L_pass qn_L qc_L_pass fit_L_pass ⟨Nat.le_of_ble_eq_true rfl, Nat.le_of_ble_eq_true rfl, Nat.le_of_ble_eq_true rfl, Nat.le_of_ble_eq_true rfl⟩ (Nat.le_of_ble_eq_true rfl) dL_act_202 ?_
    refine j_incN10 (q := 1) C dL_act_205 (by decide) (Nat.le_of_ble_eq_true rfl) rfl ?_
    refine j_goto (tgt := 183) C dL_act_208 (by decide) ?_
    refine j_mem (V' := (lPAll ns V (i + 1))) (L' := L) (by rfl) rfl ?_
    exact j_dr (lv' := [some (.ref (ad g 223)), some (.int (nI a)), some (.int (nI X)), some (.int (nI Y)), some (.ref (ad g 224)), some (.ref (ad g 225)), some (.ref (ad g 226)), some (.ref (ad g 227)), some (.int (nI d)), some (.int (nI j0)), some (.int (nI (i + 1))), none]) (And.intro rfl (And.intro rfl (And.intro rfl (And.intro rfl (And.intro rfl (And.intro rfl (And.intro rfl (And.intro rfl (And.intro rfl (And.intro rfl (And.intro rfl True.intro))))))))))) (ih (i + 1) (by omega))
set_option maxHeartbeats 4000000 in
theorem lp_L_actQ {p : Program} {l : Launch} {e : Env} {s : State} {m : MethodId} {args : Array Value} {below : List Frame} {meth : Method} {c : Code} {g : GC} {Q : State → Prop} {V : Mem} {L : LMem} {a X Y d nl ns : Nat} (C : Cx p s args m meth c cL_act 12 yL_act.cls (some .boolean) g) (hd : d ≤ 60) (h8 : nl ≤ 8) (h12 : ns ≤ 12) (hO : ∀ j, j ≤ d → ∀ i, i ≤ nl → lPAll ns (lPass nl ns V j) i 224 0 = nI nl ∧ lPAll ns (lPass nl ns V j) i 224 1 = nI ns ∧ Sok ns (lPAll ns (lPass nl ns V j) i) ∧ Lok nl (lPAll ns (lPass nl ns V j) i)) (kx : J p l e (RM 8) s m args below meth c 12 g 0 0 Q (lPass nl ns V (d)) L 217 [some (.ref (ad g 223)), some (.int (nI a)), some (.int (nI X)), some (.int (nI Y)), some (.ref (ad g 224)), some (.ref (ad g 225)), some (.ref (ad g 226)), some (.ref (ad g 227)), some (.int (nI d)), some (.int (nI (d))), none, none] []) : ∀ j i : Nat, i + j = d → J p l e (RM 8) s m args below meth c 12 g 0 0 Q (lPass nl ns V i) L 173 [some (.ref (ad g 223)), some (.int (nI a)), some (.int (nI X)), some (.int (nI Y)), some (.ref (ad g 224)), some (.ref (ad g 225)), some (.ref (ad g 226)), some (.ref (ad g 227)), some (.int (nI d)), some (.int (nI i)), none, none] [] := by
  intro j
  induction j with
  | zero =>
    intro i hi
    have hi : d = i := by omega
    subst hi
    refine j_iload C dL_act_173 rfl ?_
    refine j_iload C dL_act_175 rfl ?_
    refine j_icmp_ge (tgt := 217) C dL_act_177 (by decide) (fun h177 => ?_) (fun h177 => absurd (nI_le (by omega) (by omega)) h177)
    exact kx
  | succ j ih =>
    intro i hi
    refine j_iload C dL_act_173 rfl ?_
    refine j_iload C dL_act_175 rfl ?_
    refine j_icmp_ge (tgt := 217) C dL_act_177 (by decide) (fun h177 => absurd h177 (nI_ge (by omega) (by omega))) (fun h177 => ?_)
    refine j_iconst (v := (nI 0)) C dL_act_180 (by decide) ?_
    refine j_ist10 C dL_act_181 (Nat.le_of_ble_eq_true rfl) rfl ?_
    refine lp_L_actP (V := lPass nl ns V i) (j0 := i) C h8 h12 (hO i (by omega)) ?_ nl 0 (by omega)
    refine j_incN9 (q := 1) C dL_act_211 (by decide) (Nat.le_of_ble_eq_true rfl) rfl ?_
    refine j_goto (tgt := 173) C dL_act_214 (by decide) ?_
    refine j_mem (V' := (lPass nl ns V (i + 1))) (L' := L) (by rfl) rfl ?_
    exact j_dr (lv' := [some (.ref (ad g 223)), some (.int (nI a)), some (.int (nI X)), some (.int (nI Y)), some (.ref (ad g 224)), some (.ref (ad g 225)), some (.ref (ad g 226)), some (.ref (ad g 227)), some (.int (nI d)), some (.int (nI (i + 1))), none, none]) (And.intro rfl (And.intro rfl (And.intro rfl (And.intro rfl (And.intro rfl (And.intro rfl (And.intro rfl (And.intro rfl (And.intro rfl (And.intro rfl True.intro)))))))))) (ih (i + 1) (by omega))
set_option maxHeartbeats 4000000 in
theorem c_L_act_pass {l : Launch} {g : GC} {V : Mem} {L : LMem} {a : Nat} {X Y : Nat} (hX : X < 2 ^ 31) (hY : Y < 2 ^ 31) (ha : 3 ≤ a) (ha7 : a < 7) {nl ns d : Nat} (h8 : nl ≤ 8) (h12 : ns ≤ 12) (hd : 1 + atN Y (if atN X 4 = 0 then 20 else 3) = d) (hd6 : d ≤ 60) (hO : ∀ j, j ≤ d → ∀ i, i ≤ nl → lPAll ns (lPass nl ns V j) i 224 0 = nI nl ∧ lPAll ns (lPass nl ns V j) i 224 1 = nI ns ∧ Sok ns (lPAll ns (lPass nl ns V j) i) ∧ Lok nl (lPAll ns (lPass nl ns V j) i)) {z : Int32} {V2 : Mem} (hT : MC l yX6_pass cX6_pass 2 (some .int) 5 g (mset (lPass nl ns V d) 224 2 (lPass nl ns V d 224 2 + nI d)) L [.ref (ad g 223), .int (nI d)] (some (.int z)) V2 L) (he : V2 224 2 = z) : MC l yL_act cL_act 12 (some .boolean) 8 g V L [.ref (ad g 223), .int (nI a), .int (nI X), .int (nI Y), .ref (ad g 224), .ref (ad g 225), .ref (ad g 226), .ref (ad g 227)] (some (.int (nI 1))) V2 L := by
  refine MC.of [some (.ref (ad g 223)), some (.int (nI a)), some (.int (nI X)), some (.int (nI Y)), some (.ref (ad g 224)), some (.ref (ad g 225)), some (.ref (ad g 226)), some (.ref (ad g 227)), none, none, none, none] (by decide +kernel) rfl (Nat.le_of_ble_eq_true rfl) (fun p e s m args below meth c C => ?_)
  refine j_iload_n C dL_act_0 rfl rfl ?_
  refine j_iconst (v := (nI 3)) C dL_act_1 (by decide) ?_
  refine j_icmp_ge (tgt := 142) C dL_act_2 (by decide) (fun h2 => ?_) (fun h2 => (by exact absurd (nI_le (by omega) (by omega)) h2))
  refine j_iload_n C dL_act_142 rfl rfl ?_
  refine j_bipush (v := (nI 7)) C dL_act_143 (by decide) ?_
  refine j_icmp_ge (tgt := 245) C dL_act_145 (by decide) (fun h145 => (by exact absurd h145 (nI_ge (by omega) (by omega)))) (fun h145 => ?_)
  refine j_iconst (v := (nI 1)) C dL_act_148 (by decide) ?_
  refine j_iload_n C dL_act_149 rfl rfl ?_
  refine j_iload_n C dL_act_150 rfl rfl ?_
  refine j_iconst (v := (nI 4)) C dL_act_151 (by decide) ?_
  refine j_callS2r C (c_L_at (by omega) (by omega) (by omega)) qm_L_44 qt_L_at qn_L qc_L_at fit_L_at ⟨Nat.le_of_ble_eq_true rfl, Nat.le_of_ble_eq_true rfl, Nat.le_of_ble_eq_true rfl, Nat.le_of_ble_eq_true rfl⟩ (Nat.le_of_ble_eq_true rfl) dL_act_152 ?_
  refine j_tern (a := nI 20) (b := nI 3) (tgt := 163) (join := 164) C dL_act_155 (by decide) (fun k => ?_) (fun k => ?_) ?_
  · refine j_bipush (v := (nI 20)) C dL_act_158 (by decide) ?_
    refine j_goto (tgt := 164) C dL_act_160 (by decide) ?_
    exact k
  · refine j_iconst (v := (nI 3)) C dL_act_163 (by decide) ?_
    exact k
  refine j_tope (y := nI (if atN X 4 = 0 then 20 else 3)) (by exact ternN (atN_lt (by omega))) ?_
  refine j_callS2r C (c_L_at (by omega) (ite_pos (by omega) (by omega)) (ite_lt (by omega) (by omega))) qm_L_44 qt_L_at qn_L qc_L_at fit_L_at ⟨Nat.le_of_ble_eq_true rfl, Nat.le_of_ble_eq_true rfl, Nat.le_of_ble_eq_true rfl, Nat.le_of_ble_eq_true rfl⟩ (Nat.le_of_ble_eq_true rfl) dL_act_164 ?_
  refine j_iaddN C dL_act_167 ?_
  refine j_tope (y := nI d) (by rw [hd]) ?_
  refine j_ist8 C dL_act_168 (Nat.le_of_ble_eq_true rfl) rfl ?_
  refine j_iconst (v := (nI 0)) C dL_act_170 (by decide) ?_
  refine j_ist9 C dL_act_171 (Nat.le_of_ble_eq_true rfl) rfl ?_
  refine lp_L_actQ (V := V) C hd6 h8 h12 hO ?_ d 0 (by omega)
  refine j_aload C dL_act_217 rfl ?_
  refine j_iconst (v := (nI 2)) C dL_act_219 (by decide) ?_
  refine j_dup2 C dL_act_220 rfl rfl ?_
  refine j_ialdN C (by first | assumption | rfl) rfl rfl (by omega) dL_act_221 ?_
  refine j_iload C dL_act_222 rfl ?_
  refine j_iadd C dL_act_224 ?_
  refine j_iastN C (by first | assumption | rfl) rfl rfl (by omega) dL_act_225 ?_
  refine j_aload_n C dL_act_226 rfl rfl ?_
  refine j_iload C dL_act_227 rfl ?_
  refine j_callV1r C (oa_X6 (by first | assumption | rfl)) rfl rfl (hT) qm_L_83 qi_X6_pass qs_X6_pass qn_X6 qc_X6_pass fit_X6_pass ⟨Nat.le_of_ble_eq_true rfl, Nat.le_of_ble_eq_true rfl, Nat.le_of_ble_eq_true rfl, Nat.le_of_ble_eq_true rfl⟩ (Nat.le_of_ble_eq_true rfl) dL_act_229 ?_
  refine j_aload C dL_act_232 rfl ?_
  refine j_iconst (v := (nI 2)) C dL_act_234 (by decide) ?_
  refine j_ialdN C (by first | assumption | rfl) rfl rfl (by omega) dL_act_235 ?_
  refine j_tope (y := z) (by exact he) ?_
  refine j_icmp_ne (tgt := 243) C dL_act_236 (by decide) (fun h236 => (by exact absurd rfl h236)) (fun h236 => ?_)
  refine j_iconst (v := (nI 1)) C dL_act_239 (by decide) ?_
  refine j_goto (tgt := 244) C dL_act_240 (by decide) ?_
  exact j_zret C dL_act_244 (by first | rfl | exact nar_b2i) (by rfl) (by rfl) (by rfl)
set_option maxHeartbeats 4000000 in
theorem c_L_act_ch0 {l : Launch} {g : GC} {V : Mem} {L : LMem} {a : Nat} {X Y : Nat} (hX : X < 2 ^ 31) (hY : Y < 2 ^ 31) (ha : 7 ≤ a) (hb : a < 9) {V2 : Mem} (hM : MC l yL_changes cL_changes 15 (some .boolean) 6 g V L [.ref (ad g 223), .int (nI 0), .int (nI X), .int (nI Y), .ref (ad g 224), .ref (ad g 225), .ref (ad g 226), .ref (ad g 227)] (some (.int (nI 1))) V2 L) : MC l yL_act cL_act 12 (some .boolean) 8 g V L [.ref (ad g 223), .int (nI a), .int (nI X), .int (nI Y), .ref (ad g 224), .ref (ad g 225), .ref (ad g 226), .ref (ad g 227)] (some (.int (nI 1))) V2 L := by
  refine MC.of [some (.ref (ad g 223)), some (.int (nI a)), some (.int (nI X)), some (.int (nI Y)), some (.ref (ad g 224)), some (.ref (ad g 225)), some (.ref (ad g 226)), some (.ref (ad g 227)), none, none, none, none] (by decide +kernel) rfl (Nat.le_of_ble_eq_true rfl) (fun p e s m args below meth c C => ?_)
  refine j_iload_n C dL_act_0 rfl rfl ?_
  refine j_iconst (v := (nI 3)) C dL_act_1 (by decide) ?_
  refine j_icmp_ge (tgt := 142) C dL_act_2 (by decide) (fun h2 => ?_) (fun h2 => (by exact absurd (nI_le (by omega) (by omega)) h2))
  refine j_iload_n C dL_act_142 rfl rfl ?_
  refine j_bipush (v := (nI 7)) C dL_act_143 (by decide) ?_
  refine j_icmp_ge (tgt := 245) C dL_act_145 (by decide) (fun h145 => ?_) (fun h145 => (by exact absurd (nI_le (by omega) (by omega)) h145))
  refine j_aload_n C dL_act_245 rfl rfl ?_
  refine j_iload_n C dL_act_246 rfl rfl ?_
  refine j_bipush (v := (nI 9)) C dL_act_247 (by decide) ?_
  refine j_icmp_ge (tgt := 256) C dL_act_249 (by decide) (fun h249 => (by exact absurd h249 (nI_ge (by omega) (by omega)))) (fun h249 => ?_)
  refine j_iconst (v := (nI 0)) C dL_act_252 (by decide) ?_
  refine j_goto (tgt := 287) C dL_act_253 (by decide) ?_
  refine j_iload_n C dL_act_287 rfl rfl ?_
  refine j_iload_n C dL_act_288 rfl rfl ?_
  refine j_aload C dL_act_289 rfl ?_
  refine j_aload C dL_act_291 rfl ?_
  refine j_aload C dL_act_293 rfl ?_
  refine j_aload C dL_act_295 rfl ?_
  refine j_callS8r C (hM) qm_L_85 qt_L_changes qn_L qc_L_changes fit_L_changes ⟨Nat.le_of_ble_eq_true rfl, Nat.le_of_ble_eq_true rfl, Nat.le_of_ble_eq_true rfl, Nat.le_of_ble_eq_true rfl⟩ (Nat.le_of_ble_eq_true rfl) dL_act_297 ?_
  exact j_zret C dL_act_300 (by first | rfl | exact nar_b2i) (by rfl) (by rfl) (by rfl)
set_option maxHeartbeats 4000000 in
theorem c_L_act_ch1 {l : Launch} {g : GC} {V : Mem} {L : LMem} {a : Nat} {X Y : Nat} (hX : X < 2 ^ 31) (hY : Y < 2 ^ 31) (ha : 9 ≤ a) (hb : a < 11) {V2 : Mem} (hM : MC l yL_changes cL_changes 15 (some .boolean) 6 g V L [.ref (ad g 223), .int (nI 1), .int (nI X), .int (nI Y), .ref (ad g 224), .ref (ad g 225), .ref (ad g 226), .ref (ad g 227)] (some (.int (nI 1))) V2 L) : MC l yL_act cL_act 12 (some .boolean) 8 g V L [.ref (ad g 223), .int (nI a), .int (nI X), .int (nI Y), .ref (ad g 224), .ref (ad g 225), .ref (ad g 226), .ref (ad g 227)] (some (.int (nI 1))) V2 L := by
  refine MC.of [some (.ref (ad g 223)), some (.int (nI a)), some (.int (nI X)), some (.int (nI Y)), some (.ref (ad g 224)), some (.ref (ad g 225)), some (.ref (ad g 226)), some (.ref (ad g 227)), none, none, none, none] (by decide +kernel) rfl (Nat.le_of_ble_eq_true rfl) (fun p e s m args below meth c C => ?_)
  refine j_iload_n C dL_act_0 rfl rfl ?_
  refine j_iconst (v := (nI 3)) C dL_act_1 (by decide) ?_
  refine j_icmp_ge (tgt := 142) C dL_act_2 (by decide) (fun h2 => ?_) (fun h2 => (by exact absurd (nI_le (by omega) (by omega)) h2))
  refine j_iload_n C dL_act_142 rfl rfl ?_
  refine j_bipush (v := (nI 7)) C dL_act_143 (by decide) ?_
  refine j_icmp_ge (tgt := 245) C dL_act_145 (by decide) (fun h145 => ?_) (fun h145 => (by exact absurd (nI_le (by omega) (by omega)) h145))
  refine j_aload_n C dL_act_245 rfl rfl ?_
  refine j_iload_n C dL_act_246 rfl rfl ?_
  refine j_bipush (v := (nI 9)) C dL_act_247 (by decide) ?_
  refine j_icmp_ge (tgt := 256) C dL_act_249 (by decide) (fun h249 => ?_) (fun h249 => (by exact absurd (nI_le (by omega) (by omega)) h249))
  refine j_iload_n C dL_act_256 rfl rfl ?_
  refine j_bipush (v := (nI 11)) C dL_act_257 (by decide) ?_
  refine j_icmp_ge (tgt := 266) C dL_act_259 (by decide) (fun h259 => (by exact absurd h259 (nI_ge (by omega) (by omega)))) (fun h259 => ?_)
  refine j_iconst (v := (nI 1)) C dL_act_262 (by decide) ?_
  refine j_goto (tgt := 287) C dL_act_263 (by decide) ?_
  refine j_iload_n C dL_act_287 rfl rfl ?_
  refine j_iload_n C dL_act_288 rfl rfl ?_
  refine j_aload C dL_act_289 rfl ?_
  refine j_aload C dL_act_291 rfl ?_
  refine j_aload C dL_act_293 rfl ?_
  refine j_aload C dL_act_295 rfl ?_
  refine j_callS8r C (hM) qm_L_85 qt_L_changes qn_L qc_L_changes fit_L_changes ⟨Nat.le_of_ble_eq_true rfl, Nat.le_of_ble_eq_true rfl, Nat.le_of_ble_eq_true rfl, Nat.le_of_ble_eq_true rfl⟩ (Nat.le_of_ble_eq_true rfl) dL_act_297 ?_
  exact j_zret C dL_act_300 (by first | rfl | exact nar_b2i) (by rfl) (by rfl) (by rfl)
set_option maxHeartbeats 4000000 in
theorem c_L_act_ch2 {l : Launch} {g : GC} {V : Mem} {L : LMem} {a : Nat} {X Y : Nat} (hX : X < 2 ^ 31) (hY : Y < 2 ^ 31) (ha : a = 11) {V2 : Mem} (hM : MC l yL_changes cL_changes 15 (some .boolean) 6 g V L [.ref (ad g 223), .int (nI 2), .int (nI X), .int (nI Y), .ref (ad g 224), .ref (ad g 225), .ref (ad g 226), .ref (ad g 227)] (some (.int (nI 1))) V2 L) : MC l yL_act cL_act 12 (some .boolean) 8 g V L [.ref (ad g 223), .int (nI a), .int (nI X), .int (nI Y), .ref (ad g 224), .ref (ad g 225), .ref (ad g 226), .ref (ad g 227)] (some (.int (nI 1))) V2 L := by
  refine MC.of [some (.ref (ad g 223)), some (.int (nI a)), some (.int (nI X)), some (.int (nI Y)), some (.ref (ad g 224)), some (.ref (ad g 225)), some (.ref (ad g 226)), some (.ref (ad g 227)), none, none, none, none] (by decide +kernel) rfl (Nat.le_of_ble_eq_true rfl) (fun p e s m args below meth c C => ?_)
  refine j_iload_n C dL_act_0 rfl rfl ?_
  refine j_iconst (v := (nI 3)) C dL_act_1 (by decide) ?_
  refine j_icmp_ge (tgt := 142) C dL_act_2 (by decide) (fun h2 => ?_) (fun h2 => (by exact absurd (nI_le (by omega) (by omega)) h2))
  refine j_iload_n C dL_act_142 rfl rfl ?_
  refine j_bipush (v := (nI 7)) C dL_act_143 (by decide) ?_
  refine j_icmp_ge (tgt := 245) C dL_act_145 (by decide) (fun h145 => ?_) (fun h145 => (by exact absurd (nI_le (by omega) (by omega)) h145))
  refine j_aload_n C dL_act_245 rfl rfl ?_
  refine j_iload_n C dL_act_246 rfl rfl ?_
  refine j_bipush (v := (nI 9)) C dL_act_247 (by decide) ?_
  refine j_icmp_ge (tgt := 256) C dL_act_249 (by decide) (fun h249 => ?_) (fun h249 => (by exact absurd (nI_le (by omega) (by omega)) h249))
  refine j_iload_n C dL_act_256 rfl rfl ?_
  refine j_bipush (v := (nI 11)) C dL_act_257 (by decide) ?_
  refine j_icmp_ge (tgt := 266) C dL_act_259 (by decide) (fun h259 => ?_) (fun h259 => (by exact absurd (nI_le (by omega) (by omega)) h259))
  refine j_iload_n C dL_act_266 rfl rfl ?_
  refine j_bipush (v := (nI 11)) C dL_act_267 (by decide) ?_
  refine j_icmp_ne (tgt := 276) C dL_act_269 (by decide) (fun h269 => (by exact absurd (by congr 1) h269)) (fun h269 => ?_)
  refine j_iconst (v := (nI 2)) C dL_act_272 (by decide) ?_
  refine j_goto (tgt := 287) C dL_act_273 (by decide) ?_
  refine j_iload_n C dL_act_287 rfl rfl ?_
  refine j_iload_n C dL_act_288 rfl rfl ?_
  refine j_aload C dL_act_289 rfl ?_
  refine j_aload C dL_act_291 rfl ?_
  refine j_aload C dL_act_293 rfl ?_
  refine j_aload C dL_act_295 rfl ?_
  refine j_callS8r C (hM) qm_L_85 qt_L_changes qn_L qc_L_changes fit_L_changes ⟨Nat.le_of_ble_eq_true rfl, Nat.le_of_ble_eq_true rfl, Nat.le_of_ble_eq_true rfl, Nat.le_of_ble_eq_true rfl⟩ (Nat.le_of_ble_eq_true rfl) dL_act_297 ?_
  exact j_zret C dL_act_300 (by first | rfl | exact nar_b2i) (by rfl) (by rfl) (by rfl)
set_option maxHeartbeats 4000000 in
theorem c_L_act_ch3 {l : Launch} {g : GC} {V : Mem} {L : LMem} {a : Nat} {X Y : Nat} (hX : X < 2 ^ 31) (hY : Y < 2 ^ 31) (ha : a = 12) {V2 : Mem} (hM : MC l yL_changes cL_changes 15 (some .boolean) 6 g V L [.ref (ad g 223), .int (nI 3), .int (nI X), .int (nI Y), .ref (ad g 224), .ref (ad g 225), .ref (ad g 226), .ref (ad g 227)] (some (.int (nI 1))) V2 L) : MC l yL_act cL_act 12 (some .boolean) 8 g V L [.ref (ad g 223), .int (nI a), .int (nI X), .int (nI Y), .ref (ad g 224), .ref (ad g 225), .ref (ad g 226), .ref (ad g 227)] (some (.int (nI 1))) V2 L := by
  refine MC.of [some (.ref (ad g 223)), some (.int (nI a)), some (.int (nI X)), some (.int (nI Y)), some (.ref (ad g 224)), some (.ref (ad g 225)), some (.ref (ad g 226)), some (.ref (ad g 227)), none, none, none, none] (by decide +kernel) rfl (Nat.le_of_ble_eq_true rfl) (fun p e s m args below meth c C => ?_)
  refine j_iload_n C dL_act_0 rfl rfl ?_
  refine j_iconst (v := (nI 3)) C dL_act_1 (by decide) ?_
  refine j_icmp_ge (tgt := 142) C dL_act_2 (by decide) (fun h2 => ?_) (fun h2 => (by exact absurd (nI_le (by omega) (by omega)) h2))
  refine j_iload_n C dL_act_142 rfl rfl ?_
  refine j_bipush (v := (nI 7)) C dL_act_143 (by decide) ?_
  refine j_icmp_ge (tgt := 245) C dL_act_145 (by decide) (fun h145 => ?_) (fun h145 => (by exact absurd (nI_le (by omega) (by omega)) h145))
  refine j_aload_n C dL_act_245 rfl rfl ?_
  refine j_iload_n C dL_act_246 rfl rfl ?_
  refine j_bipush (v := (nI 9)) C dL_act_247 (by decide) ?_
  refine j_icmp_ge (tgt := 256) C dL_act_249 (by decide) (fun h249 => ?_) (fun h249 => (by exact absurd (nI_le (by omega) (by omega)) h249))
  refine j_iload_n C dL_act_256 rfl rfl ?_
  refine j_bipush (v := (nI 11)) C dL_act_257 (by decide) ?_
  refine j_icmp_ge (tgt := 266) C dL_act_259 (by decide) (fun h259 => ?_) (fun h259 => (by exact absurd (nI_le (by omega) (by omega)) h259))
  refine j_iload_n C dL_act_266 rfl rfl ?_
  refine j_bipush (v := (nI 11)) C dL_act_267 (by decide) ?_
  refine j_icmp_ne (tgt := 276) C dL_act_269 (by decide) (fun h269 => ?_) (fun h269 => (by exact absurd ((nI_eq (by omega) (by omega)).mp h269) (by omega)))
  refine j_iload_n C dL_act_276 rfl rfl ?_
  refine j_bipush (v := (nI 12)) C dL_act_277 (by decide) ?_
  refine j_icmp_ne (tgt := 286) C dL_act_279 (by decide) (fun h279 => (by exact absurd (by congr 1) h279)) (fun h279 => ?_)
  refine j_iconst (v := (nI 3)) C dL_act_282 (by decide) ?_
  refine j_goto (tgt := 287) C dL_act_283 (by decide) ?_
  refine j_iload_n C dL_act_287 rfl rfl ?_
  refine j_iload_n C dL_act_288 rfl rfl ?_
  refine j_aload C dL_act_289 rfl ?_
  refine j_aload C dL_act_291 rfl ?_
  refine j_aload C dL_act_293 rfl ?_
  refine j_aload C dL_act_295 rfl ?_
  refine j_callS8r C (hM) qm_L_85 qt_L_changes qn_L qc_L_changes fit_L_changes ⟨Nat.le_of_ble_eq_true rfl, Nat.le_of_ble_eq_true rfl, Nat.le_of_ble_eq_true rfl, Nat.le_of_ble_eq_true rfl⟩ (Nat.le_of_ble_eq_true rfl) dL_act_297 ?_
  exact j_zret C dL_act_300 (by first | rfl | exact nar_b2i) (by rfl) (by rfl) (by rfl)
set_option maxHeartbeats 4000000 in
theorem c_L_act_ch4 {l : Launch} {g : GC} {V : Mem} {L : LMem} {a : Nat} {X Y : Nat} (hX : X < 2 ^ 31) (hY : Y < 2 ^ 31) (ha : 13 ≤ a) (hb : a < 16) {V2 : Mem} (hM : MC l yL_changes cL_changes 15 (some .boolean) 6 g V L [.ref (ad g 223), .int (nI 4), .int (nI X), .int (nI Y), .ref (ad g 224), .ref (ad g 225), .ref (ad g 226), .ref (ad g 227)] (some (.int (nI 1))) V2 L) : MC l yL_act cL_act 12 (some .boolean) 8 g V L [.ref (ad g 223), .int (nI a), .int (nI X), .int (nI Y), .ref (ad g 224), .ref (ad g 225), .ref (ad g 226), .ref (ad g 227)] (some (.int (nI 1))) V2 L := by
  refine MC.of [some (.ref (ad g 223)), some (.int (nI a)), some (.int (nI X)), some (.int (nI Y)), some (.ref (ad g 224)), some (.ref (ad g 225)), some (.ref (ad g 226)), some (.ref (ad g 227)), none, none, none, none] (by decide +kernel) rfl (Nat.le_of_ble_eq_true rfl) (fun p e s m args below meth c C => ?_)
  refine j_iload_n C dL_act_0 rfl rfl ?_
  refine j_iconst (v := (nI 3)) C dL_act_1 (by decide) ?_
  refine j_icmp_ge (tgt := 142) C dL_act_2 (by decide) (fun h2 => ?_) (fun h2 => (by exact absurd (nI_le (by omega) (by omega)) h2))
  refine j_iload_n C dL_act_142 rfl rfl ?_
  refine j_bipush (v := (nI 7)) C dL_act_143 (by decide) ?_
  refine j_icmp_ge (tgt := 245) C dL_act_145 (by decide) (fun h145 => ?_) (fun h145 => (by exact absurd (nI_le (by omega) (by omega)) h145))
  refine j_aload_n C dL_act_245 rfl rfl ?_
  refine j_iload_n C dL_act_246 rfl rfl ?_
  refine j_bipush (v := (nI 9)) C dL_act_247 (by decide) ?_
  refine j_icmp_ge (tgt := 256) C dL_act_249 (by decide) (fun h249 => ?_) (fun h249 => (by exact absurd (nI_le (by omega) (by omega)) h249))
  refine j_iload_n C dL_act_256 rfl rfl ?_
  refine j_bipush (v := (nI 11)) C dL_act_257 (by decide) ?_
  refine j_icmp_ge (tgt := 266) C dL_act_259 (by decide) (fun h259 => ?_) (fun h259 => (by exact absurd (nI_le (by omega) (by omega)) h259))
  refine j_iload_n C dL_act_266 rfl rfl ?_
  refine j_bipush (v := (nI 11)) C dL_act_267 (by decide) ?_
  refine j_icmp_ne (tgt := 276) C dL_act_269 (by decide) (fun h269 => ?_) (fun h269 => (by exact absurd ((nI_eq (by omega) (by omega)).mp h269) (by omega)))
  refine j_iload_n C dL_act_276 rfl rfl ?_
  refine j_bipush (v := (nI 12)) C dL_act_277 (by decide) ?_
  refine j_icmp_ne (tgt := 286) C dL_act_279 (by decide) (fun h279 => ?_) (fun h279 => (by exact absurd ((nI_eq (by omega) (by omega)).mp h279) (by omega)))
  refine j_iconst (v := (nI 4)) C dL_act_286 (by decide) ?_
  refine j_iload_n C dL_act_287 rfl rfl ?_
  refine j_iload_n C dL_act_288 rfl rfl ?_
  refine j_aload C dL_act_289 rfl ?_
  refine j_aload C dL_act_291 rfl ?_
  refine j_aload C dL_act_293 rfl ?_
  refine j_aload C dL_act_295 rfl ?_
  refine j_callS8r C (hM) qm_L_85 qt_L_changes qn_L qc_L_changes fit_L_changes ⟨Nat.le_of_ble_eq_true rfl, Nat.le_of_ble_eq_true rfl, Nat.le_of_ble_eq_true rfl, Nat.le_of_ble_eq_true rfl⟩ (Nat.le_of_ble_eq_true rfl) dL_act_297 ?_
  exact j_zret C dL_act_300 (by first | rfl | exact nar_b2i) (by rfl) (by rfl) (by rfl)
