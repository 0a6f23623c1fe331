/-! THE MODEL'S METHODS, 4 (laid by wip/whole/p15.py) -/
set_option maxHeartbeats 4000000 in
theorem lp_X7_shortest {p : Program} {l : Launch} {e : Env} {s : State} {m : MethodId} {args : Array Value} {below : List Frame} {meth : Method} {c : Code} {g : GC} {Q : State → Prop} {V : Mem} {L : LMem} {nl ns : Nat} (C : Cx p s args m meth c cX7_shortest 4 yX7_shortest.cls (some .int) g) (hR : RR nl ns V) (kx : J p l e (RM 2) s m args below meth c 4 g 0 0 Q V L 74 [some (.ref (ad g 224)), some (.int (oI (rShort V (nl)))), some (.int (nI (nl))), none] []) : ∀ j i : Nat, i + j = nl → J p l e (RM 2) s m args below meth c 4 g 0 0 Q V L 4 [some (.ref (ad g 224)), some (.int (oI (rShort V i))), some (.int (nI i)), none] [] := by
  intro j
  induction j with
  | zero =>
    intro i hi
    have hi : nl = i := by omega
    subst hi
    refine j_iload_n C dX7_shortest_4 rfl rfl ?_
    refine j_aload_n C dX7_shortest_5 rfl rfl ?_
    refine jg_LeaseBookModel_z C (by first | assumption | rfl | exact kd_sums (by assumption) | exact kd_st1 (by assumption) | exact kd_st2 (by assumption) | exact kd_ls (by first | assumption | rfl) (by assumption) | exact kd_sb (by first | assumption | rfl) (by assumption) | exact kd_sv (by assumption)) qf_X7_7 dX7_shortest_6 ?_
    refine j_iconst (v := (nI 0)) C dX7_shortest_9 (by decide) ?_
    refine j_ialdN C (by first | assumption | rfl | exact kd_sums (by assumption) | exact kd_st1 (by assumption) | exact kd_st2 (by assumption) | exact kd_ls (by first | assumption | rfl) (by assumption) | exact kd_sb (by first | assumption | rfl) (by assumption) | exact kd_sv (by assumption)) rfl rfl (by omega) dX7_shortest_10 ?_
    refine j_tope (y := nI nl) (by exact hR.2.2.1) ?_
    refine j_icmp_ge (tgt := 74) C dX7_shortest_11 (by decide) (fun h11 => ?_) (fun h11 => absurd (nI_le (by omega) (by have := hR.1; omega)) h11)
    exact kx
  | succ j ih =>
    intro i hi
    have h8 := hR.1
    refine j_iload_n C dX7_shortest_4 rfl rfl ?_
    refine j_aload_n C dX7_shortest_5 rfl rfl ?_
    refine jg_LeaseBookModel_z C (by first | assumption | rfl | exact kd_sums (by assumption) | exact kd_st1 (by assumption) | exact kd_st2 (by assumption) | exact kd_ls (by first | assumption | rfl) (by assumption) | exact kd_sb (by first | assumption | rfl) (by assumption) | exact kd_sv (by assumption)) qf_X7_7 dX7_shortest_6 ?_
    refine j_iconst (v := (nI 0)) C dX7_shortest_9 (by decide) ?_
    refine j_ialdN C (by first | assumption | rfl | exact kd_sums (by assumption) | exact kd_st1 (by assumption) | exact kd_st2 (by assumption) | exact kd_ls (by first | assumption | rfl) (by assumption) | exact kd_sb (by first | assumption | rfl) (by assumption) | exact kd_sv (by assumption)) rfl rfl (by omega) dX7_shortest_10 ?_
    refine j_tope (y := nI nl) (by exact hR.2.2.1) ?_
    refine j_icmp_ge (tgt := 74) C dX7_shortest_11 (by decide) (fun h11 => absurd h11 (nI_ge (by omega) (by omega))) (fun h11 => ?_)
    refine j_iload_n C dX7_shortest_14 rfl rfl ?_
    refine j_iconst (v := (-1)) C dX7_shortest_15 (by decide) ?_
    refine j_icmp_eq (tgt := 44) C dX7_shortest_16 (by decide) (fun h16 => ?_) (fun h16 => ?_)
    · have hb := oI_none h16 (fun b hb => by have := rShort_lt hb; omega)
      refine j_iconst (v := (nI 1)) C dX7_shortest_44 (by decide) ?_
      refine j_goto (tgt := 49) C dX7_shortest_45 (by decide) ?_
      refine j_ist3 C dX7_shortest_49 rfl (Nat.le_of_ble_eq_true rfl) rfl ?_
      refine j_aload_n C dX7_shortest_50 rfl rfl ?_
      refine j_iload_n C dX7_shortest_51 rfl rfl ?_
      refine j_callV1r C (oa_X7 (by first | assumption | rfl | exact kd_sums (by assumption) | exact kd_st1 (by assumption) | exact kd_st2 (by assumption) | exact kd_ls (by first | assumption | rfl) (by assumption) | exact kd_sb (by first | assumption | rfl) (by assumption) | exact kd_sv (by assumption))) rfl rfl (c_X7_runs (by omega)) qm_X7_87 qi_X7_runs qs_X7_runs qn_X7 qc_X7_runs fit_X7_runs ⟨Nat.le_of_ble_eq_true rfl, Nat.le_of_ble_eq_true rfl, Nat.le_of_ble_eq_true rfl, Nat.le_of_ble_eq_true rfl⟩ (Nat.le_of_ble_eq_true rfl) dX7_shortest_52 ?_
      refine j_if_eq (tgt := 66) C dX7_shortest_55 (by decide) (fun h55 => ?_) (fun h55 => ?_)
      · replace h55 := b2i_0 h55
        refine j_iload_n C dX7_shortest_66 rfl rfl ?_
        refine j_ist1 C dX7_shortest_67 rfl (Nat.le_of_ble_eq_true rfl) rfl ?_
        refine j_incN2 (q := 1) C dX7_shortest_68 (by decide) (Nat.le_of_ble_eq_true rfl) rfl ?_
        refine j_goto (tgt := 4) C dX7_shortest_71 (by decide) ?_
        refine j_mem (V' := V) (L' := L) (by rfl) rfl ?_
        exact j_dr (lv' := [some (.ref (ad g 224)), some (.int (oI (rShort V (i + 1)))), some (.int (nI (i + 1))), none]) (And.intro rfl (And.intro (by simp only [rShort]; first | (rw [if_pos (by simp_all [Option.all, oI]; done)]; rfl) | (rw [if_neg (by simp_all [Option.all, oI]; done)])) (And.intro rfl True.intro))) (ih (i + 1) (by omega))
      · replace h55 := b2i_1 h55
        refine j_iload_n C dX7_shortest_58 rfl rfl ?_
        refine j_if_eq (tgt := 66) C dX7_shortest_59 (by decide) (fun h59 => (by exact absurd h59 (by decide))) (fun h59 => ?_)
        refine j_iload_n C dX7_shortest_62 rfl rfl ?_
        refine j_goto (tgt := 67) C dX7_shortest_63 (by decide) ?_
        refine j_ist1 C dX7_shortest_67 rfl (Nat.le_of_ble_eq_true rfl) rfl ?_
        refine j_incN2 (q := 1) C dX7_shortest_68 (by decide) (Nat.le_of_ble_eq_true rfl) rfl ?_
        refine j_goto (tgt := 4) C dX7_shortest_71 (by decide) ?_
        refine j_mem (V' := V) (L' := L) (by rfl) rfl ?_
        exact j_dr (lv' := [some (.ref (ad g 224)), some (.int (oI (rShort V (i + 1)))), some (.int (nI (i + 1))), none]) (And.intro rfl (And.intro (by simp only [rShort]; first | (rw [if_pos (by simp_all [Option.all, oI]; done)]; rfl) | (rw [if_neg (by simp_all [Option.all, oI]; done)])) (And.intro rfl True.intro))) (ih (i + 1) (by omega))
    · obtain ⟨b, hb⟩ := oI_some h16
      have hbi := rShort_lt hb
      refine j_aload_n C dX7_shortest_19 rfl rfl ?_
      refine jg_LeaseBookModel_z C (by first | assumption | rfl | exact kd_sums (by assumption) | exact kd_st1 (by assumption) | exact kd_st2 (by assumption) | exact kd_ls (by first | assumption | rfl) (by assumption) | exact kd_sb (by first | assumption | rfl) (by assumption) | exact kd_sv (by assumption)) qf_X7_7 dX7_shortest_20 ?_
      refine j_iload_n C dX7_shortest_23 rfl rfl ?_
      refine j_callS1r C (c_X7_at) qm_X7_32 qt_X7_at qn_X7 qc_X7_at fit_X7_at ⟨Nat.le_of_ble_eq_true rfl, Nat.le_of_ble_eq_true rfl, Nat.le_of_ble_eq_true rfl, Nat.le_of_ble_eq_true rfl⟩ (Nat.le_of_ble_eq_true rfl) dX7_shortest_24 ?_
      refine j_iconst (v := (nI 1)) C dX7_shortest_27 (by decide) ?_
      refine j_iaddN C dX7_shortest_28 ?_
      refine j_ialdN C (by first | assumption | rfl | exact kd_sums (by assumption) | exact kd_st1 (by assumption) | exact kd_st2 (by assumption) | exact kd_ls (by first | assumption | rfl) (by assumption) | exact kd_sb (by first | assumption | rfl) (by assumption) | exact kd_sv (by assumption)) rfl rfl (by omega) dX7_shortest_29 ?_
      refine j_aload_n C dX7_shortest_30 rfl rfl ?_
      refine jg_LeaseBookModel_z C (by first | assumption | rfl | exact kd_sums (by assumption) | exact kd_st1 (by assumption) | exact kd_st2 (by assumption) | exact kd_ls (by first | assumption | rfl) (by assumption) | exact kd_sb (by first | assumption | rfl) (by assumption) | exact kd_sv (by assumption)) qf_X7_7 dX7_shortest_31 ?_
      refine j_iload_n C dX7_shortest_34 rfl rfl ?_
      refine j_tope (y := nI b) (by rw [hb]; rfl) ?_
      refine j_callS1r C (c_X7_at) qm_X7_32 qt_X7_at qn_X7 qc_X7_at fit_X7_at ⟨Nat.le_of_ble_eq_true rfl, Nat.le_of_ble_eq_true rfl, Nat.le_of_ble_eq_true rfl, Nat.le_of_ble_eq_true rfl⟩ (Nat.le_of_ble_eq_true rfl) dX7_shortest_35 ?_
      refine j_iconst (v := (nI 1)) C dX7_shortest_38 (by decide) ?_
      refine j_iaddN C dX7_shortest_39 ?_
      refine j_ialdN C (by first | assumption | rfl | exact kd_sums (by assumption) | exact kd_st1 (by assumption) | exact kd_st2 (by assumption) | exact kd_ls (by first | assumption | rfl) (by assumption) | exact kd_sb (by first | assumption | rfl) (by assumption) | exact kd_sv (by assumption)) rfl rfl (by omega) dX7_shortest_40 ?_
      refine j_icmp_ge (tgt := 48) C dX7_shortest_41 (by decide) (fun h41 => ?_) (fun h41 => ?_)
      · refine j_iconst (v := (nI 0)) C dX7_shortest_48 (by decide) ?_
        refine j_ist3 C dX7_shortest_49 rfl (Nat.le_of_ble_eq_true rfl) rfl ?_
        refine j_aload_n C dX7_shortest_50 rfl rfl ?_
        refine j_iload_n C dX7_shortest_51 rfl rfl ?_
        refine j_callV1r C (oa_X7 (by first | assumption | rfl | exact kd_sums (by assumption) | exact kd_st1 (by assumption) | exact kd_st2 (by assumption) | exact kd_ls (by first | assumption | rfl) (by assumption) | exact kd_sb (by first | assumption | rfl) (by assumption) | exact kd_sv (by assumption))) rfl rfl (c_X7_runs (by omega)) qm_X7_87 qi_X7_runs qs_X7_runs qn_X7 qc_X7_runs fit_X7_runs ⟨Nat.le_of_ble_eq_true rfl, Nat.le_of_ble_eq_true rfl, Nat.le_of_ble_eq_true rfl, Nat.le_of_ble_eq_true rfl⟩ (Nat.le_of_ble_eq_true rfl) dX7_shortest_52 ?_
        refine j_if_eq (tgt := 66) C dX7_shortest_55 (by decide) (fun h55 => ?_) (fun h55 => ?_)
        · replace h55 := b2i_0 h55
          refine j_iload_n C dX7_shortest_66 rfl rfl ?_
          refine j_ist1 C dX7_shortest_67 rfl (Nat.le_of_ble_eq_true rfl) rfl ?_
          refine j_incN2 (q := 1) C dX7_shortest_68 (by decide) (Nat.le_of_ble_eq_true rfl) rfl ?_
          refine j_goto (tgt := 4) C dX7_shortest_71 (by decide) ?_
          refine j_mem (V' := V) (L' := L) (by rfl) rfl ?_
          exact j_dr (lv' := [some (.ref (ad g 224)), some (.int (oI (rShort V (i + 1)))), some (.int (nI (i + 1))), none]) (And.intro rfl (And.intro (by simp only [rShort]; first | (rw [if_pos (by simp_all [Option.all, oI]; done)]; rfl) | (rw [if_neg (by simp_all [Option.all, oI]; done)])) (And.intro rfl True.intro))) (ih (i + 1) (by omega))
        · replace h55 := b2i_1 h55
          refine j_iload_n C dX7_shortest_58 rfl rfl ?_
          refine j_if_eq (tgt := 66) C dX7_shortest_59 (by decide) (fun h59 => ?_) (fun h59 => (by exact absurd h59 (by decide)))
          refine j_iload_n C dX7_shortest_66 rfl rfl ?_
          refine j_ist1 C dX7_shortest_67 rfl (Nat.le_of_ble_eq_true rfl) rfl ?_
          refine j_incN2 (q := 1) C dX7_shortest_68 (by decide) (Nat.le_of_ble_eq_true rfl) rfl ?_
          refine j_goto (tgt := 4) C dX7_shortest_71 (by decide) ?_
          refine j_mem (V' := V) (L' := L) (by rfl) rfl ?_
          exact j_dr (lv' := [some (.ref (ad g 224)), some (.int (oI (rShort V (i + 1)))), some (.int (nI (i + 1))), none]) (And.intro rfl (And.intro (by simp only [rShort]; first | (rw [if_pos (by simp_all [Option.all, oI]; done)]; rfl) | (rw [if_neg (by simp_all [Option.all, oI]; done)])) (And.intro rfl True.intro))) (ih (i + 1) (by omega))
      · refine j_iconst (v := (nI 1)) C dX7_shortest_44 (by decide) ?_
        refine j_goto (tgt := 49) C dX7_shortest_45 (by decide) ?_
        refine j_ist3 C dX7_shortest_49 rfl (Nat.le_of_ble_eq_true rfl) rfl ?_
        refine j_aload_n C dX7_shortest_50 rfl rfl ?_
        refine j_iload_n C dX7_shortest_51 rfl rfl ?_
        refine j_callV1r C (oa_X7 (by first | assumption | rfl | exact kd_sums (by assumption) | exact kd_st1 (by assumption) | exact kd_st2 (by assumption) | exact kd_ls (by first | assumption | rfl) (by assumption) | exact kd_sb (by first | assumption | rfl) (by assumption) | exact kd_sv (by assumption))) rfl rfl (c_X7_runs (by omega)) qm_X7_87 qi_X7_runs qs_X7_runs qn_X7 qc_X7_runs fit_X7_runs ⟨Nat.le_of_ble_eq_true rfl, Nat.le_of_ble_eq_true rfl, Nat.le_of_ble_eq_true rfl, Nat.le_of_ble_eq_true rfl⟩ (Nat.le_of_ble_eq_true rfl) dX7_shortest_52 ?_
        refine j_if_eq (tgt := 66) C dX7_shortest_55 (by decide) (fun h55 => ?_) (fun h55 => ?_)
        · replace h55 := b2i_0 h55
          refine j_iload_n C dX7_shortest_66 rfl rfl ?_
          refine j_ist1 C dX7_shortest_67 rfl (Nat.le_of_ble_eq_true rfl) rfl ?_
          refine j_incN2 (q := 1) C dX7_shortest_68 (by decide) (Nat.le_of_ble_eq_true rfl) rfl ?_
          refine j_goto (tgt := 4) C dX7_shortest_71 (by decide) ?_
          refine j_mem (V' := V) (L' := L) (by rfl) rfl ?_
          exact j_dr (lv' := [some (.ref (ad g 224)), some (.int (oI (rShort V (i + 1)))), some (.int (nI (i + 1))), none]) (And.intro rfl (And.intro (by simp only [rShort]; first | (rw [if_pos (by simp_all [Option.all, oI]; done)]; rfl) | (rw [if_neg (by simp_all [Option.all, oI]; done)])) (And.intro rfl True.intro))) (ih (i + 1) (by omega))
        · replace h55 := b2i_1 h55
          refine j_iload_n C dX7_shortest_58 rfl rfl ?_
          refine j_if_eq (tgt := 66) C dX7_shortest_59 (by decide) (fun h59 => (by exact absurd h59 (by decide))) (fun h59 => ?_)
          refine j_iload_n C dX7_shortest_62 rfl rfl ?_
          refine j_goto (tgt := 67) C dX7_shortest_63 (by decide) ?_
          refine j_ist1 C dX7_shortest_67 rfl (Nat.le_of_ble_eq_true rfl) rfl ?_
          refine j_incN2 (q := 1) C dX7_shortest_68 (by decide) (Nat.le_of_ble_eq_true rfl) rfl ?_
          refine j_goto (tgt := 4) C dX7_shortest_71 (by decide) ?_
          refine j_mem (V' := V) (L' := L) (by rfl) rfl ?_
          exact j_dr (lv' := [some (.ref (ad g 224)), some (.int (oI (rShort V (i + 1)))), some (.int (nI (i + 1))), none]) (And.intro rfl (And.intro (by simp only [rShort]; first | (rw [if_pos (by simp_all [Option.all, oI]; done)]; rfl) | (rw [if_neg (by simp_all [Option.all, oI]; done)])) (And.intro rfl True.intro))) (ih (i + 1) (by omega))
set_option maxHeartbeats 4000000 in
theorem c_X7_shortest {l : Launch} {g : GC} {V : Mem} {L : LMem} {nl ns : Nat} (hR : RR nl ns V) : MC l yX7_shortest cX7_shortest 4 (some .int) 2 g V L [.ref (ad g 224)] (some (.int (oI (rShort V nl)))) V L := by
  refine MC.of [some (.ref (ad g 224)), none, none, none] (by decide +kernel) rfl (Nat.le_of_ble_eq_true rfl) (fun p e s m args below meth c C => ?_)
  refine j_iconst (v := (-1)) C dX7_shortest_0 (by decide) ?_
  refine j_ist1 C dX7_shortest_1 rfl (Nat.le_of_ble_eq_true rfl) rfl ?_
  refine j_iconst (v := (nI 0)) C dX7_shortest_2 (by decide) ?_
  refine j_ist2 C dX7_shortest_3 rfl (Nat.le_of_ble_eq_true rfl) rfl ?_
  refine lp_X7_shortest C hR ?_ nl 0 (by omega)
  refine j_iload_n C dX7_shortest_74 rfl rfl ?_
  exact j_iret C dX7_shortest_75 (by rfl) (by rfl) (by rfl)
set_option maxHeartbeats 4000000 in
theorem c_X7_counted {l : Launch} {g : GC} {V : Mem} {L : LMem} {w nl ns : Nat} (hw : w < 11) (hR : RR nl ns V) : MC l yX7_counted cX7_counted 2 (some .int) 4 g V L [.ref (ad g 224), .int (nI w)] (some (.int (rCount V nl ns w))) V L := by
  refine MC.of [some (.ref (ad g 224)), some (.int (nI w))] (by decide +kernel) rfl (Nat.le_of_ble_eq_true rfl) (fun p e s m args below meth c C => ?_)
  refine j_iload_n C dX7_counted_0 rfl rfl ?_
  refine j_iconst (v := (nI 3)) C dX7_counted_1 (by decide) ?_
  refine j_icmp_ge (tgt := 12) C dX7_counted_2 (by decide) (fun h2 => ?_) (fun h2 => ?_)
  · have h3 : 3 ≤ w := i_ge (by omega) (by omega) h2
    refine j_iload_n C dX7_counted_12 rfl rfl ?_
    rcases (show w = 3 ∨ w = 4 ∨ w = 5 ∨ w = 6 ∨ w = 7 ∨ w = 8 ∨ w = 9 ∨ w = 10 by omega) with rfl | rfl | rfl | rfl | rfl | rfl | rfl | rfl
    · refine j_tabIn (tgt := 56) (off := 43) C dX7_counted_13 (by decide) (by decide) (by decide) (by decide) ?_
      refine j_aload_n C dX7_counted_56 rfl rfl ?_
      refine j_callV0r C (oa_X7 (by first | assumption | rfl | exact kd_sums (by assumption) | exact kd_st1 (by assumption) | exact kd_st2 (by assumption) | exact kd_ls (by first | assumption | rfl) (by assumption) | exact kd_sb (by first | assumption | rfl) (by assumption) | exact kd_sv (by assumption))) rfl rfl (c_X7_running hR) qm_X7_149 qi_X7_running qs_X7_running qn_X7 qc_X7_running fit_X7_running ⟨Nat.le_of_ble_eq_true rfl, Nat.le_of_ble_eq_true rfl, Nat.le_of_ble_eq_true rfl, Nat.le_of_ble_eq_true rfl⟩ (Nat.le_of_ble_eq_true rfl) dX7_counted_57 ?_
      exact j_iret C dX7_counted_60 (by rfl) (by rfl) (by rfl)
    · refine j_tabIn (tgt := 61) (off := 48) C dX7_counted_13 (by decide) (by decide) (by decide) (by decide) ?_
      refine j_aload_n C dX7_counted_61 rfl rfl ?_
      refine j_bipush (v := (nI 8)) C dX7_counted_62 (by decide) ?_
      refine j_callV1r C (oa_X7 (by first | assumption | rfl | exact kd_sums (by assumption) | exact kd_st1 (by assumption) | exact kd_st2 (by assumption) | exact kd_ls (by first | assumption | rfl) (by assumption) | exact kd_sb (by first | assumption | rfl) (by assumption) | exact kd_sv (by assumption))) rfl rfl (c_X7_ofLeases (by omega) hR) qm_X7_152 qi_X7_ofLeases qs_X7_ofLeases qn_X7 qc_X7_ofLeases fit_X7_ofLeases ⟨Nat.le_of_ble_eq_true rfl, Nat.le_of_ble_eq_true rfl, Nat.le_of_ble_eq_true rfl, Nat.le_of_ble_eq_true rfl⟩ (Nat.le_of_ble_eq_true rfl) dX7_counted_64 ?_
      exact j_iret C dX7_counted_67 (by rfl) (by rfl) (by rfl)
    · refine j_tabIn (tgt := 68) (off := 55) C dX7_counted_13 (by decide) (by decide) (by decide) (by decide) ?_
      refine j_aload_n C dX7_counted_68 rfl rfl ?_
      refine j_iconst (v := (nI 3)) C dX7_counted_69 (by decide) ?_
      refine j_callV1r C (oa_X7 (by first | assumption | rfl | exact kd_sums (by assumption) | exact kd_st1 (by assumption) | exact kd_st2 (by assumption) | exact kd_ls (by first | assumption | rfl) (by assumption) | exact kd_sb (by first | assumption | rfl) (by assumption) | exact kd_sv (by assumption))) rfl rfl (c_X7_ofLeases (by omega) hR) qm_X7_152 qi_X7_ofLeases qs_X7_ofLeases qn_X7 qc_X7_ofLeases fit_X7_ofLeases ⟨Nat.le_of_ble_eq_true rfl, Nat.le_of_ble_eq_true rfl, Nat.le_of_ble_eq_true rfl, Nat.le_of_ble_eq_true rfl⟩ (Nat.le_of_ble_eq_true rfl) dX7_counted_70 ?_
      exact j_iret C dX7_counted_73 (by rfl) (by rfl) (by rfl)
    · refine j_tabIn (tgt := 74) (off := 61) C dX7_counted_13 (by decide) (by decide) (by decide) (by decide) ?_
      refine j_aload_n C dX7_counted_74 rfl rfl ?_
      refine j_iconst (v := (nI 4)) C dX7_counted_75 (by decide) ?_
      refine j_callV1r C (oa_X7 (by first | assumption | rfl | exact kd_sums (by assumption) | exact kd_st1 (by assumption) | exact kd_st2 (by assumption) | exact kd_ls (by first | assumption | rfl) (by assumption) | exact kd_sb (by first | assumption | rfl) (by assumption) | exact kd_sv (by assumption))) rfl rfl (c_X7_ofLeases (by omega) hR) qm_X7_152 qi_X7_ofLeases qs_X7_ofLeases qn_X7 qc_X7_ofLeases fit_X7_ofLeases ⟨Nat.le_of_ble_eq_true rfl, Nat.le_of_ble_eq_true rfl, Nat.le_of_ble_eq_true rfl, Nat.le_of_ble_eq_true rfl⟩ (Nat.le_of_ble_eq_true rfl) dX7_counted_76 ?_
      exact j_iret C dX7_counted_79 (by rfl) (by rfl) (by rfl)
    · refine j_tabIn (tgt := 80) (off := 67) C dX7_counted_13 (by decide) (by decide) (by decide) (by decide) ?_
      refine j_aload_n C dX7_counted_80 rfl rfl ?_
      refine j_iconst (v := (nI 5)) C dX7_counted_81 (by decide) ?_
      refine j_callV1r C (oa_X7 (by first | assumption | rfl | exact kd_sums (by assumption) | exact kd_st1 (by assumption) | exact kd_st2 (by assumption) | exact kd_ls (by first | assumption | rfl) (by assumption) | exact kd_sb (by first | assumption | rfl) (by assumption) | exact kd_sv (by assumption))) rfl rfl (c_X7_ofLeases (by omega) hR) qm_X7_152 qi_X7_ofLeases qs_X7_ofLeases qn_X7 qc_X7_ofLeases fit_X7_ofLeases ⟨Nat.le_of_ble_eq_true rfl, Nat.le_of_ble_eq_true rfl, Nat.le_of_ble_eq_true rfl, Nat.le_of_ble_eq_true rfl⟩ (Nat.le_of_ble_eq_true rfl) dX7_counted_82 ?_
      exact j_iret C dX7_counted_85 (by rfl) (by rfl) (by rfl)
    · refine j_tabIn (tgt := 86) (off := 73) C dX7_counted_13 (by decide) (by decide) (by decide) (by decide) ?_
      refine j_aload_n C dX7_counted_86 rfl rfl ?_
      refine j_callV0r C (oa_X7 (by first | assumption | rfl | exact kd_sums (by assumption) | exact kd_st1 (by assumption) | exact kd_st2 (by assumption) | exact kd_ls (by first | assumption | rfl) (by assumption) | exact kd_sb (by first | assumption | rfl) (by assumption) | exact kd_sv (by assumption))) rfl rfl (c_X7_profits hR) qm_X7_155 qi_X7_profits qs_X7_profits qn_X7 qc_X7_profits fit_X7_profits ⟨Nat.le_of_ble_eq_true rfl, Nat.le_of_ble_eq_true rfl, Nat.le_of_ble_eq_true rfl, Nat.le_of_ble_eq_true rfl⟩ (Nat.le_of_ble_eq_true rfl) dX7_counted_87 ?_
      exact j_iret C dX7_counted_90 (by rfl) (by rfl) (by rfl)
    · refine j_tabIn (tgt := 91) (off := 78) C dX7_counted_13 (by decide) (by decide) (by decide) (by decide) ?_
      refine j_aload_n C dX7_counted_91 rfl rfl ?_
      refine j_callV0r C (oa_X7 (by first | assumption | rfl | exact kd_sums (by assumption) | exact kd_st1 (by assumption) | exact kd_st2 (by assumption) | exact kd_ls (by first | assumption | rfl) (by assumption) | exact kd_sb (by first | assumption | rfl) (by assumption) | exact kd_sv (by assumption))) rfl rfl (c_X7_shortest hR) qm_X7_158 qi_X7_shortest qs_X7_shortest qn_X7 qc_X7_shortest fit_X7_shortest ⟨Nat.le_of_ble_eq_true rfl, Nat.le_of_ble_eq_true rfl, Nat.le_of_ble_eq_true rfl, Nat.le_of_ble_eq_true rfl⟩ (Nat.le_of_ble_eq_true rfl) dX7_counted_92 ?_
      exact j_iret C dX7_counted_95 (by rfl) (by rfl) (by rfl)
    · refine j_tabOut (tgt := 96) C dX7_counted_13 (by decide) (by decide) ?_
      refine j_aload_n C dX7_counted_96 rfl rfl ?_
      refine jg_LeaseBookModel_savedMany C (by first | assumption | rfl | exact kd_sums (by assumption) | exact kd_st1 (by assumption) | exact kd_st2 (by assumption) | exact kd_ls (by first | assumption | rfl) (by assumption) | exact kd_sb (by first | assumption | rfl) (by assumption) | exact kd_sv (by assumption)) qf_X7_29 dX7_counted_97 ?_
      exact j_iret C dX7_counted_100 (by rfl) (by rfl) (by rfl)
  · have h3 : w < 3 := by rcases Nat.lt_or_ge w 3 with q | q; (· exact q); (· first | exact absurd (nI_le q (by omega)) h2 | exact absurd (nI_le q (by omega)) (Int32.not_le.mpr h2))
    refine j_aload_n C dX7_counted_5 rfl rfl ?_
    refine jg_LeaseBookModel_z C (by first | assumption | rfl | exact kd_sums (by assumption) | exact kd_st1 (by assumption) | exact kd_st2 (by assumption) | exact kd_ls (by first | assumption | rfl) (by assumption) | exact kd_sb (by first | assumption | rfl) (by assumption) | exact kd_sv (by assumption)) qf_X7_7 dX7_counted_6 ?_
    refine j_iload_n C dX7_counted_9 rfl rfl ?_
    refine j_ialdN C (by first | assumption | rfl | exact kd_sums (by assumption) | exact kd_st1 (by assumption) | exact kd_st2 (by assumption) | exact kd_ls (by first | assumption | rfl) (by assumption) | exact kd_sb (by first | assumption | rfl) (by assumption) | exact kd_sv (by assumption)) rfl rfl (by omega) dX7_counted_10 ?_
    exact j_iret C dX7_counted_11 (by unfold rCount; rw [if_pos h3]) (by rfl) (by rfl)
set_option maxHeartbeats 4000000 in
theorem lp_X7_planOf {p : Program} {l : Launch} {e : Env} {s : State} {m : MethodId} {args : Array Value} {below : List Frame} {meth : Method} {c : Code} {g : GC} {Q : State → Prop} {V : Mem} {L : LMem} {k n w nl ns : Nat} (C : Cx p s args m meth c cX7_planOf 6 yX7_planOf.cls (some .int) g) (hk : k < nl) (hn : n ≤ 60) (hR : RR nl ns V) (kx : J p l e (RM 4) s m args below meth c 6 g 0 0 Q (rPLn k ns V (n)) L 40 [some (.ref (ad g 224)), some (.int (nI k)), some (.int (nI n)), some (.int (nI w)), some (.int (rHad k ns V (n))), some (.int (nI (n)))] []) : ∀ j i : Nat, i + j = n → J p l e (RM 4) s m args below meth c 6 g 0 0 Q (rPLn k ns V i) L 15 [some (.ref (ad g 224)), some (.int (nI k)), some (.int (nI n)), some (.int (nI w)), some (.int (rHad k ns V i)), some (.int (nI i))] [] := by
  intro j
  induction j with
  | zero =>
    intro i hi
    have hi : n = i := by omega
    subst hi
    refine j_iload C dX7_planOf_15 rfl ?_
    refine j_iload_n C dX7_planOf_17 rfl rfl ?_
    refine j_icmp_ge (tgt := 40) C dX7_planOf_18 (by decide) (fun h18 => ?_) (fun h18 => absurd (nI_le (by omega) (by omega)) h18)
    exact kx
  | succ j ih =>
    intro i hi
    have hk8 : k < 8 := Nat.lt_of_lt_of_le hk hR.1
    refine j_iload C dX7_planOf_15 rfl ?_
    refine j_iload_n C dX7_planOf_17 rfl rfl ?_
    refine j_icmp_ge (tgt := 40) C dX7_planOf_18 (by decide) (fun h18 => absurd h18 (nI_ge (by omega) (by omega))) (fun h18 => ?_)
    refine j_aload_n C dX7_planOf_21 rfl rfl ?_
    refine j_iload_n C dX7_planOf_22 rfl rfl ?_
    refine j_iconst (v := (nI 1)) C dX7_planOf_23 (by decide) ?_
    refine j_callV2r C (oa_X7 (by first | assumption | rfl | exact kd_sums (by assumption) | exact kd_st1 (by assumption) | exact kd_st2 (by assumption) | exact kd_ls (by first | assumption | rfl) (by assumption) | exact kd_sb (by first | assumption | rfl) (by assumption) | exact kd_sv (by assumption))) rfl rfl (c_X7_moved hk8 (by omega)) qm_X7_143 qi_X7_moved qs_X7_moved qn_X7 qc_X7_moved fit_X7_moved ⟨Nat.le_of_ble_eq_true rfl, Nat.le_of_ble_eq_true rfl, Nat.le_of_ble_eq_true rfl, Nat.le_of_ble_eq_true rfl⟩ (Nat.le_of_ble_eq_true rfl) dX7_planOf_24 ?_
    refine j_ist4 C dX7_planOf_27 (Nat.le_of_ble_eq_true rfl) rfl ?_
    refine j_aload_n C dX7_planOf_29 rfl rfl ?_
    refine j_iload_n C dX7_planOf_30 rfl rfl ?_
    refine j_callV1v C (oa_X7 (by first | assumption | rfl | exact kd_sums (by assumption) | exact kd_st1 (by assumption) | exact kd_st2 (by assumption) | exact kd_ls (by first | assumption | rfl) (by assumption) | exact kd_sb (by first | assumption | rfl) (by assumption) | exact kd_sv (by assumption))) rfl rfl (c_X7_passLease hk (hR.pln hk8 i)) qm_X7_111 qi_X7_passLease qs_X7_passLease qn_X7 qc_X7_passLease fit_X7_passLease ⟨Nat.le_of_ble_eq_true rfl, Nat.le_of_ble_eq_true rfl, Nat.le_of_ble_eq_true rfl, Nat.le_of_ble_eq_true rfl⟩ (Nat.le_of_ble_eq_true rfl) dX7_planOf_31 ?_
    refine j_incN5 (q := 1) C dX7_planOf_34 (by decide) (Nat.le_of_ble_eq_true rfl) rfl ?_
    refine j_goto (tgt := 15) C dX7_planOf_37 (by decide) ?_
    refine j_mem (V' := (rPLn k ns V (i + 1))) (L' := L) (by rfl) rfl ?_
    exact j_dr (lv' := [some (.ref (ad g 224)), some (.int (nI k)), some (.int (nI n)), some (.int (nI w)), some (.int (rHad k ns V (i + 1))), some (.int (nI (i + 1)))]) (And.intro rfl (And.intro rfl (And.intro rfl (And.intro rfl (And.intro rfl (And.intro rfl True.intro)))))) (ih (i + 1) (by omega))
set_option maxHeartbeats 4000000 in
theorem c_X7_planOf {l : Launch} {g : GC} {V : Mem} {L : LMem} {k n w nl ns : Nat} (hk : k < nl) (hn : n ≤ 60) (hw : w < 4) (hR : RR nl ns V) : MC l yX7_planOf cX7_planOf 6 (some .int) 4 g V L [.ref (ad g 224), .int (nI k), .int (nI n), .int (nI w)] (some (.int (rPlan (rAside V) k ns n w))) (rAside V) L := by
  refine MC.of [some (.ref (ad g 224)), some (.int (nI k)), some (.int (nI n)), some (.int (nI w)), none, none] (by decide +kernel) rfl (Nat.le_of_ble_eq_true rfl) (fun p e s m args below meth c C => ?_)
  have hk8 : k < 8 := Nat.lt_of_lt_of_le hk hR.1
  have hA := hR.aside
  refine j_aload_n C dX7_planOf_0 rfl rfl ?_
  refine j_callV0v C (oa_X7 (by first | assumption | rfl | exact kd_sums (by assumption) | exact kd_st1 (by assumption) | exact kd_st2 (by assumption) | exact kd_ls (by first | assumption | rfl) (by assumption) | exact kd_sb (by first | assumption | rfl) (by assumption) | exact kd_sv (by assumption))) rfl rfl (c_X7_putAside) qm_X7_164 qi_X7_putAside qs_X7_putAside qn_X7 qc_X7_putAside fit_X7_putAside ⟨Nat.le_of_ble_eq_true rfl, Nat.le_of_ble_eq_true rfl, Nat.le_of_ble_eq_true rfl, Nat.le_of_ble_eq_true rfl⟩ (Nat.le_of_ble_eq_true rfl) dX7_planOf_1 ?_
  refine j_aload_n C dX7_planOf_4 rfl rfl ?_
  refine j_iload_n C dX7_planOf_5 rfl rfl ?_
  refine j_iconst (v := (nI 1)) C dX7_planOf_6 (by decide) ?_
  refine j_callV2r C (oa_X7 (by first | assumption | rfl | exact kd_sums (by assumption) | exact kd_st1 (by assumption) | exact kd_st2 (by assumption) | exact kd_ls (by first | assumption | rfl) (by assumption) | exact kd_sb (by first | assumption | rfl) (by assumption) | exact kd_sv (by assumption))) rfl rfl (c_X7_moved hk8 (by omega)) qm_X7_143 qi_X7_moved qs_X7_moved qn_X7 qc_X7_moved fit_X7_moved ⟨Nat.le_of_ble_eq_true rfl, Nat.le_of_ble_eq_true rfl, Nat.le_of_ble_eq_true rfl, Nat.le_of_ble_eq_true rfl⟩ (Nat.le_of_ble_eq_true rfl) dX7_planOf_7 ?_
  refine j_ist4 C dX7_planOf_10 (Nat.le_of_ble_eq_true rfl) rfl ?_
  refine j_iconst (v := (nI 0)) C dX7_planOf_12 (by decide) ?_
  refine j_ist5 C dX7_planOf_13 (Nat.le_of_ble_eq_true rfl) rfl ?_
  refine lp_X7_planOf C hk hn hA ?_ n 0 (by omega)
  refine j_iload_n C dX7_planOf_40 rfl rfl ?_
  refine j_iconst (v := (nI 3)) C dX7_planOf_41 (by decide) ?_
  refine j_icmp_ne (tgt := 57) C dX7_planOf_42 (by decide) (fun h42 => ?_) (fun h42 => ?_)
  · have h3 : ¬ w = 3 := fun q => absurd (by rw [q]) h42
    refine j_aload_n C dX7_planOf_57 rfl rfl ?_
    refine j_iload_n C dX7_planOf_58 rfl rfl ?_
    refine j_iload_n C dX7_planOf_59 rfl rfl ?_
    refine j_iconst (v := (nI 3)) C dX7_planOf_60 (by decide) ?_
    refine j_iaddN C dX7_planOf_61 ?_
    refine j_callV2r C (oa_X7 (by first | assumption | rfl | exact kd_sums (by assumption) | exact kd_st1 (by assumption) | exact kd_st2 (by assumption) | exact kd_ls (by first | assumption | rfl) (by assumption) | exact kd_sb (by first | assumption | rfl) (by assumption) | exact kd_sv (by assumption))) rfl rfl (c_X7_leaseOf hk8 (by omega) (hA.pln hk8 n)) qm_X7_140 qi_X7_leaseOf qs_X7_leaseOf qn_X7 qc_X7_leaseOf fit_X7_leaseOf ⟨Nat.le_of_ble_eq_true rfl, Nat.le_of_ble_eq_true rfl, Nat.le_of_ble_eq_true rfl, Nat.le_of_ble_eq_true rfl⟩ (Nat.le_of_ble_eq_true rfl) dX7_planOf_62 ?_
    refine j_ist5 C dX7_planOf_65 (Nat.le_of_ble_eq_true rfl) rfl ?_
    refine j_aload_n C dX7_planOf_67 rfl rfl ?_
    refine j_callV0v C (oa_X7 (by first | assumption | rfl | exact kd_sums (by assumption) | exact kd_st1 (by assumption) | exact kd_st2 (by assumption) | exact kd_ls (by first | assumption | rfl) (by assumption) | exact kd_sb (by first | assumption | rfl) (by assumption) | exact kd_sv (by assumption))) rfl rfl (c_X7_putBack) qm_X7_167 qi_X7_putBack qs_X7_putBack qn_X7 qc_X7_putBack fit_X7_putBack ⟨Nat.le_of_ble_eq_true rfl, Nat.le_of_ble_eq_true rfl, Nat.le_of_ble_eq_true rfl, Nat.le_of_ble_eq_true rfl⟩ (Nat.le_of_ble_eq_true rfl) dX7_planOf_68 ?_
    refine j_iload C dX7_planOf_71 rfl ?_
    exact j_iret C dX7_planOf_73 (by unfold rPlan; first | rw [if_pos h3] | rw [if_neg h3]) (by exact rBack_eq (ZF.rf.pln hk8 hR.2.1 n)) (by rfl)
  · have h3 : w = 3 := (nI_eq (by omega) (by omega)).mp h42
    refine j_aload_n C dX7_planOf_45 rfl rfl ?_
    refine j_iload_n C dX7_planOf_46 rfl rfl ?_
    refine j_iconst (v := (nI 1)) C dX7_planOf_47 (by decide) ?_
    refine j_callV2r C (oa_X7 (by first | assumption | rfl | exact kd_sums (by assumption) | exact kd_st1 (by assumption) | exact kd_st2 (by assumption) | exact kd_ls (by first | assumption | rfl) (by assumption) | exact kd_sb (by first | assumption | rfl) (by assumption) | exact kd_sv (by assumption))) rfl rfl (c_X7_moved hk8 (by omega)) qm_X7_143 qi_X7_moved qs_X7_moved qn_X7 qc_X7_moved fit_X7_moved ⟨Nat.le_of_ble_eq_true rfl, Nat.le_of_ble_eq_true rfl, Nat.le_of_ble_eq_true rfl, Nat.le_of_ble_eq_true rfl⟩ (Nat.le_of_ble_eq_true rfl) dX7_planOf_48 ?_
    refine j_iload C dX7_planOf_51 rfl ?_
    refine j_isub C dX7_planOf_53 ?_
    refine j_goto (tgt := 65) C dX7_planOf_54 (by decide) ?_
    refine j_ist5 C dX7_planOf_65 (Nat.le_of_ble_eq_true rfl) rfl ?_
    refine j_aload_n C dX7_planOf_67 rfl rfl ?_
    refine j_callV0v C (oa_X7 (by first | assumption | rfl | exact kd_sums (by assumption) | exact kd_st1 (by assumption) | exact kd_st2 (by assumption) | exact kd_ls (by first | assumption | rfl) (by assumption) | exact kd_sb (by first | assumption | rfl) (by assumption) | exact kd_sv (by assumption))) rfl rfl (c_X7_putBack) qm_X7_167 qi_X7_putBack qs_X7_putBack qn_X7 qc_X7_putBack fit_X7_putBack ⟨Nat.le_of_ble_eq_true rfl, Nat.le_of_ble_eq_true rfl, Nat.le_of_ble_eq_true rfl, Nat.le_of_ble_eq_true rfl⟩ (Nat.le_of_ble_eq_true rfl) dX7_planOf_68 ?_
    refine j_iload C dX7_planOf_71 rfl ?_
    exact j_iret C dX7_planOf_73 (by unfold rPlan; first | rw [if_pos h3] | rw [if_neg h3]) (by exact rBack_eq (ZF.rf.pln hk8 hR.2.1 n)) (by rfl)
set_option maxHeartbeats 4000000 in
theorem c_X7_measuredOf {l : Launch} {g : GC} {V : Mem} {L : LMem} {k w nl ns : Nat} {p1 n r : Int32} (hk : k < 8) (hw : w < 3) (hr : rateR r) (hR : RR nl ns V) : MC l yX7_measuredOf cX7_measuredOf 8 (some .int) 4 g V L [.ref (ad g 224), .int (nI k), .int p1, .int n, .int r, .int (nI w)] (some (.int (if rRuns V k then rMsd (rAside V) k ns p1 n r w else -1))) (if rRuns V k then rAside V else V) L := by
  refine MC.of [some (.ref (ad g 224)), some (.int (nI k)), some (.int p1), some (.int n), some (.int r), some (.int (nI w)), none, none] (by decide +kernel) rfl (Nat.le_of_ble_eq_true rfl) (fun p e s m args below meth c C => ?_)
  have hA := hR.aside
  refine j_aload_n C dX7_measuredOf_0 rfl rfl ?_
  refine j_iload_n C dX7_measuredOf_1 rfl rfl ?_
  refine j_callV1r C (oa_X7 (by first | assumption | rfl | exact kd_sums (by assumption) | exact kd_st1 (by assumption) | exact kd_st2 (by assumption) | exact kd_ls (by first | assumption | rfl) (by assumption) | exact kd_sb (by first | assumption | rfl) (by assumption) | exact kd_sv (by assumption))) rfl rfl (c_X7_runs hk) qm_X7_87 qi_X7_runs qs_X7_runs qn_X7 qc_X7_runs fit_X7_runs ⟨Nat.le_of_ble_eq_true rfl, Nat.le_of_ble_eq_true rfl, Nat.le_of_ble_eq_true rfl, Nat.le_of_ble_eq_true rfl⟩ (Nat.le_of_ble_eq_true rfl) dX7_measuredOf_2 ?_
  refine j_if_ne (tgt := 10) C dX7_measuredOf_5 (by decide) (fun h5 => ?_) (fun h5 => ?_)
  · replace h5 := b2i_1 h5
    refine j_aload_n C dX7_measuredOf_10 rfl rfl ?_
    refine j_callV0v C (oa_X7 (by first | assumption | rfl | exact kd_sums (by assumption) | exact kd_st1 (by assumption) | exact kd_st2 (by assumption) | exact kd_ls (by first | assumption | rfl) (by assumption) | exact kd_sb (by first | assumption | rfl) (by assumption) | exact kd_sv (by assumption))) rfl rfl (c_X7_putAside) qm_X7_164 qi_X7_putAside qs_X7_putAside qn_X7 qc_X7_putAside fit_X7_putAside ⟨Nat.le_of_ble_eq_true rfl, Nat.le_of_ble_eq_true rfl, Nat.le_of_ble_eq_true rfl, Nat.le_of_ble_eq_true rfl⟩ (Nat.le_of_ble_eq_true rfl) dX7_measuredOf_11 ?_
    refine j_aload_n C dX7_measuredOf_14 rfl rfl ?_
    refine j_iload_n C dX7_measuredOf_15 rfl rfl ?_
    refine j_iconst (v := (nI 0)) C dX7_measuredOf_16 (by decide) ?_
    refine j_callV2r C (oa_X7 (by first | assumption | rfl | exact kd_sums (by assumption) | exact kd_st1 (by assumption) | exact kd_st2 (by assumption) | exact kd_ls (by first | assumption | rfl) (by assumption) | exact kd_sb (by first | assumption | rfl) (by assumption) | exact kd_sv (by assumption))) rfl rfl (c_X7_profitOf hk hA) qm_X7_146 qi_X7_profitOf qs_X7_profitOf qn_X7 qc_X7_profitOf fit_X7_profitOf ⟨Nat.le_of_ble_eq_true rfl, Nat.le_of_ble_eq_true rfl, Nat.le_of_ble_eq_true rfl, Nat.le_of_ble_eq_true rfl⟩ (Nat.le_of_ble_eq_true rfl) dX7_measuredOf_17 ?_
    refine j_tope (y := rProf0 (rAside V) k) (by rw [if_neg (by decide)]) ?_
    refine j_ist6 C dX7_measuredOf_20 (Nat.le_of_ble_eq_true rfl) rfl ?_
    refine j_aload_n C dX7_measuredOf_22 rfl rfl ?_
    refine j_iload_n C dX7_measuredOf_23 rfl rfl ?_
    refine j_iload_n C dX7_measuredOf_24 rfl rfl ?_
    refine j_iload_n C dX7_measuredOf_25 rfl rfl ?_
    refine j_iload C dX7_measuredOf_26 rfl ?_
    refine j_callV4v C (oa_X7 (by first | assumption | rfl | exact kd_sums (by assumption) | exact kd_st1 (by assumption) | exact kd_st2 (by assumption) | exact kd_ls (by first | assumption | rfl) (by assumption) | exact kd_sb (by first | assumption | rfl) (by assumption) | exact kd_sv (by assumption))) rfl rfl (c_X7_measure hk hA hr) qm_X7_90 qi_X7_measure qs_X7_measure qn_X7 qc_X7_measure fit_X7_measure ⟨Nat.le_of_ble_eq_true rfl, Nat.le_of_ble_eq_true rfl, Nat.le_of_ble_eq_true rfl, Nat.le_of_ble_eq_true rfl⟩ (Nat.le_of_ble_eq_true rfl) dX7_measuredOf_28 ?_
    refine j_iload C dX7_measuredOf_31 rfl ?_
    refine j_iconst (v := (nI 2)) C dX7_measuredOf_33 (by decide) ?_
    refine j_icmp_ne (tgt := 49) C dX7_measuredOf_34 (by decide) (fun h34 => ?_) (fun h34 => ?_)
    · have h3 : ¬ w = 2 := fun q => absurd (by rw [q]) h34
      refine j_aload_n C dX7_measuredOf_49 rfl rfl ?_
      refine jg_LeaseBookModel_z C (by first | assumption | rfl | exact kd_sums (by assumption) | exact kd_st1 (by assumption) | exact kd_st2 (by assumption) | exact kd_ls (by first | assumption | rfl) (by assumption) | exact kd_sb (by first | assumption | rfl) (by assumption) | exact kd_sv (by assumption)) qf_X7_7 dX7_measuredOf_50 ?_
      refine j_iload_n C dX7_measuredOf_53 rfl rfl ?_
      refine j_callS1r C (c_X7_at) qm_X7_32 qt_X7_at qn_X7 qc_X7_at fit_X7_at ⟨Nat.le_of_ble_eq_true rfl, Nat.le_of_ble_eq_true rfl, Nat.le_of_ble_eq_true rfl, Nat.le_of_ble_eq_true rfl⟩ (Nat.le_of_ble_eq_true rfl) dX7_measuredOf_54 ?_
      refine j_iconst (v := (nI 3)) C dX7_measuredOf_57 (by decide) ?_
      refine j_iaddN C dX7_measuredOf_58 ?_
      refine j_iload C dX7_measuredOf_59 rfl ?_
      refine j_iaddN C dX7_measuredOf_61 ?_
      refine j_ialdN C (by first | assumption | rfl | exact kd_sums (by assumption) | exact kd_st1 (by assumption) | exact kd_st2 (by assumption) | exact kd_ls (by first | assumption | rfl) (by assumption) | exact kd_sb (by first | assumption | rfl) (by assumption) | exact kd_sv (by assumption)) rfl rfl (by omega) dX7_measuredOf_62 ?_
      refine j_ist7 C dX7_measuredOf_63 (Nat.le_of_ble_eq_true rfl) rfl ?_
      refine j_aload_n C dX7_measuredOf_65 rfl rfl ?_
      refine j_callV0v C (oa_X7 (by first | assumption | rfl | exact kd_sums (by assumption) | exact kd_st1 (by assumption) | exact kd_st2 (by assumption) | exact kd_ls (by first | assumption | rfl) (by assumption) | exact kd_sb (by first | assumption | rfl) (by assumption) | exact kd_sv (by assumption))) rfl rfl (c_X7_putBack) qm_X7_167 qi_X7_putBack qs_X7_putBack qn_X7 qc_X7_putBack fit_X7_putBack ⟨Nat.le_of_ble_eq_true rfl, Nat.le_of_ble_eq_true rfl, Nat.le_of_ble_eq_true rfl, Nat.le_of_ble_eq_true rfl⟩ (Nat.le_of_ble_eq_true rfl) dX7_measuredOf_66 ?_
      refine j_iload C dX7_measuredOf_69 rfl ?_
      exact j_iret C dX7_measuredOf_71 (by rw [if_pos h5]; unfold rMsd; first | rw [if_pos h3] | rw [if_neg h3]) (by rw [if_pos h5]; exact rBack_eq (ZF.rf.meas hk hR.2.1)) (by rfl)
    · have h3 : w = 2 := (nI_eq (by omega) (by omega)).mp h34
      refine j_aload_n C dX7_measuredOf_37 rfl rfl ?_
      refine j_iload_n C dX7_measuredOf_38 rfl rfl ?_
      refine j_iconst (v := (nI 0)) C dX7_measuredOf_39 (by decide) ?_
      refine j_callV2r C (oa_X7 (by first | assumption | rfl | exact kd_sums (by assumption) | exact kd_st1 (by assumption) | exact kd_st2 (by assumption) | exact kd_ls (by first | assumption | rfl) (by assumption) | exact kd_sb (by first | assumption | rfl) (by assumption) | exact kd_sv (by assumption))) rfl rfl (c_X7_profitOf hk (hA.meas hk hr)) qm_X7_146 qi_X7_profitOf qs_X7_profitOf qn_X7 qc_X7_profitOf fit_X7_profitOf ⟨Nat.le_of_ble_eq_true rfl, Nat.le_of_ble_eq_true rfl, Nat.le_of_ble_eq_true rfl, Nat.le_of_ble_eq_true rfl⟩ (Nat.le_of_ble_eq_true rfl) dX7_measuredOf_40 ?_
      refine j_tope (y := rProf0 (rMeas k p1 n r ns (rAside V)) k) (by rw [if_neg (by decide)]) ?_
      refine j_iload C dX7_measuredOf_43 rfl ?_
      refine j_isub C dX7_measuredOf_45 ?_
      refine j_goto (tgt := 63) C dX7_measuredOf_46 (by decide) ?_
      refine j_ist7 C dX7_measuredOf_63 (Nat.le_of_ble_eq_true rfl) rfl ?_
      refine j_aload_n C dX7_measuredOf_65 rfl rfl ?_
      refine j_callV0v C (oa_X7 (by first | assumption | rfl | exact kd_sums (by assumption) | exact kd_st1 (by assumption) | exact kd_st2 (by assumption) | exact kd_ls (by first | assumption | rfl) (by assumption) | exact kd_sb (by first | assumption | rfl) (by assumption) | exact kd_sv (by assumption))) rfl rfl (c_X7_putBack) qm_X7_167 qi_X7_putBack qs_X7_putBack qn_X7 qc_X7_putBack fit_X7_putBack ⟨Nat.le_of_ble_eq_true rfl, Nat.le_of_ble_eq_true rfl, Nat.le_of_ble_eq_true rfl, Nat.le_of_ble_eq_true rfl⟩ (Nat.le_of_ble_eq_true rfl) dX7_measuredOf_66 ?_
      refine j_iload C dX7_measuredOf_69 rfl ?_
      exact j_iret C dX7_measuredOf_71 (by rw [if_pos h5]; unfold rMsd; first | rw [if_pos h3] | rw [if_neg h3]) (by rw [if_pos h5]; exact rBack_eq (ZF.rf.meas hk hR.2.1)) (by rfl)
  · replace h5 := b2i_0 h5
    refine j_iconst (v := (-1)) C dX7_measuredOf_8 (by decide) ?_
    exact j_iret C dX7_measuredOf_9 (by rw [if_neg h5]) (by rw [if_neg h5]) (by rfl)
