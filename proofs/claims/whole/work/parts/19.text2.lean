/-! THE MODEL'S READING OF TEXTS: contracts (laid by wip/whole/p19.py) -/
set_option maxHeartbeats 4000000 in
theorem c_X7_next {l : Launch} {g : GC} {V : Mem} {L : LMem} {pl q bm : Nat} {T : Nat → Int32} (hb : V 224 5 = nI bm) (hbm : bm ≤ 60) (hpl : pl ≤ bm) : MC l yX7_next cX7_next 1 (some .int) 0 g (pS V (pl) (q) (T)) L [.ref (ad g 224)] (some (.int (nx (V 228) bm pl))) (pS V (pl) (q) (T)) L := by
  refine MC.of [some (.ref (ad g 224))] (by decide +kernel) rfl (Nat.le_of_ble_eq_true rfl) (fun p e s m args below meth c C => ?_)
  refine j_aload_n C dX7_next_0 rfl rfl ?_
  refine jg_LeaseBookModel_place C (by first | assumption | rfl | exact kd_sums (by assumption) | exact kd_st1 (by assumption) | exact kd_st2 (by assumption) | exact kd_ls (by first | assumption | rfl) (by assumption) | exact kd_sb (by first | assumption | rfl) (by assumption) | exact kd_sv (by assumption)) qf_X7_117 dX7_next_1 ?_
  refine j_tope (y := nI pl) (by exact pS_7) ?_
  refine j_aload_n C dX7_next_4 rfl rfl ?_
  refine jg_LeaseBookModel_bufferMany C (by first | assumption | rfl | exact kd_sums (by assumption) | exact kd_st1 (by assumption) | exact kd_st2 (by assumption) | exact kd_ls (by first | assumption | rfl) (by assumption) | exact kd_sb (by first | assumption | rfl) (by assumption) | exact kd_sv (by assumption)) qf_X7_114 dX7_next_5 ?_
  refine j_tope (y := nI bm) (by exact (pS_o (by decide) (by decide)).trans hb) ?_
  refine j_icmp_ge (tgt := 23) C dX7_next_8 (by decide) (fun h8 => ?_) (fun h8 => ?_)
  · have h8 : ¬ pl < bm := by have := i_ge (by omega) (by omega) h8; omega
    refine j_iconst (v := (nI 0)) C dX7_next_23 (by decide) ?_
    exact j_iret C dX7_next_24 (by unfold nx; first | (rw [if_pos h8]; rw [pS_o (by decide) (fun z => absurd z.1 (by decide))]; done) | (rw [if_neg h8]; done)) (by rfl) (by rfl)
  · have h8 : pl < bm := by rcases Nat.lt_or_ge pl bm with z | z; (· exact z); (· first | exact absurd (nI_le z (by omega)) h8 | exact absurd (nI_le z (by omega)) (Int32.not_le.mpr h8))
    refine j_aload_n C dX7_next_11 rfl rfl ?_
    refine jg_LeaseBookModel_buffer C (by first | assumption | rfl | exact kd_sums (by assumption) | exact kd_st1 (by assumption) | exact kd_st2 (by assumption) | exact kd_ls (by first | assumption | rfl) (by assumption) | exact kd_sb (by first | assumption | rfl) (by assumption) | exact kd_sv (by assumption)) qf_X7_19 dX7_next_12 ?_
    refine j_aload_n C dX7_next_15 rfl rfl ?_
    refine jg_LeaseBookModel_place C (by first | assumption | rfl | exact kd_sums (by assumption) | exact kd_st1 (by assumption) | exact kd_st2 (by assumption) | exact kd_ls (by first | assumption | rfl) (by assumption) | exact kd_sb (by first | assumption | rfl) (by assumption) | exact kd_sv (by assumption)) qf_X7_117 dX7_next_16 ?_
    refine j_tope (y := nI pl) (by exact pS_7) ?_
    refine j_ialdN C (by first | assumption | rfl | exact kd_sums (by assumption) | exact kd_st1 (by assumption) | exact kd_st2 (by assumption) | exact kd_ls (by first | assumption | rfl) (by assumption) | exact kd_sb (by first | assumption | rfl) (by assumption) | exact kd_sv (by assumption)) rfl rfl (by omega) dX7_next_19 ?_
    refine j_goto (tgt := 24) C dX7_next_20 (by decide) ?_
    exact j_iret C dX7_next_24 (by unfold nx; first | (rw [if_pos h8]; rw [pS_o (by decide) (fun z => absurd z.1 (by decide))]; done) | (rw [if_neg h8]; done)) (by rfl) (by rfl)
set_option maxHeartbeats 4000000 in
theorem c_X7_takes {l : Launch} {g : GC} {V : Mem} {L : LMem} {pl q bm : Nat} {T : Nat → Int32} {x : Int32} (hb : V 224 5 = nI bm) (hbm : bm ≤ 60) (hpl : pl ≤ bm) : MC l yX7_takes cX7_takes 3 (some .boolean) 1 g (pS V (pl) (q) (T)) L [.ref (ad g 224), .int x] (some (.int (b2i (nx (V 228) bm pl = x)))) (pS V (if nx (V 228) bm pl = x then pl + 1 else pl) (q) (T)) L := by
  refine MC.of [some (.ref (ad g 224)), some (.int x), none] (by decide +kernel) rfl (Nat.le_of_ble_eq_true rfl) (fun p e s m args below meth c C => ?_)
  refine j_aload_n C dX7_takes_0 rfl rfl ?_
  refine j_callV0r C (oa_X7 (by first | assumption | rfl | exact kd_sums (by assumption) | exact kd_st1 (by assumption) | exact kd_st2 (by assumption) | exact kd_ls (by first | assumption | rfl) (by assumption) | exact kd_sb (by first | assumption | rfl) (by assumption) | exact kd_sv (by assumption))) rfl rfl (c_X7_next hb hbm hpl) qm_X7_120 qi_X7_next qs_X7_next qn_X7 qc_X7_next fit_X7_next ⟨Nat.le_of_ble_eq_true rfl, Nat.le_of_ble_eq_true rfl, Nat.le_of_ble_eq_true rfl, Nat.le_of_ble_eq_true rfl⟩ (Nat.le_of_ble_eq_true rfl) dX7_takes_1 ?_
  refine j_iload_n C dX7_takes_4 rfl rfl ?_
  refine j_icmp_ne (tgt := 12) C dX7_takes_5 (by decide) (fun h5 => ?_) (fun h5 => ?_)
  · refine j_iconst (v := (nI 0)) C dX7_takes_12 (by decide) ?_
    refine j_ist2 C dX7_takes_13 rfl (Nat.le_of_ble_eq_true rfl) rfl ?_
    refine j_aload_n C dX7_takes_14 rfl rfl ?_
    refine j_dup C dX7_takes_15 rfl ?_
    refine jg_LeaseBookModel_place C (by first | assumption | rfl | exact kd_sums (by assumption) | exact kd_st1 (by assumption) | exact kd_st2 (by assumption) | exact kd_ls (by first | assumption | rfl) (by assumption) | exact kd_sb (by first | assumption | rfl) (by assumption) | exact kd_sv (by assumption)) qf_X7_117 dX7_takes_16 ?_
    refine j_tope (y := nI pl) (by exact pS_7) ?_
    refine j_iload_n C dX7_takes_19 rfl rfl ?_
    refine j_if_eq (tgt := 27) C dX7_takes_20 (by decide) (fun h20 => ?_) (fun h20 => (by exact absurd h20 (by decide)))
    refine j_iconst (v := (nI 0)) C dX7_takes_27 (by decide) ?_
    refine j_iaddN C dX7_takes_28 ?_
    refine jp_LeaseBookModel_place C (by first | assumption | rfl | exact kd_sums (by assumption) | exact kd_st1 (by assumption) | exact kd_st2 (by assumption) | exact kd_ls (by first | assumption | rfl) (by assumption) | exact kd_sb (by first | assumption | rfl) (by assumption) | exact kd_sv (by assumption)) qf_X7_117 dX7_takes_29 ?_
    refine j_iload_n C dX7_takes_32 rfl rfl ?_
    exact j_zret C dX7_takes_33 (by first | rfl | exact nar_b2i) (by first | (refine b2i_t ?_; simp_all; done) | (refine b2i_f ?_; simp_all; done) | (refine b2i_t ?_; simp only [Int32.lt_iff_toInt_lt, Int32.le_iff_toInt_le] at *; omega) | (refine b2i_f ?_; simp only [Int32.lt_iff_toInt_lt, Int32.le_iff_toInt_le] at *; omega)) (by first | (rw [if_pos (by assumption)]; exact pS_put7) | (rw [if_neg (by assumption)]; exact pS_put7)) (by rfl)
  · refine j_iconst (v := (nI 1)) C dX7_takes_8 (by decide) ?_
    refine j_goto (tgt := 13) C dX7_takes_9 (by decide) ?_
    refine j_ist2 C dX7_takes_13 rfl (Nat.le_of_ble_eq_true rfl) rfl ?_
    refine j_aload_n C dX7_takes_14 rfl rfl ?_
    refine j_dup C dX7_takes_15 rfl ?_
    refine jg_LeaseBookModel_place C (by first | assumption | rfl | exact kd_sums (by assumption) | exact kd_st1 (by assumption) | exact kd_st2 (by assumption) | exact kd_ls (by first | assumption | rfl) (by assumption) | exact kd_sb (by first | assumption | rfl) (by assumption) | exact kd_sv (by assumption)) qf_X7_117 dX7_takes_16 ?_
    refine j_tope (y := nI pl) (by exact pS_7) ?_
    refine j_iload_n C dX7_takes_19 rfl rfl ?_
    refine j_if_eq (tgt := 27) C dX7_takes_20 (by decide) (fun h20 => (by exact absurd h20 (by decide))) (fun h20 => ?_)
    refine j_iconst (v := (nI 1)) C dX7_takes_23 (by decide) ?_
    refine j_goto (tgt := 28) C dX7_takes_24 (by decide) ?_
    refine j_iaddN C dX7_takes_28 ?_
    refine jp_LeaseBookModel_place C (by first | assumption | rfl | exact kd_sums (by assumption) | exact kd_st1 (by assumption) | exact kd_st2 (by assumption) | exact kd_ls (by first | assumption | rfl) (by assumption) | exact kd_sb (by first | assumption | rfl) (by assumption) | exact kd_sv (by assumption)) qf_X7_117 dX7_takes_29 ?_
    refine j_iload_n C dX7_takes_32 rfl rfl ?_
    exact j_zret C dX7_takes_33 (by first | rfl | exact nar_b2i) (by first | (refine b2i_t ?_; simp_all; done) | (refine b2i_f ?_; simp_all; done) | (refine b2i_t ?_; simp only [Int32.lt_iff_toInt_lt, Int32.le_iff_toInt_le] at *; omega) | (refine b2i_f ?_; simp only [Int32.lt_iff_toInt_lt, Int32.le_iff_toInt_le] at *; omega)) (by first | (rw [if_pos (by assumption)]; exact pS_put7) | (rw [if_neg (by assumption)]; exact pS_put7)) (by rfl)
theorem lx_X7_number {p : Program} {l : Launch} {e : Env} {s : State} {m : MethodId} {args : Array Value} {below : List Frame} {meth : Method} {c : Code} {g : GC} {Q : State → Prop} {V : Mem} {L : LMem} {lo hi : Nat} {v : Int32} (C : Cx p s args m meth c cX7_number 7 yX7_number.cls (some .int) g) (kx : J p l e (RM 1) s m args below meth c 7 g 0 0 Q V L 104 [some (.ref (ad g 224)), some (.int (nI lo)), some (.int (nI hi)), some (.int v), none, none, none] []) : J p l e (RM 1) s m args below meth c 7 g 0 0 Q V L 5 [some (.ref (ad g 224)), some (.int (nI lo)), some (.int (nI hi)), some (.int v), some (.int (nI 0)), none, none] [] := by
  refine j_iload C dX7_number_5 rfl ?_
  refine j_if_eq (tgt := 104) C dX7_number_7 (by decide) (fun h7 => ?_) (fun h7 => (by exact absurd h7 (by decide)))
  exact j_dr (lv' := [some (.ref (ad g 224)), some (.int (nI lo)), some (.int (nI hi)), some (.int v), none, none, none]) (And.intro rfl (And.intro rfl (And.intro rfl (And.intro rfl True.intro)))) kx
set_option maxHeartbeats 4000000 in
theorem lp_X7_number {p : Program} {l : Launch} {e : Env} {s : State} {m : MethodId} {args : Array Value} {below : List Frame} {meth : Method} {c : Code} {g : GC} {Q : State → Prop} {V : Mem} {L : LMem} {lo hi q bm : Nat} {T : Nat → Int32} (C : Cx p s args m meth c cX7_number 7 yX7_number.cls (some .int) g) (hb : V 224 5 = nI bm) (hbm : bm ≤ 60) (hlo : lo ≤ hi) (hhi : hi ≤ 100000) : ∀ (f : Nat) (v : Option Nat) (pl : Nat), pl ≤ bm → bm ≤ pl + f → (∀ a, v = some a → a ≤ hi) → (J p l e (RM 1) s m args below meth c 7 g 0 0 Q (pS V ((pNum (V 228) bm lo hi f v pl).2) (q) (T)) L 104 [some (.ref (ad g 224)), some (.int (nI lo)), some (.int (nI hi)), some (.int (oI (pNum (V 228) bm lo hi f v pl).1)), none, none, none] []) → J p l e (RM 1) s m args below meth c 7 g 0 0 Q (pS V (pl) (q) (T)) L 5 [some (.ref (ad g 224)), some (.int (nI lo)), some (.int (nI hi)), some (.int (oI v)), some (.int (nI 1)), none, none] [] := by
  intro f
  induction f with
  | zero =>
    intro v pl hpl hf hv kx
    cases v with
    | none =>
      refine j_iload C dX7_number_5 rfl ?_
      refine j_if_eq (tgt := 104) C dX7_number_7 (by decide) (fun h7 => (by exact absurd h7 (by decide))) (fun h7 => ?_)
      refine j_aload_n C dX7_number_10 rfl rfl ?_
      refine j_callV0r C (oa_X7 (by first | assumption | rfl | exact kd_sums (by assumption) | exact kd_st1 (by assumption) | exact kd_st2 (by assumption) | exact kd_ls (by first | assumption | rfl) (by assumption) | exact kd_sb (by first | assumption | rfl) (by assumption) | exact kd_sv (by assumption))) rfl rfl (c_X7_next hb hbm hpl) qm_X7_120 qi_X7_next qs_X7_next qn_X7 qc_X7_next fit_X7_next ⟨Nat.le_of_ble_eq_true rfl, Nat.le_of_ble_eq_true rfl, Nat.le_of_ble_eq_true rfl, Nat.le_of_ble_eq_true rfl⟩ (Nat.le_of_ble_eq_true rfl) dX7_number_11 ?_
      refine j_bipush (v := (nI 48)) C dX7_number_14 (by decide) ?_
      refine j_isub C dX7_number_16 ?_
      refine j_ist5 C dX7_number_17 (Nat.le_of_ble_eq_true rfl) rfl ?_
      refine j_iload_n C dX7_number_19 rfl rfl ?_
      refine j_iconst (v := (-1)) C dX7_number_20 (by decide) ?_
      refine j_icmp_ne (tgt := 29) C dX7_number_21 (by decide) (fun h21 => (by exact absurd rfl h21)) (fun h21 => ?_)
      refine j_iload C dX7_number_24 rfl ?_
      refine j_goto (tgt := 36) C dX7_number_26 (by decide) ?_
      refine j_ist6 C dX7_number_36 (Nat.le_of_ble_eq_true rfl) rfl ?_
      refine j_iload C dX7_number_38 rfl ?_
      refine j_iconst (v := (nI 0)) C dX7_number_40 (by decide) ?_
      refine j_bipush (v := (nI 9)) C dX7_number_41 (by decide) ?_
      refine j_callS3r C (c_X7_in) qm_X7_42 qt_X7_in qn_X7 qc_X7_in fit_X7_in ⟨Nat.le_of_ble_eq_true rfl, Nat.le_of_ble_eq_true rfl, Nat.le_of_ble_eq_true rfl, Nat.le_of_ble_eq_true rfl⟩ (Nat.le_of_ble_eq_true rfl) dX7_number_43 ?_
      refine j_if_eq (tgt := 67) C dX7_number_46 (by decide) (fun h46 => ?_) (fun h46 => ?_)
      · replace h46 := b2i_0 h46
        refine j_iconst (v := (nI 0)) C dX7_number_67 (by decide) ?_
        refine j_ist4 C dX7_number_68 (Nat.le_of_ble_eq_true rfl) rfl ?_
        refine j_iload C dX7_number_70 rfl ?_
        refine j_if_eq (tgt := 80) C dX7_number_72 (by decide) (fun h72 => ?_) (fun h72 => (by exact absurd h72 (by decide)))
        refine j_iload_n C dX7_number_80 rfl rfl ?_
        refine j_ist3 C dX7_number_81 rfl (Nat.le_of_ble_eq_true rfl) rfl ?_
        refine j_aload_n C dX7_number_82 rfl rfl ?_
        refine j_dup C dX7_number_83 rfl ?_
        refine jg_LeaseBookModel_place C (by first | assumption | rfl | exact kd_sums (by assumption) | exact kd_st1 (by assumption) | exact kd_st2 (by assumption) | exact kd_ls (by first | assumption | rfl) (by assumption) | exact kd_sb (by first | assumption | rfl) (by assumption) | exact kd_sv (by assumption)) qf_X7_117 dX7_number_84 ?_
        refine j_iload C dX7_number_87 rfl ?_
        refine j_if_eq (tgt := 96) C dX7_number_89 (by decide) (fun h89 => ?_) (fun h89 => (by exact absurd h89 (by decide)))
        refine j_iconst (v := (nI 0)) C dX7_number_96 (by decide) ?_
        refine j_iadd C dX7_number_97 ?_
        refine jp_LeaseBookModel_place C (by first | assumption | rfl | exact kd_sums (by assumption) | exact kd_st1 (by assumption) | exact kd_st2 (by assumption) | exact kd_ls (by first | assumption | rfl) (by assumption) | exact kd_sb (by first | assumption | rfl) (by assumption) | exact kd_sv (by assumption)) qf_X7_117 dX7_number_98 ?_
        refine j_goto (tgt := 5) C dX7_number_101 (by decide) ?_
        have hacc : pAcc (V 228) bm lo hi none pl = none := by
          unfold pAcc
          cases hdg : dg (V 228) bm pl with
          | none => rfl
          | some dn0 =>
            refine if_neg (fun z => ?_)
            obtain ⟨dn, hdn, hd, hdg2, hlt⟩ := dg_some (B := V 228) (bm := bm) (pl := pl) (Decidable.byContradiction fun z2 => by rw [dg_none z2] at hdg; cases hdg)
            cases hdg.symm.trans hdg2
            have hth : nx (V 228) bm pl - nI 48 = nI (pTh none dn0) := by rw [hd]; rfl
            first
            | exact absurd (show nI 0 ≤ nx (V 228) bm pl - nI 48 ∧ nx (V 228) bm pl - nI 48 ≤ nI 9 by rw [hd]; exact inN (by omega) (by omega) (by omega)) h46
            | (refine absurd ?_ h60; rw [hth]; exact inN z.2.1 z.2.2 (by omega))
        rw [pNum_none hacc] at kx
        refine j_mem (V' := (pS V (pl) (q) (T))) (L' := L) (by rw [pS_7]; exact (pS_put7).symm.trans (by rw [nI_add]; rfl)) rfl ?_
        refine j_dr (lv' := [some (.ref (ad g 224)), some (.int (nI lo)), some (.int (nI hi)), some (.int (oI none)), some (.int (nI 0)), none, none]) (And.intro rfl (And.intro rfl (And.intro rfl (And.intro rfl (And.intro rfl True.intro))))) (lx_X7_number C kx)
      · replace h46 := b2i_1 h46
        refine j_iload_n C dX7_number_49 rfl rfl ?_
        refine j_if_eq (tgt := 67) C dX7_number_50 (by decide) (fun h50 => (by exact absurd h50 (by decide))) (fun h50 => ?_)
        refine j_iload C dX7_number_53 rfl ?_
        refine j_iload_n C dX7_number_55 rfl rfl ?_
        refine j_iload_n C dX7_number_56 rfl rfl ?_
        refine j_callS3r C (c_X7_in) qm_X7_42 qt_X7_in qn_X7 qc_X7_in fit_X7_in ⟨Nat.le_of_ble_eq_true rfl, Nat.le_of_ble_eq_true rfl, Nat.le_of_ble_eq_true rfl, Nat.le_of_ble_eq_true rfl⟩ (Nat.le_of_ble_eq_true rfl) dX7_number_57 ?_
        refine j_if_eq (tgt := 67) C dX7_number_60 (by decide) (fun h60 => ?_) (fun h60 => ?_)
        · replace h60 := b2i_0 h60
          refine j_iconst (v := (nI 0)) C dX7_number_67 (by decide) ?_
          refine j_ist4 C dX7_number_68 (Nat.le_of_ble_eq_true rfl) rfl ?_
          refine j_iload C dX7_number_70 rfl ?_
          refine j_if_eq (tgt := 80) C dX7_number_72 (by decide) (fun h72 => ?_) (fun h72 => (by exact absurd h72 (by decide)))
          refine j_iload_n C dX7_number_80 rfl rfl ?_
          refine j_ist3 C dX7_number_81 rfl (Nat.le_of_ble_eq_true rfl) rfl ?_
          refine j_aload_n C dX7_number_82 rfl rfl ?_
          refine j_dup C dX7_number_83 rfl ?_
          refine jg_LeaseBookModel_place C (by first | assumption | rfl | exact kd_sums (by assumption) | exact kd_st1 (by assumption) | exact kd_st2 (by assumption) | exact kd_ls (by first | assumption | rfl) (by assumption) | exact kd_sb (by first | assumption | rfl) (by assumption) | exact kd_sv (by assumption)) qf_X7_117 dX7_number_84 ?_
          refine j_iload C dX7_number_87 rfl ?_
          refine j_if_eq (tgt := 96) C dX7_number_89 (by decide) (fun h89 => ?_) (fun h89 => (by exact absurd h89 (by decide)))
          refine j_iconst (v := (nI 0)) C dX7_number_96 (by decide) ?_
          refine j_iadd C dX7_number_97 ?_
          refine jp_LeaseBookModel_place C (by first | assumption | rfl | exact kd_sums (by assumption) | exact kd_st1 (by assumption) | exact kd_st2 (by assumption) | exact kd_ls (by first | assumption | rfl) (by assumption) | exact kd_sb (by first | assumption | rfl) (by assumption) | exact kd_sv (by assumption)) qf_X7_117 dX7_number_98 ?_
          refine j_goto (tgt := 5) C dX7_number_101 (by decide) ?_
          have hacc : pAcc (V 228) bm lo hi none pl = none := by
            unfold pAcc
            cases hdg : dg (V 228) bm pl with
            | none => rfl
            | some dn0 =>
              refine if_neg (fun z => ?_)
              obtain ⟨dn, hdn, hd, hdg2, hlt⟩ := dg_some (B := V 228) (bm := bm) (pl := pl) (Decidable.byContradiction fun z2 => by rw [dg_none z2] at hdg; cases hdg)
              cases hdg.symm.trans hdg2
              have hth : nx (V 228) bm pl - nI 48 = nI (pTh none dn0) := by rw [hd]; rfl
              first
              | exact absurd (show nI 0 ≤ nx (V 228) bm pl - nI 48 ∧ nx (V 228) bm pl - nI 48 ≤ nI 9 by rw [hd]; exact inN (by omega) (by omega) (by omega)) h46
              | (refine absurd ?_ h60; rw [hth]; exact inN z.2.1 z.2.2 (by omega))
          rw [pNum_none hacc] at kx
          refine j_mem (V' := (pS V (pl) (q) (T))) (L' := L) (by rw [pS_7]; exact (pS_put7).symm.trans (by rw [nI_add]; rfl)) rfl ?_
          refine j_dr (lv' := [some (.ref (ad g 224)), some (.int (nI lo)), some (.int (nI hi)), some (.int (oI none)), some (.int (nI 0)), none, none]) (And.intro rfl (And.intro rfl (And.intro rfl (And.intro rfl (And.intro rfl True.intro))))) (lx_X7_number C kx)
        · replace h60 := b2i_1 h60
          refine j_iconst (v := (nI 1)) C dX7_number_63 (by decide) ?_
          refine j_goto (tgt := 68) C dX7_number_64 (by decide) ?_
          refine j_ist4 C dX7_number_68 (Nat.le_of_ble_eq_true rfl) rfl ?_
          refine j_iload C dX7_number_70 rfl ?_
          refine j_if_eq (tgt := 80) C dX7_number_72 (by decide) (fun h72 => (by exact absurd h72 (by decide))) (fun h72 => ?_)
          refine j_iload C dX7_number_75 rfl ?_
          refine j_goto (tgt := 81) C dX7_number_77 (by decide) ?_
          refine j_ist3 C dX7_number_81 rfl (Nat.le_of_ble_eq_true rfl) rfl ?_
          refine j_aload_n C dX7_number_82 rfl rfl ?_
          refine j_dup C dX7_number_83 rfl ?_
          refine jg_LeaseBookModel_place C (by first | assumption | rfl | exact kd_sums (by assumption) | exact kd_st1 (by assumption) | exact kd_st2 (by assumption) | exact kd_ls (by first | assumption | rfl) (by assumption) | exact kd_sb (by first | assumption | rfl) (by assumption) | exact kd_sv (by assumption)) qf_X7_117 dX7_number_84 ?_
          refine j_iload C dX7_number_87 rfl ?_
          refine j_if_eq (tgt := 96) C dX7_number_89 (by decide) (fun h89 => (by exact absurd h89 (by decide))) (fun h89 => ?_)
          refine j_iconst (v := (nI 1)) C dX7_number_92 (by decide) ?_
          refine j_goto (tgt := 97) C dX7_number_93 (by decide) ?_
          refine j_iadd C dX7_number_97 ?_
          refine jp_LeaseBookModel_place C (by first | assumption | rfl | exact kd_sums (by assumption) | exact kd_st1 (by assumption) | exact kd_st2 (by assumption) | exact kd_ls (by first | assumption | rfl) (by assumption) | exact kd_sb (by first | assumption | rfl) (by assumption) | exact kd_sv (by assumption)) qf_X7_117 dX7_number_98 ?_
          refine j_goto (tgt := 5) C dX7_number_101 (by decide) ?_
          exfalso
          obtain ⟨dn, hdn, hd, hdg, hlt⟩ := dg_some h46
          omega
    | some a =>
      refine j_iload C dX7_number_5 rfl ?_
      refine j_if_eq (tgt := 104) C dX7_number_7 (by decide) (fun h7 => (by exact absurd h7 (by decide))) (fun h7 => ?_)
      refine j_aload_n C dX7_number_10 rfl rfl ?_
      refine j_callV0r C (oa_X7 (by first | assumption | rfl | exact kd_sums (by assumption) | exact kd_st1 (by assumption) | exact kd_st2 (by assumption) | exact kd_ls (by first | assumption | rfl) (by assumption) | exact kd_sb (by first | assumption | rfl) (by assumption) | exact kd_sv (by assumption))) rfl rfl (c_X7_next hb hbm hpl) qm_X7_120 qi_X7_next qs_X7_next qn_X7 qc_X7_next fit_X7_next ⟨Nat.le_of_ble_eq_true rfl, Nat.le_of_ble_eq_true rfl, Nat.le_of_ble_eq_true rfl, Nat.le_of_ble_eq_true rfl⟩ (Nat.le_of_ble_eq_true rfl) dX7_number_11 ?_
      refine j_bipush (v := (nI 48)) C dX7_number_14 (by decide) ?_
      refine j_isub C dX7_number_16 ?_
      refine j_ist5 C dX7_number_17 (Nat.le_of_ble_eq_true rfl) rfl ?_
      refine j_iload_n C dX7_number_19 rfl rfl ?_
      refine j_iconst (v := (-1)) C dX7_number_20 (by decide) ?_
      refine j_icmp_ne (tgt := 29) C dX7_number_21 (by decide) (fun h21 => ?_) (fun h21 => (by exact absurd h21 (oI_ne (by have ha := hv a rfl; omega))))
      refine j_bipush (v := (nI 10)) C dX7_number_29 (by decide) ?_
      refine j_iload_n C dX7_number_31 rfl rfl ?_
      refine j_imul C dX7_number_32 ?_
      refine j_iload C dX7_number_33 rfl ?_
      refine j_iadd C dX7_number_35 ?_
      refine j_ist6 C dX7_number_36 (Nat.le_of_ble_eq_true rfl) rfl ?_
      refine j_iload C dX7_number_38 rfl ?_
      refine j_iconst (v := (nI 0)) C dX7_number_40 (by decide) ?_
      refine j_bipush (v := (nI 9)) C dX7_number_41 (by decide) ?_
      refine j_callS3r C (c_X7_in) qm_X7_42 qt_X7_in qn_X7 qc_X7_in fit_X7_in ⟨Nat.le_of_ble_eq_true rfl, Nat.le_of_ble_eq_true rfl, Nat.le_of_ble_eq_true rfl, Nat.le_of_ble_eq_true rfl⟩ (Nat.le_of_ble_eq_true rfl) dX7_number_43 ?_
      refine j_if_eq (tgt := 67) C dX7_number_46 (by decide) (fun h46 => ?_) (fun h46 => ?_)
      · replace h46 := b2i_0 h46
        refine j_iconst (v := (nI 0)) C dX7_number_67 (by decide) ?_
        refine j_ist4 C dX7_number_68 (Nat.le_of_ble_eq_true rfl) rfl ?_
        refine j_iload C dX7_number_70 rfl ?_
        refine j_if_eq (tgt := 80) C dX7_number_72 (by decide) (fun h72 => ?_) (fun h72 => (by exact absurd h72 (by decide)))
        refine j_iload_n C dX7_number_80 rfl rfl ?_
        refine j_ist3 C dX7_number_81 rfl (Nat.le_of_ble_eq_true rfl) rfl ?_
        refine j_aload_n C dX7_number_82 rfl rfl ?_
        refine j_dup C dX7_number_83 rfl ?_
        refine jg_LeaseBookModel_place C (by first | assumption | rfl | exact kd_sums (by assumption) | exact kd_st1 (by assumption) | exact kd_st2 (by assumption) | exact kd_ls (by first | assumption | rfl) (by assumption) | exact kd_sb (by first | assumption | rfl) (by assumption) | exact kd_sv (by assumption)) qf_X7_117 dX7_number_84 ?_
        refine j_iload C dX7_number_87 rfl ?_
        refine j_if_eq (tgt := 96) C dX7_number_89 (by decide) (fun h89 => ?_) (fun h89 => (by exact absurd h89 (by decide)))
        refine j_iconst (v := (nI 0)) C dX7_number_96 (by decide) ?_
        refine j_iadd C dX7_number_97 ?_
        refine jp_LeaseBookModel_place C (by first | assumption | rfl | exact kd_sums (by assumption) | exact kd_st1 (by assumption) | exact kd_st2 (by assumption) | exact kd_ls (by first | assumption | rfl) (by assumption) | exact kd_sb (by first | assumption | rfl) (by assumption) | exact kd_sv (by assumption)) qf_X7_117 dX7_number_98 ?_
        refine j_goto (tgt := 5) C dX7_number_101 (by decide) ?_
        have hacc : pAcc (V 228) bm lo hi (some a) pl = none := by
          unfold pAcc
          cases hdg : dg (V 228) bm pl with
          | none => rfl
          | some dn0 =>
            refine if_neg (fun z => ?_)
            obtain ⟨dn, hdn, hd, hdg2, hlt⟩ := dg_some (B := V 228) (bm := bm) (pl := pl) (Decidable.byContradiction fun z2 => by rw [dg_none z2] at hdg; cases hdg)
            cases hdg.symm.trans hdg2
            have ha := hv a rfl
            have hth : nI 10 * oI (some a) + (nx (V 228) bm pl - nI 48) = nI (pTh (some a) dn0) := by rw [hd]; show nI 10 * nI a + nI dn0 = _; rw [pk_mul, nI_add]; rfl
            first
            | exact absurd (show nI 0 ≤ nx (V 228) bm pl - nI 48 ∧ nx (V 228) bm pl - nI 48 ≤ nI 9 by rw [hd]; exact inN (by omega) (by omega) (by omega)) h46
            | exact z.1 (by have h50' : nI a = nI 0 := h50; rw [(nI_eq (by omega) (by omega)).mp h50'])
            | (refine absurd ?_ h60; rw [hth]; exact inN z.2.1 z.2.2 (by omega))
        rw [pNum_none hacc] at kx
        refine j_mem (V' := (pS V (pl) (q) (T))) (L' := L) (by rw [pS_7]; exact (pS_put7).symm.trans (by rw [nI_add]; rfl)) rfl ?_
        refine j_dr (lv' := [some (.ref (ad g 224)), some (.int (nI lo)), some (.int (nI hi)), some (.int (oI (some a))), some (.int (nI 0)), none, none]) (And.intro rfl (And.intro rfl (And.intro rfl (And.intro rfl (And.intro rfl True.intro))))) (lx_X7_number C kx)
      · replace h46 := b2i_1 h46
        refine j_iload_n C dX7_number_49 rfl rfl ?_
        refine j_if_eq (tgt := 67) C dX7_number_50 (by decide) (fun h50 => ?_) (fun h50 => ?_)
        · refine j_iconst (v := (nI 0)) C dX7_number_67 (by decide) ?_
          refine j_ist4 C dX7_number_68 (Nat.le_of_ble_eq_true rfl) rfl ?_
          refine j_iload C dX7_number_70 rfl ?_
          refine j_if_eq (tgt := 80) C dX7_number_72 (by decide) (fun h72 => ?_) (fun h72 => (by exact absurd h72 (by decide)))
          refine j_iload_n C dX7_number_80 rfl rfl ?_
          refine j_ist3 C dX7_number_81 rfl (Nat.le_of_ble_eq_true rfl) rfl ?_
          refine j_aload_n C dX7_number_82 rfl rfl ?_
          refine j_dup C dX7_number_83 rfl ?_
          refine jg_LeaseBookModel_place C (by first | assumption | rfl | exact kd_sums (by assumption) | exact kd_st1 (by assumption) | exact kd_st2 (by assumption) | exact kd_ls (by first | assumption | rfl) (by assumption) | exact kd_sb (by first | assumption | rfl) (by assumption) | exact kd_sv (by assumption)) qf_X7_117 dX7_number_84 ?_
          refine j_iload C dX7_number_87 rfl ?_
          refine j_if_eq (tgt := 96) C dX7_number_89 (by decide) (fun h89 => ?_) (fun h89 => (by exact absurd h89 (by decide)))
          refine j_iconst (v := (nI 0)) C dX7_number_96 (by decide) ?_
          refine j_iadd C dX7_number_97 ?_
          refine jp_LeaseBookModel_place C (by first | assumption | rfl | exact kd_sums (by assumption) | exact kd_st1 (by assumption) | exact kd_st2 (by assumption) | exact kd_ls (by first | assumption | rfl) (by assumption) | exact kd_sb (by first | assumption | rfl) (by assumption) | exact kd_sv (by assumption)) qf_X7_117 dX7_number_98 ?_
          refine j_goto (tgt := 5) C dX7_number_101 (by decide) ?_
          have hacc : pAcc (V 228) bm lo hi (some a) pl = none := by
            unfold pAcc
            cases hdg : dg (V 228) bm pl with
            | none => rfl
            | some dn0 =>
              refine if_neg (fun z => ?_)
              obtain ⟨dn, hdn, hd, hdg2, hlt⟩ := dg_some (B := V 228) (bm := bm) (pl := pl) (Decidable.byContradiction fun z2 => by rw [dg_none z2] at hdg; cases hdg)
              cases hdg.symm.trans hdg2
              have ha := hv a rfl
              have hth : nI 10 * oI (some a) + (nx (V 228) bm pl - nI 48) = nI (pTh (some a) dn0) := by rw [hd]; show nI 10 * nI a + nI dn0 = _; rw [pk_mul, nI_add]; rfl
              first
              | exact absurd (show nI 0 ≤ nx (V 228) bm pl - nI 48 ∧ nx (V 228) bm pl - nI 48 ≤ nI 9 by rw [hd]; exact inN (by omega) (by omega) (by omega)) h46
              | exact z.1 (by have h50' : nI a = nI 0 := h50; rw [(nI_eq (by omega) (by omega)).mp h50'])
              | (refine absurd ?_ h60; rw [hth]; exact inN z.2.1 z.2.2 (by omega))
          rw [pNum_none hacc] at kx
          refine j_mem (V' := (pS V (pl) (q) (T))) (L' := L) (by rw [pS_7]; exact (pS_put7).symm.trans (by rw [nI_add]; rfl)) rfl ?_
          refine j_dr (lv' := [some (.ref (ad g 224)), some (.int (nI lo)), some (.int (nI hi)), some (.int (oI (some a))), some (.int (nI 0)), none, none]) (And.intro rfl (And.intro rfl (And.intro rfl (And.intro rfl (And.intro rfl True.intro))))) (lx_X7_number C kx)
        · refine j_iload C dX7_number_53 rfl ?_
          refine j_iload_n C dX7_number_55 rfl rfl ?_
          refine j_iload_n C dX7_number_56 rfl rfl ?_
          refine j_callS3r C (c_X7_in) qm_X7_42 qt_X7_in qn_X7 qc_X7_in fit_X7_in ⟨Nat.le_of_ble_eq_true rfl, Nat.le_of_ble_eq_true rfl, Nat.le_of_ble_eq_true rfl, Nat.le_of_ble_eq_true rfl⟩ (Nat.le_of_ble_eq_true rfl) dX7_number_57 ?_
          refine j_if_eq (tgt := 67) C dX7_number_60 (by decide) (fun h60 => ?_) (fun h60 => ?_)
          · replace h60 := b2i_0 h60
            refine j_iconst (v := (nI 0)) C dX7_number_67 (by decide) ?_
            refine j_ist4 C dX7_number_68 (Nat.le_of_ble_eq_true rfl) rfl ?_
            refine j_iload C dX7_number_70 rfl ?_
            refine j_if_eq (tgt := 80) C dX7_number_72 (by decide) (fun h72 => ?_) (fun h72 => (by exact absurd h72 (by decide)))
            refine j_iload_n C dX7_number_80 rfl rfl ?_
            refine j_ist3 C dX7_number_81 rfl (Nat.le_of_ble_eq_true rfl) rfl ?_
            refine j_aload_n C dX7_number_82 rfl rfl ?_
            refine j_dup C dX7_number_83 rfl ?_
            refine jg_LeaseBookModel_place C (by first | assumption | rfl | exact kd_sums (by assumption) | exact kd_st1 (by assumption) | exact kd_st2 (by assumption) | exact kd_ls (by first | assumption | rfl) (by assumption) | exact kd_sb (by first | assumption | rfl) (by assumption) | exact kd_sv (by assumption)) qf_X7_117 dX7_number_84 ?_
            refine j_iload C dX7_number_87 rfl ?_
            refine j_if_eq (tgt := 96) C dX7_number_89 (by decide) (fun h89 => ?_) (fun h89 => (by exact absurd h89 (by decide)))
            refine j_iconst (v := (nI 0)) C dX7_number_96 (by decide) ?_
            refine j_iadd C dX7_number_97 ?_
            refine jp_LeaseBookModel_place C (by first | assumption | rfl | exact kd_sums (by assumption) | exact kd_st1 (by assumption) | exact kd_st2 (by assumption) | exact kd_ls (by first | assumption | rfl) (by assumption) | exact kd_sb (by first | assumption | rfl) (by assumption) | exact kd_sv (by assumption)) qf_X7_117 dX7_number_98 ?_
            refine j_goto (tgt := 5) C dX7_number_101 (by decide) ?_
            have hacc : pAcc (V 228) bm lo hi (some a) pl = none := by
              unfold pAcc
              cases hdg : dg (V 228) bm pl with
              | none => rfl
              | some dn0 =>
                refine if_neg (fun z => ?_)
                obtain ⟨dn, hdn, hd, hdg2, hlt⟩ := dg_some (B := V 228) (bm := bm) (pl := pl) (Decidable.byContradiction fun z2 => by rw [dg_none z2] at hdg; cases hdg)
                cases hdg.symm.trans hdg2
                have ha := hv a rfl
                have hth : nI 10 * oI (some a) + (nx (V 228) bm pl - nI 48) = nI (pTh (some a) dn0) := by rw [hd]; show nI 10 * nI a + nI dn0 = _; rw [pk_mul, nI_add]; rfl
                first
                | exact absurd (show nI 0 ≤ nx (V 228) bm pl - nI 48 ∧ nx (V 228) bm pl - nI 48 ≤ nI 9 by rw [hd]; exact inN (by omega) (by omega) (by omega)) h46
                | exact z.1 (by have h50' : nI a = nI 0 := h50; rw [(nI_eq (by omega) (by omega)).mp h50'])
                | (refine absurd ?_ h60; rw [hth]; exact inN z.2.1 z.2.2 (by omega))
            rw [pNum_none hacc] at kx
            refine j_mem (V' := (pS V (pl) (q) (T))) (L' := L) (by rw [pS_7]; exact (pS_put7).symm.trans (by rw [nI_add]; rfl)) rfl ?_
            refine j_dr (lv' := [some (.ref (ad g 224)), some (.int (nI lo)), some (.int (nI hi)), some (.int (oI (some a))), some (.int (nI 0)), none, none]) (And.intro rfl (And.intro rfl (And.intro rfl (And.intro rfl (And.intro rfl True.intro))))) (lx_X7_number C kx)
          · replace h60 := b2i_1 h60
            refine j_iconst (v := (nI 1)) C dX7_number_63 (by decide) ?_
            refine j_goto (tgt := 68) C dX7_number_64 (by decide) ?_
            refine j_ist4 C dX7_number_68 (Nat.le_of_ble_eq_true rfl) rfl ?_
            refine j_iload C dX7_number_70 rfl ?_
            refine j_if_eq (tgt := 80) C dX7_number_72 (by decide) (fun h72 => (by exact absurd h72 (by decide))) (fun h72 => ?_)
            refine j_iload C dX7_number_75 rfl ?_
            refine j_goto (tgt := 81) C dX7_number_77 (by decide) ?_
            refine j_ist3 C dX7_number_81 rfl (Nat.le_of_ble_eq_true rfl) rfl ?_
            refine j_aload_n C dX7_number_82 rfl rfl ?_
            refine j_dup C dX7_number_83 rfl ?_
            refine jg_LeaseBookModel_place C (by first | assumption | rfl | exact kd_sums (by assumption) | exact kd_st1 (by assumption) | exact kd_st2 (by assumption) | exact kd_ls (by first | assumption | rfl) (by assumption) | exact kd_sb (by first | assumption | rfl) (by assumption) | exact kd_sv (by assumption)) qf_X7_117 dX7_number_84 ?_
            refine j_iload C dX7_number_87 rfl ?_
            refine j_if_eq (tgt := 96) C dX7_number_89 (by decide) (fun h89 => (by exact absurd h89 (by decide))) (fun h89 => ?_)
            refine j_iconst (v := (nI 1)) C dX7_number_92 (by decide) ?_
            refine j_goto (tgt := 97) C dX7_number_93 (by decide) ?_
            refine j_iadd C dX7_number_97 ?_
            refine jp_LeaseBookModel_place C (by first | assumption | rfl | exact kd_sums (by assumption) | exact kd_st1 (by assumption) | exact kd_st2 (by assumption) | exact kd_ls (by first | assumption | rfl) (by assumption) | exact kd_sb (by first | assumption | rfl) (by assumption) | exact kd_sv (by assumption)) qf_X7_117 dX7_number_98 ?_
            refine j_goto (tgt := 5) C dX7_number_101 (by decide) ?_
            exfalso
            obtain ⟨dn, hdn, hd, hdg, hlt⟩ := dg_some h46
            omega
  | succ f ih =>
    intro v pl hpl hf hv kx
    cases v with
    | none =>
      refine j_iload C dX7_number_5 rfl ?_
      refine j_if_eq (tgt := 104) C dX7_number_7 (by decide) (fun h7 => (by exact absurd h7 (by decide))) (fun h7 => ?_)
      refine j_aload_n C dX7_number_10 rfl rfl ?_
      refine j_callV0r C (oa_X7 (by first | assumption | rfl | exact kd_sums (by assumption) | exact kd_st1 (by assumption) | exact kd_st2 (by assumption) | exact kd_ls (by first | assumption | rfl) (by assumption) | exact kd_sb (by first | assumption | rfl) (by assumption) | exact kd_sv (by assumption))) rfl rfl (c_X7_next hb hbm hpl) qm_X7_120 qi_X7_next qs_X7_next qn_X7 qc_X7_next fit_X7_next ⟨Nat.le_of_ble_eq_true rfl, Nat.le_of_ble_eq_true rfl, Nat.le_of_ble_eq_true rfl, Nat.le_of_ble_eq_true rfl⟩ (Nat.le_of_ble_eq_true rfl) dX7_number_11 ?_
      refine j_bipush (v := (nI 48)) C dX7_number_14 (by decide) ?_
      refine j_isub C dX7_number_16 ?_
      refine j_ist5 C dX7_number_17 (Nat.le_of_ble_eq_true rfl) rfl ?_
      refine j_iload_n C dX7_number_19 rfl rfl ?_
      refine j_iconst (v := (-1)) C dX7_number_20 (by decide) ?_
      refine j_icmp_ne (tgt := 29) C dX7_number_21 (by decide) (fun h21 => (by exact absurd rfl h21)) (fun h21 => ?_)
      refine j_iload C dX7_number_24 rfl ?_
      refine j_goto (tgt := 36) C dX7_number_26 (by decide) ?_
      refine j_ist6 C dX7_number_36 (Nat.le_of_ble_eq_true rfl) rfl ?_
      refine j_iload C dX7_number_38 rfl ?_
      refine j_iconst (v := (nI 0)) C dX7_number_40 (by decide) ?_
      refine j_bipush (v := (nI 9)) C dX7_number_41 (by decide) ?_
      refine j_callS3r C (c_X7_in) qm_X7_42 qt_X7_in qn_X7 qc_X7_in fit_X7_in ⟨Nat.le_of_ble_eq_true rfl, Nat.le_of_ble_eq_true rfl, Nat.le_of_ble_eq_true rfl, Nat.le_of_ble_eq_true rfl⟩ (Nat.le_of_ble_eq_true rfl) dX7_number_43 ?_
      refine j_if_eq (tgt := 67) C dX7_number_46 (by decide) (fun h46 => ?_) (fun h46 => ?_)
      · replace h46 := b2i_0 h46
        refine j_iconst (v := (nI 0)) C dX7_number_67 (by decide) ?_
        refine j_ist4 C dX7_number_68 (Nat.le_of_ble_eq_true rfl) rfl ?_
        refine j_iload C dX7_number_70 rfl ?_
        refine j_if_eq (tgt := 80) C dX7_number_72 (by decide) (fun h72 => ?_) (fun h72 => (by exact absurd h72 (by decide)))
        refine j_iload_n C dX7_number_80 rfl rfl ?_
        refine j_ist3 C dX7_number_81 rfl (Nat.le_of_ble_eq_true rfl) rfl ?_
        refine j_aload_n C dX7_number_82 rfl rfl ?_
        refine j_dup C dX7_number_83 rfl ?_
        refine jg_LeaseBookModel_place C (by first | assumption | rfl | exact kd_sums (by assumption) | exact kd_st1 (by assumption) | exact kd_st2 (by assumption) | exact kd_ls (by first | assumption | rfl) (by assumption) | exact kd_sb (by first | assumption | rfl) (by assumption) | exact kd_sv (by assumption)) qf_X7_117 dX7_number_84 ?_
        refine j_iload C dX7_number_87 rfl ?_
        refine j_if_eq (tgt := 96) C dX7_number_89 (by decide) (fun h89 => ?_) (fun h89 => (by exact absurd h89 (by decide)))
        refine j_iconst (v := (nI 0)) C dX7_number_96 (by decide) ?_
        refine j_iadd C dX7_number_97 ?_
        refine jp_LeaseBookModel_place C (by first | assumption | rfl | exact kd_sums (by assumption) | exact kd_st1 (by assumption) | exact kd_st2 (by assumption) | exact kd_ls (by first | assumption | rfl) (by assumption) | exact kd_sb (by first | assumption | rfl) (by assumption) | exact kd_sv (by assumption)) qf_X7_117 dX7_number_98 ?_
        refine j_goto (tgt := 5) C dX7_number_101 (by decide) ?_
        have hacc : pAcc (V 228) bm lo hi none pl = none := by
          unfold pAcc
          cases hdg : dg (V 228) bm pl with
          | none => rfl
          | some dn0 =>
            refine if_neg (fun z => ?_)
            obtain ⟨dn, hdn, hd, hdg2, hlt⟩ := dg_some (B := V 228) (bm := bm) (pl := pl) (Decidable.byContradiction fun z2 => by rw [dg_none z2] at hdg; cases hdg)
            cases hdg.symm.trans hdg2
            have hth : nx (V 228) bm pl - nI 48 = nI (pTh none dn0) := by rw [hd]; rfl
            first
            | exact absurd (show nI 0 ≤ nx (V 228) bm pl - nI 48 ∧ nx (V 228) bm pl - nI 48 ≤ nI 9 by rw [hd]; exact inN (by omega) (by omega) (by omega)) h46
            | (refine absurd ?_ h60; rw [hth]; exact inN z.2.1 z.2.2 (by omega))
        rw [pNum_none hacc] at kx
        refine j_mem (V' := (pS V (pl) (q) (T))) (L' := L) (by rw [pS_7]; exact (pS_put7).symm.trans (by rw [nI_add]; rfl)) rfl ?_
        refine j_dr (lv' := [some (.ref (ad g 224)), some (.int (nI lo)), some (.int (nI hi)), some (.int (oI none)), some (.int (nI 0)), none, none]) (And.intro rfl (And.intro rfl (And.intro rfl (And.intro rfl (And.intro rfl True.intro))))) (lx_X7_number C kx)
      · replace h46 := b2i_1 h46
        refine j_iload_n C dX7_number_49 rfl rfl ?_
        refine j_if_eq (tgt := 67) C dX7_number_50 (by decide) (fun h50 => (by exact absurd h50 (by decide))) (fun h50 => ?_)
        refine j_iload C dX7_number_53 rfl ?_
        refine j_iload_n C dX7_number_55 rfl rfl ?_
        refine j_iload_n C dX7_number_56 rfl rfl ?_
        refine j_callS3r C (c_X7_in) qm_X7_42 qt_X7_in qn_X7 qc_X7_in fit_X7_in ⟨Nat.le_of_ble_eq_true rfl, Nat.le_of_ble_eq_true rfl, Nat.le_of_ble_eq_true rfl, Nat.le_of_ble_eq_true rfl⟩ (Nat.le_of_ble_eq_true rfl) dX7_number_57 ?_
        refine j_if_eq (tgt := 67) C dX7_number_60 (by decide) (fun h60 => ?_) (fun h60 => ?_)
        · replace h60 := b2i_0 h60
          refine j_iconst (v := (nI 0)) C dX7_number_67 (by decide) ?_
          refine j_ist4 C dX7_number_68 (Nat.le_of_ble_eq_true rfl) rfl ?_
          refine j_iload C dX7_number_70 rfl ?_
          refine j_if_eq (tgt := 80) C dX7_number_72 (by decide) (fun h72 => ?_) (fun h72 => (by exact absurd h72 (by decide)))
          refine j_iload_n C dX7_number_80 rfl rfl ?_
          refine j_ist3 C dX7_number_81 rfl (Nat.le_of_ble_eq_true rfl) rfl ?_
          refine j_aload_n C dX7_number_82 rfl rfl ?_
          refine j_dup C dX7_number_83 rfl ?_
          refine jg_LeaseBookModel_place C (by first | assumption | rfl | exact kd_sums (by assumption) | exact kd_st1 (by assumption) | exact kd_st2 (by assumption) | exact kd_ls (by first | assumption | rfl) (by assumption) | exact kd_sb (by first | assumption | rfl) (by assumption) | exact kd_sv (by assumption)) qf_X7_117 dX7_number_84 ?_
          refine j_iload C dX7_number_87 rfl ?_
          refine j_if_eq (tgt := 96) C dX7_number_89 (by decide) (fun h89 => ?_) (fun h89 => (by exact absurd h89 (by decide)))
          refine j_iconst (v := (nI 0)) C dX7_number_96 (by decide) ?_
          refine j_iadd C dX7_number_97 ?_
          refine jp_LeaseBookModel_place C (by first | assumption | rfl | exact kd_sums (by assumption) | exact kd_st1 (by assumption) | exact kd_st2 (by assumption) | exact kd_ls (by first | assumption | rfl) (by assumption) | exact kd_sb (by first | assumption | rfl) (by assumption) | exact kd_sv (by assumption)) qf_X7_117 dX7_number_98 ?_
          refine j_goto (tgt := 5) C dX7_number_101 (by decide) ?_
          have hacc : pAcc (V 228) bm lo hi none pl = none := by
            unfold pAcc
            cases hdg : dg (V 228) bm pl with
            | none => rfl
            | some dn0 =>
              refine if_neg (fun z => ?_)
              obtain ⟨dn, hdn, hd, hdg2, hlt⟩ := dg_some (B := V 228) (bm := bm) (pl := pl) (Decidable.byContradiction fun z2 => by rw [dg_none z2] at hdg; cases hdg)
              cases hdg.symm.trans hdg2
              have hth : nx (V 228) bm pl - nI 48 = nI (pTh none dn0) := by rw [hd]; rfl
              first
              | exact absurd (show nI 0 ≤ nx (V 228) bm pl - nI 48 ∧ nx (V 228) bm pl - nI 48 ≤ nI 9 by rw [hd]; exact inN (by omega) (by omega) (by omega)) h46
              | (refine absurd ?_ h60; rw [hth]; exact inN z.2.1 z.2.2 (by omega))
          rw [pNum_none hacc] at kx
          refine j_mem (V' := (pS V (pl) (q) (T))) (L' := L) (by rw [pS_7]; exact (pS_put7).symm.trans (by rw [nI_add]; rfl)) rfl ?_
          refine j_dr (lv' := [some (.ref (ad g 224)), some (.int (nI lo)), some (.int (nI hi)), some (.int (oI none)), some (.int (nI 0)), none, none]) (And.intro rfl (And.intro rfl (And.intro rfl (And.intro rfl (And.intro rfl True.intro))))) (lx_X7_number C kx)
        · replace h60 := b2i_1 h60
          refine j_iconst (v := (nI 1)) C dX7_number_63 (by decide) ?_
          refine j_goto (tgt := 68) C dX7_number_64 (by decide) ?_
          refine j_ist4 C dX7_number_68 (Nat.le_of_ble_eq_true rfl) rfl ?_
          refine j_iload C dX7_number_70 rfl ?_
          refine j_if_eq (tgt := 80) C dX7_number_72 (by decide) (fun h72 => (by exact absurd h72 (by decide))) (fun h72 => ?_)
          refine j_iload C dX7_number_75 rfl ?_
          refine j_goto (tgt := 81) C dX7_number_77 (by decide) ?_
          refine j_ist3 C dX7_number_81 rfl (Nat.le_of_ble_eq_true rfl) rfl ?_
          refine j_aload_n C dX7_number_82 rfl rfl ?_
          refine j_dup C dX7_number_83 rfl ?_
          refine jg_LeaseBookModel_place C (by first | assumption | rfl | exact kd_sums (by assumption) | exact kd_st1 (by assumption) | exact kd_st2 (by assumption) | exact kd_ls (by first | assumption | rfl) (by assumption) | exact kd_sb (by first | assumption | rfl) (by assumption) | exact kd_sv (by assumption)) qf_X7_117 dX7_number_84 ?_
          refine j_iload C dX7_number_87 rfl ?_
          refine j_if_eq (tgt := 96) C dX7_number_89 (by decide) (fun h89 => (by exact absurd h89 (by decide))) (fun h89 => ?_)
          refine j_iconst (v := (nI 1)) C dX7_number_92 (by decide) ?_
          refine j_goto (tgt := 97) C dX7_number_93 (by decide) ?_
          refine j_iadd C dX7_number_97 ?_
          refine jp_LeaseBookModel_place C (by first | assumption | rfl | exact kd_sums (by assumption) | exact kd_st1 (by assumption) | exact kd_st2 (by assumption) | exact kd_ls (by first | assumption | rfl) (by assumption) | exact kd_sb (by first | assumption | rfl) (by assumption) | exact kd_sv (by assumption)) qf_X7_117 dX7_number_98 ?_
          refine j_goto (tgt := 5) C dX7_number_101 (by decide) ?_
          obtain ⟨dn, hdn, hd, hdg, hlt⟩ := dg_some h46
          have hth : nx (V 228) bm pl - nI 48 = nI (dn) := by rw [hd]
          rw [hth] at h60
          have h61 := i_ge (by omega) (by omega) h60.1
          have h62 := i_ge (by omega) (by omega) h60.2
          have hacc : pAcc (V 228) bm lo hi none pl = some (dn) := by
            unfold pAcc; rw [hdg]; exact if_pos ⟨by simp, h61, h62⟩
          rw [pNum_some hacc] at kx
          refine j_mem (V' := (pS V (pl + 1) (q) (T))) (L' := L) (by rw [pS_7]; exact (pS_put7).symm.trans (by rw [nI_add])) rfl ?_
          exact j_dr (lv' := [some (.ref (ad g 224)), some (.int (nI lo)), some (.int (nI hi)), some (.int (oI (some (dn)))), some (.int (nI 1)), none, none]) (And.intro rfl (And.intro rfl (And.intro rfl (And.intro (by rw [hth]; rfl) (And.intro rfl True.intro))))) (ih (some (dn)) (pl + 1) (by omega) (by omega) (fun b hb => by cases hb; exact h62) kx)
    | some a =>
      refine j_iload C dX7_number_5 rfl ?_
      refine j_if_eq (tgt := 104) C dX7_number_7 (by decide) (fun h7 => (by exact absurd h7 (by decide))) (fun h7 => ?_)
      refine j_aload_n C dX7_number_10 rfl rfl ?_
      refine j_callV0r C (oa_X7 (by first | assumption | rfl | exact kd_sums (by assumption) | exact kd_st1 (by assumption) | exact kd_st2 (by assumption) | exact kd_ls (by first | assumption | rfl) (by assumption) | exact kd_sb (by first | assumption | rfl) (by assumption) | exact kd_sv (by assumption))) rfl rfl (c_X7_next hb hbm hpl) qm_X7_120 qi_X7_next qs_X7_next qn_X7 qc_X7_next fit_X7_next ⟨Nat.le_of_ble_eq_true rfl, Nat.le_of_ble_eq_true rfl, Nat.le_of_ble_eq_true rfl, Nat.le_of_ble_eq_true rfl⟩ (Nat.le_of_ble_eq_true rfl) dX7_number_11 ?_
      refine j_bipush (v := (nI 48)) C dX7_number_14 (by decide) ?_
      refine j_isub C dX7_number_16 ?_
      refine j_ist5 C dX7_number_17 (Nat.le_of_ble_eq_true rfl) rfl ?_
      refine j_iload_n C dX7_number_19 rfl rfl ?_
      refine j_iconst (v := (-1)) C dX7_number_20 (by decide) ?_
      refine j_icmp_ne (tgt := 29) C dX7_number_21 (by decide) (fun h21 => ?_) (fun h21 => (by exact absurd h21 (oI_ne (by have ha := hv a rfl; omega))))
      refine j_bipush (v := (nI 10)) C dX7_number_29 (by decide) ?_
      refine j_iload_n C dX7_number_31 rfl rfl ?_
      refine j_imul C dX7_number_32 ?_
      refine j_iload C dX7_number_33 rfl ?_
      refine j_iadd C dX7_number_35 ?_
      refine j_ist6 C dX7_number_36 (Nat.le_of_ble_eq_true rfl) rfl ?_
      refine j_iload C dX7_number_38 rfl ?_
      refine j_iconst (v := (nI 0)) C dX7_number_40 (by decide) ?_
      refine j_bipush (v := (nI 9)) C dX7_number_41 (by decide) ?_
      refine j_callS3r C (c_X7_in) qm_X7_42 qt_X7_in qn_X7 qc_X7_in fit_X7_in ⟨Nat.le_of_ble_eq_true rfl, Nat.le_of_ble_eq_true rfl, Nat.le_of_ble_eq_true rfl, Nat.le_of_ble_eq_true rfl⟩ (Nat.le_of_ble_eq_true rfl) dX7_number_43 ?_
      refine j_if_eq (tgt := 67) C dX7_number_46 (by decide) (fun h46 => ?_) (fun h46 => ?_)
      · replace h46 := b2i_0 h46
        refine j_iconst (v := (nI 0)) C dX7_number_67 (by decide) ?_
        refine j_ist4 C dX7_number_68 (Nat.le_of_ble_eq_true rfl) rfl ?_
        refine j_iload C dX7_number_70 rfl ?_
        refine j_if_eq (tgt := 80) C dX7_number_72 (by decide) (fun h72 => ?_) (fun h72 => (by exact absurd h72 (by decide)))
        refine j_iload_n C dX7_number_80 rfl rfl ?_
        refine j_ist3 C dX7_number_81 rfl (Nat.le_of_ble_eq_true rfl) rfl ?_
        refine j_aload_n C dX7_number_82 rfl rfl ?_
        refine j_dup C dX7_number_83 rfl ?_
        refine jg_LeaseBookModel_place C (by first | assumption | rfl | exact kd_sums (by assumption) | exact kd_st1 (by assumption) | exact kd_st2 (by assumption) | exact kd_ls (by first | assumption | rfl) (by assumption) | exact kd_sb (by first | assumption | rfl) (by assumption) | exact kd_sv (by assumption)) qf_X7_117 dX7_number_84 ?_
        refine j_iload C dX7_number_87 rfl ?_
        refine j_if_eq (tgt := 96) C dX7_number_89 (by decide) (fun h89 => ?_) (fun h89 => (by exact absurd h89 (by decide)))
        refine j_iconst (v := (nI 0)) C dX7_number_96 (by decide) ?_
        refine j_iadd C dX7_number_97 ?_
        refine jp_LeaseBookModel_place C (by first | assumption | rfl | exact kd_sums (by assumption) | exact kd_st1 (by assumption) | exact kd_st2 (by assumption) | exact kd_ls (by first | assumption | rfl) (by assumption) | exact kd_sb (by first | assumption | rfl) (by assumption) | exact kd_sv (by assumption)) qf_X7_117 dX7_number_98 ?_
        refine j_goto (tgt := 5) C dX7_number_101 (by decide) ?_
        have hacc : pAcc (V 228) bm lo hi (some a) pl = none := by
          unfold pAcc
          cases hdg : dg (V 228) bm pl with
          | none => rfl
          | some dn0 =>
            refine if_neg (fun z => ?_)
            obtain ⟨dn, hdn, hd, hdg2, hlt⟩ := dg_some (B := V 228) (bm := bm) (pl := pl) (Decidable.byContradiction fun z2 => by rw [dg_none z2] at hdg; cases hdg)
            cases hdg.symm.trans hdg2
            have ha := hv a rfl
            have hth : nI 10 * oI (some a) + (nx (V 228) bm pl - nI 48) = nI (pTh (some a) dn0) := by rw [hd]; show nI 10 * nI a + nI dn0 = _; rw [pk_mul, nI_add]; rfl
            first
            | exact absurd (show nI 0 ≤ nx (V 228) bm pl - nI 48 ∧ nx (V 228) bm pl - nI 48 ≤ nI 9 by rw [hd]; exact inN (by omega) (by omega) (by omega)) h46
            | exact z.1 (by have h50' : nI a = nI 0 := h50; rw [(nI_eq (by omega) (by omega)).mp h50'])
            | (refine absurd ?_ h60; rw [hth]; exact inN z.2.1 z.2.2 (by omega))
        rw [pNum_none hacc] at kx
        refine j_mem (V' := (pS V (pl) (q) (T))) (L' := L) (by rw [pS_7]; exact (pS_put7).symm.trans (by rw [nI_add]; rfl)) rfl ?_
        refine j_dr (lv' := [some (.ref (ad g 224)), some (.int (nI lo)), some (.int (nI hi)), some (.int (oI (some a))), some (.int (nI 0)), none, none]) (And.intro rfl (And.intro rfl (And.intro rfl (And.intro rfl (And.intro rfl True.intro))))) (lx_X7_number C kx)
      · replace h46 := b2i_1 h46
        refine j_iload_n C dX7_number_49 rfl rfl ?_
        refine j_if_eq (tgt := 67) C dX7_number_50 (by decide) (fun h50 => ?_) (fun h50 => ?_)
        · refine j_iconst (v := (nI 0)) C dX7_number_67 (by decide) ?_
          refine j_ist4 C dX7_number_68 (Nat.le_of_ble_eq_true rfl) rfl ?_
          refine j_iload C dX7_number_70 rfl ?_
          refine j_if_eq (tgt := 80) C dX7_number_72 (by decide) (fun h72 => ?_) (fun h72 => (by exact absurd h72 (by decide)))
          refine j_iload_n C dX7_number_80 rfl rfl ?_
          refine j_ist3 C dX7_number_81 rfl (Nat.le_of_ble_eq_true rfl) rfl ?_
          refine j_aload_n C dX7_number_82 rfl rfl ?_
          refine j_dup C dX7_number_83 rfl ?_
          refine jg_LeaseBookModel_place C (by first | assumption | rfl | exact kd_sums (by assumption) | exact kd_st1 (by assumption) | exact kd_st2 (by assumption) | exact kd_ls (by first | assumption | rfl) (by assumption) | exact kd_sb (by first | assumption | rfl) (by assumption) | exact kd_sv (by assumption)) qf_X7_117 dX7_number_84 ?_
          refine j_iload C dX7_number_87 rfl ?_
          refine j_if_eq (tgt := 96) C dX7_number_89 (by decide) (fun h89 => ?_) (fun h89 => (by exact absurd h89 (by decide)))
          refine j_iconst (v := (nI 0)) C dX7_number_96 (by decide) ?_
          refine j_iadd C dX7_number_97 ?_
          refine jp_LeaseBookModel_place C (by first | assumption | rfl | exact kd_sums (by assumption) | exact kd_st1 (by assumption) | exact kd_st2 (by assumption) | exact kd_ls (by first | assumption | rfl) (by assumption) | exact kd_sb (by first | assumption | rfl) (by assumption) | exact kd_sv (by assumption)) qf_X7_117 dX7_number_98 ?_
          refine j_goto (tgt := 5) C dX7_number_101 (by decide) ?_
          have hacc : pAcc (V 228) bm lo hi (some a) pl = none := by
            unfold pAcc
            cases hdg : dg (V 228) bm pl with
            | none => rfl
            | some dn0 =>
              refine if_neg (fun z => ?_)
              obtain ⟨dn, hdn, hd, hdg2, hlt⟩ := dg_some (B := V 228) (bm := bm) (pl := pl) (Decidable.byContradiction fun z2 => by rw [dg_none z2] at hdg; cases hdg)
              cases hdg.symm.trans hdg2
              have ha := hv a rfl
              have hth : nI 10 * oI (some a) + (nx (V 228) bm pl - nI 48) = nI (pTh (some a) dn0) := by rw [hd]; show nI 10 * nI a + nI dn0 = _; rw [pk_mul, nI_add]; rfl
              first
              | exact absurd (show nI 0 ≤ nx (V 228) bm pl - nI 48 ∧ nx (V 228) bm pl - nI 48 ≤ nI 9 by rw [hd]; exact inN (by omega) (by omega) (by omega)) h46
              | exact z.1 (by have h50' : nI a = nI 0 := h50; rw [(nI_eq (by omega) (by omega)).mp h50'])
              | (refine absurd ?_ h60; rw [hth]; exact inN z.2.1 z.2.2 (by omega))
          rw [pNum_none hacc] at kx
          refine j_mem (V' := (pS V (pl) (q) (T))) (L' := L) (by rw [pS_7]; exact (pS_put7).symm.trans (by rw [nI_add]; rfl)) rfl ?_
          refine j_dr (lv' := [some (.ref (ad g 224)), some (.int (nI lo)), some (.int (nI hi)), some (.int (oI (some a))), some (.int (nI 0)), none, none]) (And.intro rfl (And.intro rfl (And.intro rfl (And.intro rfl (And.intro rfl True.intro))))) (lx_X7_number C kx)
        · refine j_iload C dX7_number_53 rfl ?_
          refine j_iload_n C dX7_number_55 rfl rfl ?_
          refine j_iload_n C dX7_number_56 rfl rfl ?_
          refine j_callS3r C (c_X7_in) qm_X7_42 qt_X7_in qn_X7 qc_X7_in fit_X7_in ⟨Nat.le_of_ble_eq_true rfl, Nat.le_of_ble_eq_true rfl, Nat.le_of_ble_eq_true rfl, Nat.le_of_ble_eq_true rfl⟩ (Nat.le_of_ble_eq_true rfl) dX7_number_57 ?_
          refine j_if_eq (tgt := 67) C dX7_number_60 (by decide) (fun h60 => ?_) (fun h60 => ?_)
          · replace h60 := b2i_0 h60
            refine j_iconst (v := (nI 0)) C dX7_number_67 (by decide) ?_
            refine j_ist4 C dX7_number_68 (Nat.le_of_ble_eq_true rfl) rfl ?_
            refine j_iload C dX7_number_70 rfl ?_
            refine j_if_eq (tgt := 80) C dX7_number_72 (by decide) (fun h72 => ?_) (fun h72 => (by exact absurd h72 (by decide)))
            refine j_iload_n C dX7_number_80 rfl rfl ?_
            refine j_ist3 C dX7_number_81 rfl (Nat.le_of_ble_eq_true rfl) rfl ?_
            refine j_aload_n C dX7_number_82 rfl rfl ?_
            refine j_dup C dX7_number_83 rfl ?_
            refine jg_LeaseBookModel_place C (by first | assumption | rfl | exact kd_sums (by assumption) | exact kd_st1 (by assumption) | exact kd_st2 (by assumption) | exact kd_ls (by first | assumption | rfl) (by assumption) | exact kd_sb (by first | assumption | rfl) (by assumption) | exact kd_sv (by assumption)) qf_X7_117 dX7_number_84 ?_
            refine j_iload C dX7_number_87 rfl ?_
            refine j_if_eq (tgt := 96) C dX7_number_89 (by decide) (fun h89 => ?_) (fun h89 => (by exact absurd h89 (by decide)))
            refine j_iconst (v := (nI 0)) C dX7_number_96 (by decide) ?_
            refine j_iadd C dX7_number_97 ?_
            refine jp_LeaseBookModel_place C (by first | assumption | rfl | exact kd_sums (by assumption) | exact kd_st1 (by assumption) | exact kd_st2 (by assumption) | exact kd_ls (by first | assumption | rfl) (by assumption) | exact kd_sb (by first | assumption | rfl) (by assumption) | exact kd_sv (by assumption)) qf_X7_117 dX7_number_98 ?_
            refine j_goto (tgt := 5) C dX7_number_101 (by decide) ?_
            have hacc : pAcc (V 228) bm lo hi (some a) pl = none := by
              unfold pAcc
              cases hdg : dg (V 228) bm pl with
              | none => rfl
              | some dn0 =>
                refine if_neg (fun z => ?_)
                obtain ⟨dn, hdn, hd, hdg2, hlt⟩ := dg_some (B := V 228) (bm := bm) (pl := pl) (Decidable.byContradiction fun z2 => by rw [dg_none z2] at hdg; cases hdg)
                cases hdg.symm.trans hdg2
                have ha := hv a rfl
                have hth : nI 10 * oI (some a) + (nx (V 228) bm pl - nI 48) = nI (pTh (some a) dn0) := by rw [hd]; show nI 10 * nI a + nI dn0 = _; rw [pk_mul, nI_add]; rfl
                first
                | exact absurd (show nI 0 ≤ nx (V 228) bm pl - nI 48 ∧ nx (V 228) bm pl - nI 48 ≤ nI 9 by rw [hd]; exact inN (by omega) (by omega) (by omega)) h46
                | exact z.1 (by have h50' : nI a = nI 0 := h50; rw [(nI_eq (by omega) (by omega)).mp h50'])
                | (refine absurd ?_ h60; rw [hth]; exact inN z.2.1 z.2.2 (by omega))
            rw [pNum_none hacc] at kx
            refine j_mem (V' := (pS V (pl) (q) (T))) (L' := L) (by rw [pS_7]; exact (pS_put7).symm.trans (by rw [nI_add]; rfl)) rfl ?_
            refine j_dr (lv' := [some (.ref (ad g 224)), some (.int (nI lo)), some (.int (nI hi)), some (.int (oI (some a))), some (.int (nI 0)), none, none]) (And.intro rfl (And.intro rfl (And.intro rfl (And.intro rfl (And.intro rfl True.intro))))) (lx_X7_number C kx)
          · replace h60 := b2i_1 h60
            refine j_iconst (v := (nI 1)) C dX7_number_63 (by decide) ?_
            refine j_goto (tgt := 68) C dX7_number_64 (by decide) ?_
            refine j_ist4 C dX7_number_68 (Nat.le_of_ble_eq_true rfl) rfl ?_
            refine j_iload C dX7_number_70 rfl ?_
            refine j_if_eq (tgt := 80) C dX7_number_72 (by decide) (fun h72 => (by exact absurd h72 (by decide))) (fun h72 => ?_)
            refine j_iload C dX7_number_75 rfl ?_
            refine j_goto (tgt := 81) C dX7_number_77 (by decide) ?_
            refine j_ist3 C dX7_number_81 rfl (Nat.le_of_ble_eq_true rfl) rfl ?_
            refine j_aload_n C dX7_number_82 rfl rfl ?_
            refine j_dup C dX7_number_83 rfl ?_
            refine jg_LeaseBookModel_place C (by first | assumption | rfl | exact kd_sums (by assumption) | exact kd_st1 (by assumption) | exact kd_st2 (by assumption) | exact kd_ls (by first | assumption | rfl) (by assumption) | exact kd_sb (by first | assumption | rfl) (by assumption) | exact kd_sv (by assumption)) qf_X7_117 dX7_number_84 ?_
            refine j_iload C dX7_number_87 rfl ?_
            refine j_if_eq (tgt := 96) C dX7_number_89 (by decide) (fun h89 => (by exact absurd h89 (by decide))) (fun h89 => ?_)
            refine j_iconst (v := (nI 1)) C dX7_number_92 (by decide) ?_
            refine j_goto (tgt := 97) C dX7_number_93 (by decide) ?_
            refine j_iadd C dX7_number_97 ?_
            refine jp_LeaseBookModel_place C (by first | assumption | rfl | exact kd_sums (by assumption) | exact kd_st1 (by assumption) | exact kd_st2 (by assumption) | exact kd_ls (by first | assumption | rfl) (by assumption) | exact kd_sb (by first | assumption | rfl) (by assumption) | exact kd_sv (by assumption)) qf_X7_117 dX7_number_98 ?_
            refine j_goto (tgt := 5) C dX7_number_101 (by decide) ?_
            obtain ⟨dn, hdn, hd, hdg, hlt⟩ := dg_some h46
            have hth : nI 10 * oI (some a) + (nx (V 228) bm pl - nI 48) = nI (10 * a + dn) := by rw [hd]; show nI 10 * nI a + nI dn = _; rw [pk_mul, nI_add]
            have ha := hv a rfl
            rw [hth] at h60
            have h61 := i_ge (by omega) (by omega) h60.1
            have h62 := i_ge (by omega) (by omega) h60.2
            have h0 : a ≠ 0 := fun z => h50 (by rw [z]; rfl)
            have hacc : pAcc (V 228) bm lo hi (some a) pl = some (10 * a + dn) := by
              unfold pAcc; rw [hdg]; exact if_pos ⟨by simpa using h0, h61, h62⟩
            rw [pNum_some hacc] at kx
            refine j_mem (V' := (pS V (pl + 1) (q) (T))) (L' := L) (by rw [pS_7]; exact (pS_put7).symm.trans (by rw [nI_add])) rfl ?_
            exact j_dr (lv' := [some (.ref (ad g 224)), some (.int (nI lo)), some (.int (nI hi)), some (.int (oI (some (10 * a + dn)))), some (.int (nI 1)), none, none]) (And.intro rfl (And.intro rfl (And.intro rfl (And.intro (by rw [hth]; rfl) (And.intro rfl True.intro))))) (ih (some (10 * a + dn)) (pl + 1) (by omega) (by omega) (fun b hb => by cases hb; exact h62) kx)
set_option maxHeartbeats 4000000 in
theorem c_X7_number {l : Launch} {g : GC} {V : Mem} {L : LMem} {lo hi pl q bm : Nat} {T : Nat → Int32} (hb : V 224 5 = nI bm) (hbm : bm ≤ 60) (hpl : pl ≤ bm) (hlo : lo ≤ hi) (hhi : hi ≤ 100000) : MC l yX7_number cX7_number 7 (some .int) 1 g (pS V (pl) (q) (T)) L [.ref (ad g 224), .int (nI lo), .int (nI hi)] (some (.int (oI (pNum (V 228) bm lo hi (bm - pl) none pl).1))) (pS V ((pNum (V 228) bm lo hi (bm - pl) none pl).2) (q) (T)) L := by
  refine MC.of [some (.ref (ad g 224)), some (.int (nI lo)), some (.int (nI hi)), none, none, none, none] (by decide +kernel) rfl (Nat.le_of_ble_eq_true rfl) (fun p e s m args below meth c C => ?_)
  refine j_iconst (v := (-1)) C dX7_number_0 (by decide) ?_
  refine j_ist3 C dX7_number_1 rfl (Nat.le_of_ble_eq_true rfl) rfl ?_
  refine j_iconst (v := (nI 1)) C dX7_number_2 (by decide) ?_
  refine j_ist4 C dX7_number_3 (Nat.le_of_ble_eq_true rfl) rfl ?_
  refine lp_X7_number C hb hbm hlo hhi (bm - pl) none pl hpl (by omega) (fun a z => by cases z) ?_
  refine j_iload_n C dX7_number_104 rfl rfl ?_
  exact j_iret C dX7_number_105 (by rfl) (by rfl) (by rfl)
set_option maxHeartbeats 4000000 in
theorem c_X7_part {l : Launch} {g : GC} {V : Mem} {L : LMem} {pl q bm : Nat} {T : Nat → Int32} (hb : V 224 5 = nI bm) (hbm : bm ≤ 60) (hpl : pl ≤ bm) (hq : q ≤ 14) : MC l yX7_part cX7_part 2 (some .boolean) 2 g (pS V (pl) (q) (T)) L [.ref (ad g 224)] (some (.int (b2i ((pPart (V 228) bm q pl T).1 = true)))) (pS V (pPart (V 228) bm q pl T).2.1 (pPart (V 228) bm q pl T).2.2.1 (pPart (V 228) bm q pl T).2.2.2) L := by
  refine MC.of [some (.ref (ad g 224)), none] (by decide +kernel) rfl (Nat.le_of_ble_eq_true rfl) (fun p e s m args below meth c C => ?_)
  have z1 := pNum_le (B := V 228) (lo := 0) (hi := 100000) (bm - pl) none pl hpl
  refine j_iconst (v := (nI 4)) C dX7_part_0 (by decide) ?_
  refine j_aload_n C dX7_part_1 rfl rfl ?_
  refine jg_LeaseBookModel_many C (by first | assumption | rfl | exact kd_sums (by assumption) | exact kd_st1 (by assumption) | exact kd_st2 (by assumption) | exact kd_ls (by first | assumption | rfl) (by assumption) | exact kd_sb (by first | assumption | rfl) (by assumption) | exact kd_sv (by assumption)) qf_X7_124 dX7_part_2 ?_
  refine j_tope (y := nI q) (by exact pS_8) ?_
  refine j_imulN C dX7_part_5 ?_
  refine j_ist1 C dX7_part_6 rfl (Nat.le_of_ble_eq_true rfl) rfl ?_
  refine j_aload_n C dX7_part_7 rfl rfl ?_
  refine jg_LeaseBookModel_told C (by first | assumption | rfl | exact kd_sums (by assumption) | exact kd_st1 (by assumption) | exact kd_st2 (by assumption) | exact kd_ls (by first | assumption | rfl) (by assumption) | exact kd_sb (by first | assumption | rfl) (by assumption) | exact kd_sv (by assumption)) qf_X7_22 dX7_part_8 ?_
  refine j_iload_n C dX7_part_11 rfl rfl ?_
  refine j_aload_n C dX7_part_12 rfl rfl ?_
  refine j_iconst (v := (nI 0)) C dX7_part_13 (by decide) ?_
  refine j_ldc (v := nI 100000) C qk_X7_46 dX7_part_14 ?_
  refine j_callV2r C (oa_X7 (by first | assumption | rfl | exact kd_sums (by assumption) | exact kd_st1 (by assumption) | exact kd_st2 (by assumption) | exact kd_ls (by first | assumption | rfl) (by assumption) | exact kd_sb (by first | assumption | rfl) (by assumption) | exact kd_sv (by assumption))) rfl rfl (c_X7_number hb hbm hpl (by omega) (by omega)) qm_X7_127 qi_X7_number qs_X7_number qn_X7 qc_X7_number fit_X7_number ⟨Nat.le_of_ble_eq_true rfl, Nat.le_of_ble_eq_true rfl, Nat.le_of_ble_eq_true rfl, Nat.le_of_ble_eq_true rfl⟩ (Nat.le_of_ble_eq_true rfl) dX7_part_16 ?_
  refine j_iastN C (by first | assumption | rfl | exact kd_sums (by assumption) | exact kd_st1 (by assumption) | exact kd_st2 (by assumption) | exact kd_ls (by first | assumption | rfl) (by assumption) | exact kd_sb (by first | assumption | rfl) (by assumption) | exact kd_sv (by assumption)) rfl rfl (by omega) dX7_part_19 ?_
  refine j_mem (V' := pS V (qA1 (V 228) bm pl).2 q (qT1 (V 228) bm q pl T)) (L' := L) pS_putT.symm rfl ?_
  refine j_aload_n C dX7_part_20 rfl rfl ?_
  refine jg_LeaseBookModel_told C (by first | assumption | rfl | exact kd_sums (by assumption) | exact kd_st1 (by assumption) | exact kd_st2 (by assumption) | exact kd_ls (by first | assumption | rfl) (by assumption) | exact kd_sb (by first | assumption | rfl) (by assumption) | exact kd_sv (by assumption)) qf_X7_22 dX7_part_21 ?_
  refine j_iload_n C dX7_part_24 rfl rfl ?_
  refine j_ialdN C (by first | assumption | rfl | exact kd_sums (by assumption) | exact kd_st1 (by assumption) | exact kd_st2 (by assumption) | exact kd_ls (by first | assumption | rfl) (by assumption) | exact kd_sb (by first | assumption | rfl) (by assumption) | exact kd_sv (by assumption)) rfl rfl (by omega) dX7_part_25 ?_
  refine j_tope (y := oI (qA1 (V 228) bm pl).1) (by exact pS_T.trans upd_at) ?_
  refine j_iconst (v := (-1)) C dX7_part_26 (by decide) ?_
  refine j_icmp_eq (tgt := 39) C dX7_part_27 (by decide) (fun h27 => ?_) (fun h27 => ?_)
  · have n1 := oI_nb h27 (pNum_hi (B := V 228) (bm := bm) (lo := 0) (hi := 100000) (bm - pl) none (pl) (fun a z => by cases z)) (by omega)
    have e1 : qE1 (V 228) bm pl := Or.inl n1
    refine j_iconst (v := (nI 0)) C dX7_part_39 (by decide) ?_
    exact j_zret C dX7_part_40 (by first | rfl | exact nar_b2i) (by rw [pPart_1 e1]; exact b2i_f Bool.false_ne_true) (by rw [pPart_1 e1]) (by rfl)
  · have n1 := oI_sb h27
    refine j_aload_n C dX7_part_30 rfl rfl ?_
    refine j_bipush (v := (nI 42)) C dX7_part_31 (by decide) ?_
    refine j_callV1r C (oa_X7 (by first | assumption | rfl | exact kd_sums (by assumption) | exact kd_st1 (by assumption) | exact kd_st2 (by assumption) | exact kd_ls (by first | assumption | rfl) (by assumption) | exact kd_sb (by first | assumption | rfl) (by assumption) | exact kd_sv (by assumption))) rfl rfl (c_X7_takes hb hbm z1.1) qm_X7_130 qi_X7_takes qs_X7_takes qn_X7 qc_X7_takes fit_X7_takes ⟨Nat.le_of_ble_eq_true rfl, Nat.le_of_ble_eq_true rfl, Nat.le_of_ble_eq_true rfl, Nat.le_of_ble_eq_true rfl⟩ (Nat.le_of_ble_eq_true rfl) dX7_part_33 ?_
    refine j_if_ne (tgt := 41) C dX7_part_36 (by decide) (fun h36 => ?_) (fun h36 => ?_)
    · replace h36 := b2i_1 h36
      rw [if_pos h36]
      have e1 : ¬ qE1 (V 228) bm pl := fun z => z.elim n1 (fun y => y h36)
      have g1 := qE1_lt e1 hpl
      refine j_aload_n C dX7_part_41 rfl rfl ?_
      refine jg_LeaseBookModel_told C (by first | assumption | rfl | exact kd_sums (by assumption) | exact kd_st1 (by assumption) | exact kd_st2 (by assumption) | exact kd_ls (by first | assumption | rfl) (by assumption) | exact kd_sb (by first | assumption | rfl) (by assumption) | exact kd_sv (by assumption)) qf_X7_22 dX7_part_42 ?_
      refine j_iload_n C dX7_part_45 rfl rfl ?_
      refine j_iconst (v := (nI 1)) C dX7_part_46 (by decide) ?_
      refine j_iaddN C dX7_part_47 ?_
      refine j_aload_n C dX7_part_48 rfl rfl ?_
      refine j_iconst (v := (nI 1)) C dX7_part_49 (by decide) ?_
      refine j_bipush (v := (nI 60)) C dX7_part_50 (by decide) ?_
      refine j_callV2r C (oa_X7 (by first | assumption | rfl | exact kd_sums (by assumption) | exact kd_st1 (by assumption) | exact kd_st2 (by assumption) | exact kd_ls (by first | assumption | rfl) (by assumption) | exact kd_sb (by first | assumption | rfl) (by assumption) | exact kd_sv (by assumption))) rfl rfl (c_X7_number hb hbm g1.2.2.1 (by omega) (by omega)) qm_X7_127 qi_X7_number qs_X7_number qn_X7 qc_X7_number fit_X7_number ⟨Nat.le_of_ble_eq_true rfl, Nat.le_of_ble_eq_true rfl, Nat.le_of_ble_eq_true rfl, Nat.le_of_ble_eq_true rfl⟩ (Nat.le_of_ble_eq_true rfl) dX7_part_52 ?_
      refine j_iastN C (by first | assumption | rfl | exact kd_sums (by assumption) | exact kd_st1 (by assumption) | exact kd_st2 (by assumption) | exact kd_ls (by first | assumption | rfl) (by assumption) | exact kd_sb (by first | assumption | rfl) (by assumption) | exact kd_sv (by assumption)) rfl rfl (by omega) dX7_part_55 ?_
      refine j_mem (V' := pS V (qA2 (V 228) bm pl).2 q (qT2 (V 228) bm q pl T)) (L' := L) pS_putT.symm rfl ?_
      refine j_aload_n C dX7_part_56 rfl rfl ?_
      refine jg_LeaseBookModel_told C (by first | assumption | rfl | exact kd_sums (by assumption) | exact kd_st1 (by assumption) | exact kd_st2 (by assumption) | exact kd_ls (by first | assumption | rfl) (by assumption) | exact kd_sb (by first | assumption | rfl) (by assumption) | exact kd_sv (by assumption)) qf_X7_22 dX7_part_57 ?_
      refine j_iload_n C dX7_part_60 rfl rfl ?_
      refine j_iconst (v := (nI 1)) C dX7_part_61 (by decide) ?_
      refine j_iaddN C dX7_part_62 ?_
      refine j_ialdN C (by first | assumption | rfl | exact kd_sums (by assumption) | exact kd_st1 (by assumption) | exact kd_st2 (by assumption) | exact kd_ls (by first | assumption | rfl) (by assumption) | exact kd_sb (by first | assumption | rfl) (by assumption) | exact kd_sv (by assumption)) rfl rfl (by omega) dX7_part_63 ?_
      refine j_tope (y := oI (qA2 (V 228) bm pl).1) (by exact pS_T.trans upd_at) ?_
      refine j_iconst (v := (-1)) C dX7_part_64 (by decide) ?_
      refine j_icmp_eq (tgt := 77) C dX7_part_65 (by decide) (fun h65 => ?_) (fun h65 => ?_)
      · have n2 := oI_nb h65 (pNum_hi (B := V 228) (bm := bm) (lo := 1) (hi := 60) (bm - ((qA1 (V 228) bm pl).2 + 1)) none ((qA1 (V 228) bm pl).2 + 1) (fun a z => by cases z)) (by omega)
        have e2 : qE2 (V 228) bm pl := Or.inl n2
        refine j_iconst (v := (nI 0)) C dX7_part_77 (by decide) ?_
        exact j_zret C dX7_part_78 (by first | rfl | exact nar_b2i) (by rw [pPart_2 e1 e2]; exact b2i_f Bool.false_ne_true) (by rw [pPart_2 e1 e2]) (by rfl)
      · have n2 := oI_sb h65
        refine j_aload_n C dX7_part_68 rfl rfl ?_
        refine j_bipush (v := (nI 64)) C dX7_part_69 (by decide) ?_
        refine j_callV1r C (oa_X7 (by first | assumption | rfl | exact kd_sums (by assumption) | exact kd_st1 (by assumption) | exact kd_st2 (by assumption) | exact kd_ls (by first | assumption | rfl) (by assumption) | exact kd_sb (by first | assumption | rfl) (by assumption) | exact kd_sv (by assumption))) rfl rfl (c_X7_takes hb hbm g1.2.2.2.2.1) qm_X7_130 qi_X7_takes qs_X7_takes qn_X7 qc_X7_takes fit_X7_takes ⟨Nat.le_of_ble_eq_true rfl, Nat.le_of_ble_eq_true rfl, Nat.le_of_ble_eq_true rfl, Nat.le_of_ble_eq_true rfl⟩ (Nat.le_of_ble_eq_true rfl) dX7_part_71 ?_
        refine j_if_ne (tgt := 79) C dX7_part_74 (by decide) (fun h74 => ?_) (fun h74 => ?_)
        · replace h74 := b2i_1 h74
          rw [if_pos h74]
          have e2 : ¬ qE2 (V 228) bm pl := fun z => z.elim n2 (fun y => y h74)
          have g2 := qE2_lt e1 e2 hpl
          refine j_aload_n C dX7_part_79 rfl rfl ?_
          refine jg_LeaseBookModel_told C (by first | assumption | rfl | exact kd_sums (by assumption) | exact kd_st1 (by assumption) | exact kd_st2 (by assumption) | exact kd_ls (by first | assumption | rfl) (by assumption) | exact kd_sb (by first | assumption | rfl) (by assumption) | exact kd_sv (by assumption)) qf_X7_22 dX7_part_80 ?_
          refine j_iload_n C dX7_part_83 rfl rfl ?_
          refine j_iconst (v := (nI 2)) C dX7_part_84 (by decide) ?_
          refine j_iaddN C dX7_part_85 ?_
          refine j_aload_n C dX7_part_86 rfl rfl ?_
          refine j_iconst (v := (nI 0)) C dX7_part_87 (by decide) ?_
          refine j_sipush (v := (nI 2000)) C dX7_part_88 (by decide) ?_
          refine j_callV2r C (oa_X7 (by first | assumption | rfl | exact kd_sums (by assumption) | exact kd_st1 (by assumption) | exact kd_st2 (by assumption) | exact kd_ls (by first | assumption | rfl) (by assumption) | exact kd_sb (by first | assumption | rfl) (by assumption) | exact kd_sv (by assumption))) rfl rfl (c_X7_number hb hbm g2.2.2.1 (by omega) (by omega)) qm_X7_127 qi_X7_number qs_X7_number qn_X7 qc_X7_number fit_X7_number ⟨Nat.le_of_ble_eq_true rfl, Nat.le_of_ble_eq_true rfl, Nat.le_of_ble_eq_true rfl, Nat.le_of_ble_eq_true rfl⟩ (Nat.le_of_ble_eq_true rfl) dX7_part_91 ?_
          refine j_iastN C (by first | assumption | rfl | exact kd_sums (by assumption) | exact kd_st1 (by assumption) | exact kd_st2 (by assumption) | exact kd_ls (by first | assumption | rfl) (by assumption) | exact kd_sb (by first | assumption | rfl) (by assumption) | exact kd_sv (by assumption)) rfl rfl (by omega) dX7_part_94 ?_
          refine j_mem (V' := pS V (qA3 (V 228) bm pl).2 q (qT3 (V 228) bm q pl T)) (L' := L) pS_putT.symm rfl ?_
          refine j_aload_n C dX7_part_95 rfl rfl ?_
          refine jg_LeaseBookModel_told C (by first | assumption | rfl | exact kd_sums (by assumption) | exact kd_st1 (by assumption) | exact kd_st2 (by assumption) | exact kd_ls (by first | assumption | rfl) (by assumption) | exact kd_sb (by first | assumption | rfl) (by assumption) | exact kd_sv (by assumption)) qf_X7_22 dX7_part_96 ?_
          refine j_iload_n C dX7_part_99 rfl rfl ?_
          refine j_iconst (v := (nI 2)) C dX7_part_100 (by decide) ?_
          refine j_iaddN C dX7_part_101 ?_
          refine j_ialdN C (by first | assumption | rfl | exact kd_sums (by assumption) | exact kd_st1 (by assumption) | exact kd_st2 (by assumption) | exact kd_ls (by first | assumption | rfl) (by assumption) | exact kd_sb (by first | assumption | rfl) (by assumption) | exact kd_sv (by assumption)) rfl rfl (by omega) dX7_part_102 ?_
          refine j_tope (y := oI (qA3 (V 228) bm pl).1) (by exact pS_T.trans upd_at) ?_
          refine j_iconst (v := (-1)) C dX7_part_103 (by decide) ?_
          refine j_icmp_ne (tgt := 109) C dX7_part_104 (by decide) (fun h104 => ?_) (fun h104 => ?_)
          · have n3 := oI_sb h104
            refine j_aload_n C dX7_part_109 rfl rfl ?_
            refine jg_LeaseBookModel_told C (by first | assumption | rfl | exact kd_sums (by assumption) | exact kd_st1 (by assumption) | exact kd_st2 (by assumption) | exact kd_ls (by first | assumption | rfl) (by assumption) | exact kd_sb (by first | assumption | rfl) (by assumption) | exact kd_sv (by assumption)) qf_X7_22 dX7_part_110 ?_
            refine j_iload_n C dX7_part_113 rfl rfl ?_
            refine j_iconst (v := (nI 3)) C dX7_part_114 (by decide) ?_
            refine j_iaddN C dX7_part_115 ?_
            refine j_aload_n C dX7_part_116 rfl rfl ?_
            refine j_bipush (v := (nI 43)) C dX7_part_117 (by decide) ?_
            refine j_callV1r C (oa_X7 (by first | assumption | rfl | exact kd_sums (by assumption) | exact kd_st1 (by assumption) | exact kd_st2 (by assumption) | exact kd_ls (by first | assumption | rfl) (by assumption) | exact kd_sb (by first | assumption | rfl) (by assumption) | exact kd_sv (by assumption))) rfl rfl (c_X7_takes hb hbm g2.2.2.2.2) qm_X7_130 qi_X7_takes qs_X7_takes qn_X7 qc_X7_takes fit_X7_takes ⟨Nat.le_of_ble_eq_true rfl, Nat.le_of_ble_eq_true rfl, Nat.le_of_ble_eq_true rfl, Nat.le_of_ble_eq_true rfl⟩ (Nat.le_of_ble_eq_true rfl) dX7_part_119 ?_
            refine j_if_eq (tgt := 135) C dX7_part_122 (by decide) (fun h122 => ?_) (fun h122 => ?_)
            · replace h122 := b2i_0 h122
              rw [if_neg h122]
              refine j_iconst (v := (nI 0)) C dX7_part_135 (by decide) ?_
              refine j_iastN C (by first | assumption | rfl | exact kd_sums (by assumption) | exact kd_st1 (by assumption) | exact kd_st2 (by assumption) | exact kd_ls (by first | assumption | rfl) (by assumption) | exact kd_sb (by first | assumption | rfl) (by assumption) | exact kd_sv (by assumption)) rfl rfl (by omega) dX7_part_136 ?_
              refine j_mem (V' := pS V (qA3 (V 228) bm pl).2 q (upd (qT3 (V 228) bm q pl T) (4 * q + 3) (nI 0))) (L' := L) pS_putT.symm rfl ?_
              refine j_aload_n C dX7_part_137 rfl rfl ?_
              refine j_dup C dX7_part_138 rfl ?_
              refine jg_LeaseBookModel_many C (by first | assumption | rfl | exact kd_sums (by assumption) | exact kd_st1 (by assumption) | exact kd_st2 (by assumption) | exact kd_ls (by first | assumption | rfl) (by assumption) | exact kd_sb (by first | assumption | rfl) (by assumption) | exact kd_sv (by assumption)) qf_X7_124 dX7_part_139 ?_
              refine j_tope (y := nI q) (by exact pS_8) ?_
              refine j_iconst (v := (nI 1)) C dX7_part_142 (by decide) ?_
              refine j_iaddN C dX7_part_143 ?_
              refine jp_LeaseBookModel_many C (by first | assumption | rfl | exact kd_sums (by assumption) | exact kd_st1 (by assumption) | exact kd_st2 (by assumption) | exact kd_ls (by first | assumption | rfl) (by assumption) | exact kd_sb (by first | assumption | rfl) (by assumption) | exact kd_sv (by assumption)) qf_X7_124 dX7_part_144 ?_
              refine j_mem (V' := pS V (qA3 (V 228) bm pl).2 (q + 1) (upd (qT3 (V 228) bm q pl T) (4 * q + 3) (nI 0))) (L' := L) pS_put8.symm rfl ?_
              refine j_aload_n C dX7_part_147 rfl rfl ?_
              refine jg_LeaseBookModel_told C (by first | assumption | rfl | exact kd_sums (by assumption) | exact kd_st1 (by assumption) | exact kd_st2 (by assumption) | exact kd_ls (by first | assumption | rfl) (by assumption) | exact kd_sb (by first | assumption | rfl) (by assumption) | exact kd_sv (by assumption)) qf_X7_22 dX7_part_148 ?_
              refine j_iload_n C dX7_part_151 rfl rfl ?_
              refine j_iconst (v := (nI 3)) C dX7_part_152 (by decide) ?_
              refine j_iaddN C dX7_part_153 ?_
              refine j_ialdN C (by first | assumption | rfl | exact kd_sums (by assumption) | exact kd_st1 (by assumption) | exact kd_st2 (by assumption) | exact kd_ls (by first | assumption | rfl) (by assumption) | exact kd_sb (by first | assumption | rfl) (by assumption) | exact kd_sv (by assumption)) rfl rfl (by omega) dX7_part_154 ?_
              refine j_iconst (v := (-1)) C dX7_part_155 (by decide) ?_
              refine j_icmp_eq (tgt := 163) C dX7_part_156 (by decide) (fun h156 => ?_) (fun h156 => ?_)
              · rw [show pS V _ _ _ 229 (4 * q + 3) = _ from pS_T.trans upd_at] at h156
                exact absurd h156 (by decide)
              · have eR := pPart_5 (T := T) (m := q) e1 e2 n3 h122
                refine j_iconst (v := (nI 1)) C dX7_part_159 (by decide) ?_
                refine j_goto (tgt := 164) C dX7_part_160 (by decide) ?_
                exact j_zret C dX7_part_164 (by first | rfl | exact nar_b2i) (by rw [eR]; first | (refine b2i_t ?_; rfl) | (refine b2i_t ?_; revert n4; cases (qA4 (V 228) bm pl).1 <;> simp) | (rw [n4]; exact b2i_f Bool.false_ne_true)) (by rw [eR]) (by rfl)
            · replace h122 := b2i_1 h122
              rw [if_pos h122]
              have g3 := nx_lt (n := 43) h122 (by omega) (by omega)
              refine j_aload_n C dX7_part_125 rfl rfl ?_
              refine j_iconst (v := (nI 0)) C dX7_part_126 (by decide) ?_
              refine j_ldc (v := nI 100000) C qk_X7_46 dX7_part_127 ?_
              refine j_callV2r C (oa_X7 (by first | assumption | rfl | exact kd_sums (by assumption) | exact kd_st1 (by assumption) | exact kd_st2 (by assumption) | exact kd_ls (by first | assumption | rfl) (by assumption) | exact kd_sb (by first | assumption | rfl) (by assumption) | exact kd_sv (by assumption))) rfl rfl (c_X7_number hb hbm g3 (by omega) (by omega)) qm_X7_127 qi_X7_number qs_X7_number qn_X7 qc_X7_number fit_X7_number ⟨Nat.le_of_ble_eq_true rfl, Nat.le_of_ble_eq_true rfl, Nat.le_of_ble_eq_true rfl, Nat.le_of_ble_eq_true rfl⟩ (Nat.le_of_ble_eq_true rfl) dX7_part_129 ?_
              refine j_goto (tgt := 136) C dX7_part_132 (by decide) ?_
              refine j_iastN C (by first | assumption | rfl | exact kd_sums (by assumption) | exact kd_st1 (by assumption) | exact kd_st2 (by assumption) | exact kd_ls (by first | assumption | rfl) (by assumption) | exact kd_sb (by first | assumption | rfl) (by assumption) | exact kd_sv (by assumption)) rfl rfl (by omega) dX7_part_136 ?_
              refine j_mem (V' := pS V (qA4 (V 228) bm pl).2 q (upd (qT3 (V 228) bm q pl T) (4 * q + 3) (oI (qA4 (V 228) bm pl).1))) (L' := L) pS_putT.symm rfl ?_
              refine j_aload_n C dX7_part_137 rfl rfl ?_
              refine j_dup C dX7_part_138 rfl ?_
              refine jg_LeaseBookModel_many C (by first | assumption | rfl | exact kd_sums (by assumption) | exact kd_st1 (by assumption) | exact kd_st2 (by assumption) | exact kd_ls (by first | assumption | rfl) (by assumption) | exact kd_sb (by first | assumption | rfl) (by assumption) | exact kd_sv (by assumption)) qf_X7_124 dX7_part_139 ?_
              refine j_tope (y := nI q) (by exact pS_8) ?_
              refine j_iconst (v := (nI 1)) C dX7_part_142 (by decide) ?_
              refine j_iaddN C dX7_part_143 ?_
              refine jp_LeaseBookModel_many C (by first | assumption | rfl | exact kd_sums (by assumption) | exact kd_st1 (by assumption) | exact kd_st2 (by assumption) | exact kd_ls (by first | assumption | rfl) (by assumption) | exact kd_sb (by first | assumption | rfl) (by assumption) | exact kd_sv (by assumption)) qf_X7_124 dX7_part_144 ?_
              refine j_mem (V' := pS V (qA4 (V 228) bm pl).2 (q + 1) (upd (qT3 (V 228) bm q pl T) (4 * q + 3) (oI (qA4 (V 228) bm pl).1))) (L' := L) pS_put8.symm rfl ?_
              refine j_aload_n C dX7_part_147 rfl rfl ?_
              refine jg_LeaseBookModel_told C (by first | assumption | rfl | exact kd_sums (by assumption) | exact kd_st1 (by assumption) | exact kd_st2 (by assumption) | exact kd_ls (by first | assumption | rfl) (by assumption) | exact kd_sb (by first | assumption | rfl) (by assumption) | exact kd_sv (by assumption)) qf_X7_22 dX7_part_148 ?_
              refine j_iload_n C dX7_part_151 rfl rfl ?_
              refine j_iconst (v := (nI 3)) C dX7_part_152 (by decide) ?_
              refine j_iaddN C dX7_part_153 ?_
              refine j_ialdN C (by first | assumption | rfl | exact kd_sums (by assumption) | exact kd_st1 (by assumption) | exact kd_st2 (by assumption) | exact kd_ls (by first | assumption | rfl) (by assumption) | exact kd_sb (by first | assumption | rfl) (by assumption) | exact kd_sv (by assumption)) rfl rfl (by omega) dX7_part_154 ?_
              refine j_iconst (v := (-1)) C dX7_part_155 (by decide) ?_
              refine j_icmp_eq (tgt := 163) C dX7_part_156 (by decide) (fun h156 => ?_) (fun h156 => ?_)
              · rw [show pS V _ _ _ 229 (4 * q + 3) = _ from pS_T.trans upd_at] at h156
                have n4 := oI_nb h156 (pNum_hi (B := V 228) (bm := bm) (lo := 0) (hi := 100000) (bm - ((qA3 (V 228) bm pl).2 + 1)) none ((qA3 (V 228) bm pl).2 + 1) (fun a z => by cases z)) (by omega)
                have eR := pPart_4 (T := T) (m := q) e1 e2 n3 h122
                refine j_iconst (v := (nI 0)) C dX7_part_163 (by decide) ?_
                exact j_zret C dX7_part_164 (by first | rfl | exact nar_b2i) (by rw [eR]; first | (refine b2i_t ?_; rfl) | (refine b2i_t ?_; revert n4; cases (qA4 (V 228) bm pl).1 <;> simp) | (rw [n4]; exact b2i_f Bool.false_ne_true)) (by rw [eR]) (by rfl)
              · rw [show pS V _ _ _ 229 (4 * q + 3) = _ from pS_T.trans upd_at] at h156
                have n4 := oI_sb h156
                have eR := pPart_4 (T := T) (m := q) e1 e2 n3 h122
                refine j_iconst (v := (nI 1)) C dX7_part_159 (by decide) ?_
                refine j_goto (tgt := 164) C dX7_part_160 (by decide) ?_
                exact j_zret C dX7_part_164 (by first | rfl | exact nar_b2i) (by rw [eR]; first | (refine b2i_t ?_; rfl) | (refine b2i_t ?_; revert n4; cases (qA4 (V 228) bm pl).1 <;> simp) | (rw [n4]; exact b2i_f Bool.false_ne_true)) (by rw [eR]) (by rfl)
          · have n3 := oI_nb h104 (pNum_hi (B := V 228) (bm := bm) (lo := 0) (hi := 2000) (bm - ((qA2 (V 228) bm pl).2 + 1)) none ((qA2 (V 228) bm pl).2 + 1) (fun a z => by cases z)) (by omega)
            refine j_iconst (v := (nI 0)) C dX7_part_107 (by decide) ?_
            exact j_zret C dX7_part_108 (by first | rfl | exact nar_b2i) (by rw [pPart_3 e1 e2 n3]; exact b2i_f Bool.false_ne_true) (by rw [pPart_3 e1 e2 n3]) (by rfl)
        · replace h74 := b2i_0 h74
          rw [if_neg h74]
          have e2 : qE2 (V 228) bm pl := Or.inr h74
          refine j_iconst (v := (nI 0)) C dX7_part_77 (by decide) ?_
          exact j_zret C dX7_part_78 (by first | rfl | exact nar_b2i) (by rw [pPart_2 e1 e2]; exact b2i_f Bool.false_ne_true) (by rw [pPart_2 e1 e2]) (by rfl)
    · replace h36 := b2i_0 h36
      rw [if_neg h36]
      have e1 : qE1 (V 228) bm pl := Or.inr h36
      refine j_iconst (v := (nI 0)) C dX7_part_39 (by decide) ?_
      exact j_zret C dX7_part_40 (by first | rfl | exact nar_b2i) (by rw [pPart_1 e1]; exact b2i_f Bool.false_ne_true) (by rw [pPart_1 e1]) (by rfl)
