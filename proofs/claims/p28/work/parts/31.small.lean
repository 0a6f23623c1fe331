/-! THE LAW'S SMALL METHODS (laid by wip/p28/p31.py) -/
set_option maxHeartbeats 4000000 in
theorem c_L_at {l : Launch} {g : GC} {V : Mem} {L : LMem} {X n : Nat} (hX : X < 2 ^ 31) (h0 : 0 < n) (hn : n < 2 ^ 31) : MC l yL_at cL_at 2 (some .int) 0 g V L [.int (nI X), .int (nI n)] (some (.int (nI (atN X n)))) V L := by
  refine MC.of [some (.int (nI X)), some (.int (nI n))] (by decide +kernel) rfl (Nat.le_of_ble_eq_true rfl) (fun p e s m args below meth c C => ?_)
  refine j_iload_n C dL_at_0 rfl rfl ?_
  refine j_iconst (v := (nI 1)) C dL_at_1 (by decide) ?_
  refine j_iushr C dL_at_2 ?_
  refine j_tope (y := nI (X / 2)) (by exact ush1 hX) ?_
  refine j_iload_n C dL_at_3 rfl rfl ?_
  refine j_irem C dL_at_4 (by exact nI_ne0 h0 hn) ?_
  refine j_tope (y := nI (atN X n)) (by exact pk_rem (by omega) h0 hn) ?_
  exact j_iret C dL_at_5 (by rfl) (by rfl) (by rfl)
set_option maxHeartbeats 4000000 in
theorem c_L_part {l : Launch} {g : GC} {V : Mem} {L : LMem} {v t : Int32} : MC l yL_part cL_part 2 (some .int) 0 g V L [.int v, .int t] (some (.int (prt v t))) V L := by
  refine MC.of [some (.int v), some (.int t)] (by decide +kernel) rfl (Nat.le_of_ble_eq_true rfl) (fun p e s m args below meth c C => ?_)
  refine j_lconst (v := 1) C dL_part_0 (by decide) ?_
  refine j_iload_n C dL_part_1 rfl rfl ?_
  refine j_i2l C dL_part_2 ?_
  refine j_lmul C dL_part_3 ?_
  refine j_iload_n C dL_part_4 rfl rfl ?_
  refine j_i2l C dL_part_5 ?_
  refine j_lmul C dL_part_6 ?_
  refine j_ldc2 C qk_L_12 dL_part_7 ?_
  refine j_ldiv C dL_part_10 (by decide) ?_
  refine j_l2i C dL_part_11 ?_
  exact j_iret C dL_part_12 (by unfold prt; rw [Int64.one_mul]) (by rfl) (by rfl)
set_option maxHeartbeats 4000000 in
theorem lp_L_worth {p : Program} {l : Launch} {e : Env} {s : State} {m : MethodId} {args : Array Value} {below : List Frame} {meth : Method} {c : Code} {g : GC} {Q : State → Prop} {V : Mem} {L : LMem} {P N Z : Nat} (C : Cx p s args m meth c cL_worth 10 yL_worth.cls (some .int) g) (hP : P ≤ 100000) (hN : N ≤ 60) (hZ : Z ≤ 2000) (kx : J p l e (RM 0) s m args below meth c 10 g 0 0 Q V L 70 [some (.int (nI P)), some (.int (nI N)), some (.int (nI Z)), some (.long (lN (wN P Z (N)))), none, some (.int (nI (N))), none, none, none, none] []) : ∀ j i : Nat, i + j = N → J p l e (RM 0) s m args below meth c 10 g 0 0 Q V L 5 [some (.int (nI P)), some (.int (nI N)), some (.int (nI Z)), some (.long (lN (wN P Z i))), none, some (.int (nI i)), none, none, none, none] [] := by
  intro j
  induction j with
  | zero =>
    intro i hi
    have hi : N = i := by omega
    subst hi
    refine j_iload C dL_worth_5 rfl ?_
    refine j_iload_n C dL_worth_7 rfl rfl ?_
    refine j_icmp_ge (tgt := 70) C dL_worth_8 (by decide) (fun h8 => ?_) (fun h8 => absurd (nI_le (by omega) (by omega)) h8)
    exact kx
  | succ j ih =>
    intro i hi
    have hb0 := wN_b (z := Z) hP (show i ≤ 60 by omega)
    have hm0 := Nat.mod_lt ((wN P Z i + P) * 10000) (show 0 < 10000 + Z by omega)
    refine j_iload C dL_worth_5 rfl ?_
    refine j_iload_n C dL_worth_7 rfl rfl ?_
    refine j_icmp_ge (tgt := 70) C dL_worth_8 (by decide) (fun h8 => absurd h8 (nI_ge (by omega) (by omega))) (fun h8 => ?_)
    refine j_lload_n C dL_worth_11 rfl rfl ?_
    refine j_iload_n C dL_worth_12 rfl rfl ?_
    refine j_i2l C dL_worth_13 ?_
    refine j_ladd C dL_worth_14 ?_
    refine j_ldc2 C qk_L_8 dL_worth_15 ?_
    refine j_lmul C dL_worth_18 ?_
    refine j_topel (y := lN ((wN P Z i + P) * 10000)) (by rw [nI_l (by omega), lN_add]; exact lN_mul _ 10000) ?_
    refine j_lst6 C dL_worth_19 (Nat.le_of_ble_eq_true rfl) rfl ?_
    refine j_lload C dL_worth_21 rfl ?_
    refine j_ldc2 C qk_L_8 dL_worth_23 ?_
    refine j_iload_n C dL_worth_26 rfl rfl ?_
    refine j_i2l C dL_worth_27 ?_
    refine j_ladd C dL_worth_28 ?_
    refine j_topel (y := lN (10000 + Z)) (by rw [nI_l (by omega)]; exact lN_add 10000 Z) ?_
    refine j_lrem C dL_worth_29 (by intro q; exact absurd ((pk_lEQ (a := 10000 + Z) (b := 0) (by omega) (by omega)).mp q) (by omega)) ?_
    refine j_topel (y := lN (((wN P Z i + P) * 10000) % (10000 + Z))) (by exact pk_lRem (by omega) (by omega) (by omega)) ?_
    refine j_lst8 C dL_worth_30 (Nat.le_of_ble_eq_true rfl) rfl ?_
    refine j_lload C dL_worth_32 rfl ?_
    refine j_ldc2 C qk_L_8 dL_worth_34 ?_
    refine j_iload_n C dL_worth_37 rfl rfl ?_
    refine j_i2l C dL_worth_38 ?_
    refine j_ladd C dL_worth_39 ?_
    refine j_topel (y := lN (10000 + Z)) (by rw [nI_l (by omega)]; exact lN_add 10000 Z) ?_
    refine j_ldiv C dL_worth_40 (by intro q; exact absurd ((pk_lEQ (a := 10000 + Z) (b := 0) (by omega) (by omega)).mp q) (by omega)) ?_
    refine j_topel (y := lN (((wN P Z i + P) * 10000) / (10000 + Z))) (by exact pk_lDiv (by omega) (by omega) (by omega)) ?_
    refine j_ldc2 C qk_L_10 dL_worth_41 ?_
    refine j_lload C dL_worth_44 rfl ?_
    refine j_lmul C dL_worth_46 ?_
    refine j_topel (y := lN (2 * (((wN P Z i + P) * 10000) % (10000 + Z)))) (by exact lN_mul 2 _) ?_
    refine j_ldc2 C qk_L_8 dL_worth_47 ?_
    refine j_iload_n C dL_worth_50 rfl rfl ?_
    refine j_i2l C dL_worth_51 ?_
    refine j_ladd C dL_worth_52 ?_
    refine j_topel (y := lN (10000 + Z)) (by rw [nI_l (by omega)]; exact lN_add 10000 Z) ?_
    refine j_lcmp C dL_worth_53 ?_
    refine j_if_lt (tgt := 61) C dL_worth_54 (by decide) (fun h54 => ?_) (fun h54 => ?_)
    · have hr : 2 * (((wN P Z i + P) * 10000) % (10000 + Z)) < (10000 + Z) := Nat.not_le.mp (fun q => absurd ((lg_cmp_ge _ _).mpr ((pk_lLE (by omega) (by omega)).mpr q)) (Int32.not_le.mpr h54))
      refine j_lconst (v := 0) C dL_worth_61 (by decide) ?_
      refine j_ladd C dL_worth_62 ?_
      refine j_topel (y := lN (wN P Z (i + 1))) (by rw [wN_law]; first | (rw [if_pos hr]; exact lN_add _ 0) | (rw [if_neg hr]; exact lN_add _ 1)) ?_
      refine j_lst3 C dL_worth_63 rfl (Nat.le_of_ble_eq_true rfl) rfl ?_
      refine j_incN5 (q := 1) C dL_worth_64 (by decide) (Nat.le_of_ble_eq_true rfl) rfl ?_
      refine j_goto (tgt := 5) C dL_worth_67 (by decide) ?_
      refine j_mem (V' := V) (L' := L) (by rfl) rfl ?_
      exact j_dr (lv' := [some (.int (nI P)), some (.int (nI N)), some (.int (nI Z)), some (.long (lN (wN P Z (i + 1)))), none, some (.int (nI (i + 1))), none, none, none, none]) (And.intro rfl (And.intro rfl (And.intro rfl (And.intro rfl (And.intro rfl True.intro))))) (ih (i + 1) (by omega))
    · have hr : ¬ 2 * (((wN P Z i + P) * 10000) % (10000 + Z)) < (10000 + Z) := fun q => h54 (Int32.not_le.mp (fun z => absurd ((pk_lLE (by omega) (by omega)).mp ((lg_cmp_ge _ _).mp z)) (by omega)))
      refine j_lconst (v := 1) C dL_worth_57 (by decide) ?_
      refine j_goto (tgt := 62) C dL_worth_58 (by decide) ?_
      refine j_ladd C dL_worth_62 ?_
      refine j_topel (y := lN (wN P Z (i + 1))) (by rw [wN_law]; first | (rw [if_pos hr]; exact lN_add _ 0) | (rw [if_neg hr]; exact lN_add _ 1)) ?_
      refine j_lst3 C dL_worth_63 rfl (Nat.le_of_ble_eq_true rfl) rfl ?_
      refine j_incN5 (q := 1) C dL_worth_64 (by decide) (Nat.le_of_ble_eq_true rfl) rfl ?_
      refine j_goto (tgt := 5) C dL_worth_67 (by decide) ?_
      refine j_mem (V' := V) (L' := L) (by rfl) rfl ?_
      exact j_dr (lv' := [some (.int (nI P)), some (.int (nI N)), some (.int (nI Z)), some (.long (lN (wN P Z (i + 1)))), none, some (.int (nI (i + 1))), none, none, none, none]) (And.intro rfl (And.intro rfl (And.intro rfl (And.intro rfl (And.intro rfl True.intro))))) (ih (i + 1) (by omega))
set_option maxHeartbeats 4000000 in
theorem c_L_worthN {l : Launch} {g : GC} {V : Mem} {L : LMem} {P N Z : Nat} (hP : P ≤ 100000) (hN : N ≤ 60) (hZ : Z ≤ 2000) : MC l yL_worth cL_worth 10 (some .int) 0 g V L [.int (nI P), .int (nI N), .int (nI Z)] (some (.int (nI (wN P Z N)))) V L := by
  refine MC.of [some (.int (nI P)), some (.int (nI N)), some (.int (nI Z)), none, none, none, none, none, none, none] (by decide +kernel) rfl (Nat.le_of_ble_eq_true rfl) (fun p e s m args below meth c C => ?_)
  refine j_lconst (v := 0) C dL_worth_0 (by decide) ?_
  refine j_lst3 C dL_worth_1 rfl (Nat.le_of_ble_eq_true rfl) rfl ?_
  refine j_iconst (v := (nI 0)) C dL_worth_2 (by decide) ?_
  refine j_ist5 C dL_worth_3 (Nat.le_of_ble_eq_true rfl) rfl ?_
  refine lp_L_worth C hP hN hZ ?_ N 0 (by omega)
  refine j_lload_n C dL_worth_70 rfl rfl ?_
  refine j_l2i C dL_worth_71 ?_
  exact j_iret C dL_worth_72 (by rw [lN_i]) (by rfl) (by rfl)
theorem c_L_worth {l : Launch} {g : GC} {V : Mem} {L : LMem} {p n z : Int32} (hp : money p) (hn : perR n) (hz : rateR z) : MC l yL_worth cL_worth 10 (some .int) 0 g V L [.int p, .int n, .int z] (some (.int (wor p n z))) V L := by
  obtain ⟨P, h1, rfl⟩ := mon_of hp
  obtain ⟨N, h2, rfl⟩ := per_of hn
  obtain ⟨Z, h3, rfl⟩ := rate_of hz
  rw [wor_N h1 h2 h3]
  exact c_L_worthN h1 h2 h3
/-- what a sublease's row gives for property w -/
def lF (V : Mem) (w q : Nat) : Int32 := if w = 5 then V 227 (12 + q) else if V 226 (4 * q + 3) = 0 then nI 0 else if w = 7 then V 226 (4 * q + 1) else nI 1
def lOf (V : Mem) (k w ns : Nat) : Int32 := sF (fun q => decide (V 226 (4 * q) = nI k)) (lF V w) ns
theorem lF5 {V : Mem} {q : Nat} : lF V 5 q = V 227 (12 + q) := rfl
theorem lF7 {V : Mem} {q : Nat} (h : ¬ V 226 (4 * q + 3) = 0) : lF V 7 q = V 226 (4 * q + 1) := by unfold lF; rw [if_neg (by omega), if_neg h, if_pos rfl]
theorem lF8 {V : Mem} {q : Nat} (h : ¬ V 226 (4 * q + 3) = 0) : lF V 8 q = nI 1 := by unfold lF; rw [if_neg (by omega), if_neg h, if_neg (by omega)]
theorem lF0 {V : Mem} {w q : Nat} (hw : w ≠ 5) (h : V 226 (4 * q + 3) = 0) : lF V w q = nI 0 := by unfold lF; rw [if_neg hw, if_pos h]
set_option maxHeartbeats 4000000 in
theorem lp_L_off5 {p : Program} {l : Launch} {e : Env} {s : State} {m : MethodId} {args : Array Value} {below : List Frame} {meth : Method} {c : Code} {g : GC} {Q : State → Prop} {V : Mem} {L : LMem} {k ns : Nat} (C : Cx p s args m meth c cL_off 7 yL_off.cls (some .int) g) (h1 : V 224 1 = nI ns) (h12 : ns ≤ 12) (kx : J p l e (RM 0) s m args below meth c 7 g 0 0 Q V L 87 [some (.int (nI k)), some (.int (nI 5)), some (.ref (ad g 224)), some (.ref (ad g 226)), some (.ref (ad g 227)), some (.int (sF (fun q => decide (V 226 (4 * q) = nI k)) (lF V 5) (ns))), some (.int (nI (ns)))] []) : ∀ j i : Nat, i + j = ns → J p l e (RM 0) s m args below meth c 7 g 0 0 Q V L 6 [some (.int (nI k)), some (.int (nI 5)), some (.ref (ad g 224)), some (.ref (ad g 226)), some (.ref (ad g 227)), some (.int (sF (fun q => decide (V 226 (4 * q) = nI k)) (lF V 5) i)), some (.int (nI i))] [] := by
  intro j
  induction j with
  | zero =>
    intro i hi
    have hi : ns = i := by omega
    subst hi
    refine j_iload C dL_off_6 rfl ?_
    refine j_aload_n C dL_off_8 rfl rfl ?_
    refine j_iconst (v := (nI 1)) C dL_off_9 (by decide) ?_
    refine j_ialdN C (by first | assumption | rfl) rfl rfl (by omega) dL_off_10 ?_
    refine j_tope (y := nI ns) (by exact h1) ?_
    refine j_icmp_ge (tgt := 87) C dL_off_11 (by decide) (fun h11 => ?_) (fun h11 => absurd (nI_le (by omega) (by omega)) h11)
    exact kx
  | succ j ih =>
    intro i hi
    refine j_iload C dL_off_6 rfl ?_
    refine j_aload_n C dL_off_8 rfl rfl ?_
    refine j_iconst (v := (nI 1)) C dL_off_9 (by decide) ?_
    refine j_ialdN C (by first | assumption | rfl) rfl rfl (by omega) dL_off_10 ?_
    refine j_tope (y := nI ns) (by exact h1) ?_
    refine j_icmp_ge (tgt := 87) C dL_off_11 (by decide) (fun h11 => absurd h11 (nI_ge (by omega) (by omega))) (fun h11 => ?_)
    refine j_aload_n C dL_off_14 rfl rfl ?_
    refine j_iconst (v := (nI 4)) C dL_off_15 (by decide) ?_
    refine j_iload C dL_off_16 rfl ?_
    refine j_imulN C dL_off_18 ?_
    refine j_ialdN C (by first | assumption | rfl) rfl rfl (by omega) dL_off_19 ?_
    refine j_iload_n C dL_off_20 rfl rfl ?_
    refine j_icmp_eq (tgt := 27) C dL_off_21 (by decide) (fun h21 => ?_) (fun h21 => ?_)
    · refine j_iload C dL_off_27 rfl ?_
      refine j_iload_n C dL_off_29 rfl rfl ?_
      refine j_iconst (v := (nI 5)) C dL_off_30 (by decide) ?_
      refine j_icmp_ne (tgt := 45) C dL_off_31 (by decide) (fun h31 => (by exact absurd h31 (by decide))) (fun h31 => ?_)
      refine j_aload C dL_off_34 rfl ?_
      refine j_bipush (v := (nI 12)) C dL_off_36 (by decide) ?_
      refine j_iload C dL_off_38 rfl ?_
      refine j_iaddN C dL_off_40 ?_
      refine j_ialdN C (by first | assumption | rfl) rfl rfl (by omega) dL_off_41 ?_
      refine j_goto (tgt := 78) C dL_off_42 (by decide) ?_
      refine j_iadd C dL_off_78 ?_
      refine j_ist5 C dL_off_79 (Nat.le_of_ble_eq_true rfl) rfl ?_
      refine j_incN6 (q := 1) C dL_off_81 (by decide) (Nat.le_of_ble_eq_true rfl) rfl ?_
      refine j_goto (tgt := 6) C dL_off_84 (by decide) ?_
      refine j_mem (V' := V) (L' := L) (by rfl) rfl ?_
      exact j_dr (lv' := [some (.int (nI k)), some (.int (nI 5)), some (.ref (ad g 224)), some (.ref (ad g 226)), some (.ref (ad g 227)), some (.int (sF (fun q => decide (V 226 (4 * q) = nI k)) (lF V 5) (i + 1))), some (.int (nI (i + 1)))]) (And.intro rfl (And.intro rfl (And.intro rfl (And.intro rfl (And.intro rfl (And.intro (by first | exact cgI (sF_f (mt of_decide_eq_true h21)) | exact cgI (sF_t2 (decide_eq_true h21) lF5) | exact cgI (sF_t2 (decide_eq_true h21) (lF0 (by decide) h53)) | exact cgI (sF_t2 (decide_eq_true h21) (lF7 h53)) | exact cgI (sF_t2 (decide_eq_true h21) (lF8 h53))) (And.intro rfl True.intro))))))) (ih (i + 1) (by omega))
    · refine j_goto (tgt := 81) C dL_off_24 (by decide) ?_
      refine j_incN6 (q := 1) C dL_off_81 (by decide) (Nat.le_of_ble_eq_true rfl) rfl ?_
      refine j_goto (tgt := 6) C dL_off_84 (by decide) ?_
      refine j_mem (V' := V) (L' := L) (by rfl) rfl ?_
      exact j_dr (lv' := [some (.int (nI k)), some (.int (nI 5)), some (.ref (ad g 224)), some (.ref (ad g 226)), some (.ref (ad g 227)), some (.int (sF (fun q => decide (V 226 (4 * q) = nI k)) (lF V 5) (i + 1))), some (.int (nI (i + 1)))]) (And.intro rfl (And.intro rfl (And.intro rfl (And.intro rfl (And.intro rfl (And.intro (by first | exact cgI (sF_f (mt of_decide_eq_true h21)) | exact cgI (sF_t2 (decide_eq_true h21) lF5) | exact cgI (sF_t2 (decide_eq_true h21) (lF0 (by decide) h53)) | exact cgI (sF_t2 (decide_eq_true h21) (lF7 h53)) | exact cgI (sF_t2 (decide_eq_true h21) (lF8 h53))) (And.intro rfl True.intro))))))) (ih (i + 1) (by omega))
set_option maxHeartbeats 4000000 in
theorem c_L_off5 {l : Launch} {g : GC} {V : Mem} {L : LMem} {k ns : Nat} (h1 : V 224 1 = nI ns) (h12 : ns ≤ 12) : MC l yL_off cL_off 7 (some .int) 0 g V L [.int (nI k), .int (nI 5), .ref (ad g 224), .ref (ad g 226), .ref (ad g 227)] (some (.int (lOf V k 5 ns))) V L := by
  refine MC.of [some (.int (nI k)), some (.int (nI 5)), some (.ref (ad g 224)), some (.ref (ad g 226)), some (.ref (ad g 227)), none, none] (by decide +kernel) rfl (Nat.le_of_ble_eq_true rfl) (fun p e s m args below meth c C => ?_)
  refine j_iconst (v := (nI 0)) C dL_off_0 (by decide) ?_
  refine j_ist5 C dL_off_1 (Nat.le_of_ble_eq_true rfl) rfl ?_
  refine j_iconst (v := (nI 0)) C dL_off_3 (by decide) ?_
  refine j_ist6 C dL_off_4 (Nat.le_of_ble_eq_true rfl) rfl ?_
  refine lp_L_off5 C h1 h12 ?_ ns 0 (by omega)
  refine j_iload C dL_off_87 rfl ?_
  exact j_iret C dL_off_89 (by rfl) (by rfl) (by rfl)
set_option maxHeartbeats 4000000 in
theorem lp_L_off7 {p : Program} {l : Launch} {e : Env} {s : State} {m : MethodId} {args : Array Value} {below : List Frame} {meth : Method} {c : Code} {g : GC} {Q : State → Prop} {V : Mem} {L : LMem} {k ns : Nat} (C : Cx p s args m meth c cL_off 7 yL_off.cls (some .int) g) (h1 : V 224 1 = nI ns) (h12 : ns ≤ 12) (kx : J p l e (RM 0) s m args below meth c 7 g 0 0 Q V L 87 [some (.int (nI k)), some (.int (nI 7)), some (.ref (ad g 224)), some (.ref (ad g 226)), some (.ref (ad g 227)), some (.int (sF (fun q => decide (V 226 (4 * q) = nI k)) (lF V 7) (ns))), some (.int (nI (ns)))] []) : ∀ j i : Nat, i + j = ns → J p l e (RM 0) s m args below meth c 7 g 0 0 Q V L 6 [some (.int (nI k)), some (.int (nI 7)), some (.ref (ad g 224)), some (.ref (ad g 226)), some (.ref (ad g 227)), some (.int (sF (fun q => decide (V 226 (4 * q) = nI k)) (lF V 7) i)), some (.int (nI i))] [] := by
  intro j
  induction j with
  | zero =>
    intro i hi
    have hi : ns = i := by omega
    subst hi
    refine j_iload C dL_off_6 rfl ?_
    refine j_aload_n C dL_off_8 rfl rfl ?_
    refine j_iconst (v := (nI 1)) C dL_off_9 (by decide) ?_
    refine j_ialdN C (by first | assumption | rfl) rfl rfl (by omega) dL_off_10 ?_
    refine j_tope (y := nI ns) (by exact h1) ?_
    refine j_icmp_ge (tgt := 87) C dL_off_11 (by decide) (fun h11 => ?_) (fun h11 => absurd (nI_le (by omega) (by omega)) h11)
    exact kx
  | succ j ih =>
    intro i hi
    refine j_iload C dL_off_6 rfl ?_
    refine j_aload_n C dL_off_8 rfl rfl ?_
    refine j_iconst (v := (nI 1)) C dL_off_9 (by decide) ?_
    refine j_ialdN C (by first | assumption | rfl) rfl rfl (by omega) dL_off_10 ?_
    refine j_tope (y := nI ns) (by exact h1) ?_
    refine j_icmp_ge (tgt := 87) C dL_off_11 (by decide) (fun h11 => absurd h11 (nI_ge (by omega) (by omega))) (fun h11 => ?_)
    refine j_aload_n C dL_off_14 rfl rfl ?_
    refine j_iconst (v := (nI 4)) C dL_off_15 (by decide) ?_
    refine j_iload C dL_off_16 rfl ?_
    refine j_imulN C dL_off_18 ?_
    refine j_ialdN C (by first | assumption | rfl) rfl rfl (by omega) dL_off_19 ?_
    refine j_iload_n C dL_off_20 rfl rfl ?_
    refine j_icmp_eq (tgt := 27) C dL_off_21 (by decide) (fun h21 => ?_) (fun h21 => ?_)
    · refine j_iload C dL_off_27 rfl ?_
      refine j_iload_n C dL_off_29 rfl rfl ?_
      refine j_iconst (v := (nI 5)) C dL_off_30 (by decide) ?_
      refine j_icmp_ne (tgt := 45) C dL_off_31 (by decide) (fun h31 => ?_) (fun h31 => (by exact absurd h31 (by decide)))
      refine j_aload_n C dL_off_45 rfl rfl ?_
      refine j_iconst (v := (nI 4)) C dL_off_46 (by decide) ?_
      refine j_iload C dL_off_47 rfl ?_
      refine j_imulN C dL_off_49 ?_
      refine j_iconst (v := (nI 3)) C dL_off_50 (by decide) ?_
      refine j_iaddN C dL_off_51 ?_
      refine j_ialdN C (by first | assumption | rfl) rfl rfl (by omega) dL_off_52 ?_
      refine j_if_ne (tgt := 60) C dL_off_53 (by decide) (fun h53 => ?_) (fun h53 => ?_)
      · refine j_iload_n C dL_off_60 rfl rfl ?_
        refine j_bipush (v := (nI 7)) C dL_off_61 (by decide) ?_
        refine j_icmp_ne (tgt := 77) C dL_off_63 (by decide) (fun h63 => (by exact absurd h63 (by decide))) (fun h63 => ?_)
        refine j_aload_n C dL_off_66 rfl rfl ?_
        refine j_iconst (v := (nI 4)) C dL_off_67 (by decide) ?_
        refine j_iload C dL_off_68 rfl ?_
        refine j_imulN C dL_off_70 ?_
        refine j_iconst (v := (nI 1)) C dL_off_71 (by decide) ?_
        refine j_iaddN C dL_off_72 ?_
        refine j_ialdN C (by first | assumption | rfl) rfl rfl (by omega) dL_off_73 ?_
        refine j_goto (tgt := 78) C dL_off_74 (by decide) ?_
        refine j_iadd C dL_off_78 ?_
        refine j_ist5 C dL_off_79 (Nat.le_of_ble_eq_true rfl) rfl ?_
        refine j_incN6 (q := 1) C dL_off_81 (by decide) (Nat.le_of_ble_eq_true rfl) rfl ?_
        refine j_goto (tgt := 6) C dL_off_84 (by decide) ?_
        refine j_mem (V' := V) (L' := L) (by rfl) rfl ?_
        exact j_dr (lv' := [some (.int (nI k)), some (.int (nI 7)), some (.ref (ad g 224)), some (.ref (ad g 226)), some (.ref (ad g 227)), some (.int (sF (fun q => decide (V 226 (4 * q) = nI k)) (lF V 7) (i + 1))), some (.int (nI (i + 1)))]) (And.intro rfl (And.intro rfl (And.intro rfl (And.intro rfl (And.intro rfl (And.intro (by first | exact cgI (sF_f (mt of_decide_eq_true h21)) | exact cgI (sF_t2 (decide_eq_true h21) lF5) | exact cgI (sF_t2 (decide_eq_true h21) (lF0 (by decide) h53)) | exact cgI (sF_t2 (decide_eq_true h21) (lF7 h53)) | exact cgI (sF_t2 (decide_eq_true h21) (lF8 h53))) (And.intro rfl True.intro))))))) (ih (i + 1) (by omega))
      · refine j_iconst (v := (nI 0)) C dL_off_56 (by decide) ?_
        refine j_goto (tgt := 78) C dL_off_57 (by decide) ?_
        refine j_iadd C dL_off_78 ?_
        refine j_ist5 C dL_off_79 (Nat.le_of_ble_eq_true rfl) rfl ?_
        refine j_incN6 (q := 1) C dL_off_81 (by decide) (Nat.le_of_ble_eq_true rfl) rfl ?_
        refine j_goto (tgt := 6) C dL_off_84 (by decide) ?_
        refine j_mem (V' := V) (L' := L) (by rfl) rfl ?_
        exact j_dr (lv' := [some (.int (nI k)), some (.int (nI 7)), some (.ref (ad g 224)), some (.ref (ad g 226)), some (.ref (ad g 227)), some (.int (sF (fun q => decide (V 226 (4 * q) = nI k)) (lF V 7) (i + 1))), some (.int (nI (i + 1)))]) (And.intro rfl (And.intro rfl (And.intro rfl (And.intro rfl (And.intro rfl (And.intro (by first | exact cgI (sF_f (mt of_decide_eq_true h21)) | exact cgI (sF_t2 (decide_eq_true h21) lF5) | exact cgI (sF_t2 (decide_eq_true h21) (lF0 (by decide) h53)) | exact cgI (sF_t2 (decide_eq_true h21) (lF7 h53)) | exact cgI (sF_t2 (decide_eq_true h21) (lF8 h53))) (And.intro rfl True.intro))))))) (ih (i + 1) (by omega))
    · refine j_goto (tgt := 81) C dL_off_24 (by decide) ?_
      refine j_incN6 (q := 1) C dL_off_81 (by decide) (Nat.le_of_ble_eq_true rfl) rfl ?_
      refine j_goto (tgt := 6) C dL_off_84 (by decide) ?_
      refine j_mem (V' := V) (L' := L) (by rfl) rfl ?_
      exact j_dr (lv' := [some (.int (nI k)), some (.int (nI 7)), some (.ref (ad g 224)), some (.ref (ad g 226)), some (.ref (ad g 227)), some (.int (sF (fun q => decide (V 226 (4 * q) = nI k)) (lF V 7) (i + 1))), some (.int (nI (i + 1)))]) (And.intro rfl (And.intro rfl (And.intro rfl (And.intro rfl (And.intro rfl (And.intro (by first | exact cgI (sF_f (mt of_decide_eq_true h21)) | exact cgI (sF_t2 (decide_eq_true h21) lF5) | exact cgI (sF_t2 (decide_eq_true h21) (lF0 (by decide) h53)) | exact cgI (sF_t2 (decide_eq_true h21) (lF7 h53)) | exact cgI (sF_t2 (decide_eq_true h21) (lF8 h53))) (And.intro rfl True.intro))))))) (ih (i + 1) (by omega))
set_option maxHeartbeats 4000000 in
theorem c_L_off7 {l : Launch} {g : GC} {V : Mem} {L : LMem} {k ns : Nat} (h1 : V 224 1 = nI ns) (h12 : ns ≤ 12) : MC l yL_off cL_off 7 (some .int) 0 g V L [.int (nI k), .int (nI 7), .ref (ad g 224), .ref (ad g 226), .ref (ad g 227)] (some (.int (lOf V k 7 ns))) V L := by
  refine MC.of [some (.int (nI k)), some (.int (nI 7)), some (.ref (ad g 224)), some (.ref (ad g 226)), some (.ref (ad g 227)), none, none] (by decide +kernel) rfl (Nat.le_of_ble_eq_true rfl) (fun p e s m args below meth c C => ?_)
  refine j_iconst (v := (nI 0)) C dL_off_0 (by decide) ?_
  refine j_ist5 C dL_off_1 (Nat.le_of_ble_eq_true rfl) rfl ?_
  refine j_iconst (v := (nI 0)) C dL_off_3 (by decide) ?_
  refine j_ist6 C dL_off_4 (Nat.le_of_ble_eq_true rfl) rfl ?_
  refine lp_L_off7 C h1 h12 ?_ ns 0 (by omega)
  refine j_iload C dL_off_87 rfl ?_
  exact j_iret C dL_off_89 (by rfl) (by rfl) (by rfl)
set_option maxHeartbeats 4000000 in
theorem lp_L_off8 {p : Program} {l : Launch} {e : Env} {s : State} {m : MethodId} {args : Array Value} {below : List Frame} {meth : Method} {c : Code} {g : GC} {Q : State → Prop} {V : Mem} {L : LMem} {k ns : Nat} (C : Cx p s args m meth c cL_off 7 yL_off.cls (some .int) g) (h1 : V 224 1 = nI ns) (h12 : ns ≤ 12) (kx : J p l e (RM 0) s m args below meth c 7 g 0 0 Q V L 87 [some (.int (nI k)), some (.int (nI 8)), some (.ref (ad g 224)), some (.ref (ad g 226)), some (.ref (ad g 227)), some (.int (sF (fun q => decide (V 226 (4 * q) = nI k)) (lF V 8) (ns))), some (.int (nI (ns)))] []) : ∀ j i : Nat, i + j = ns → J p l e (RM 0) s m args below meth c 7 g 0 0 Q V L 6 [some (.int (nI k)), some (.int (nI 8)), some (.ref (ad g 224)), some (.ref (ad g 226)), some (.ref (ad g 227)), some (.int (sF (fun q => decide (V 226 (4 * q) = nI k)) (lF V 8) i)), some (.int (nI i))] [] := by
  intro j
  induction j with
  | zero =>
    intro i hi
    have hi : ns = i := by omega
    subst hi
    refine j_iload C dL_off_6 rfl ?_
    refine j_aload_n C dL_off_8 rfl rfl ?_
    refine j_iconst (v := (nI 1)) C dL_off_9 (by decide) ?_
    refine j_ialdN C (by first | assumption | rfl) rfl rfl (by omega) dL_off_10 ?_
    refine j_tope (y := nI ns) (by exact h1) ?_
    refine j_icmp_ge (tgt := 87) C dL_off_11 (by decide) (fun h11 => ?_) (fun h11 => absurd (nI_le (by omega) (by omega)) h11)
    exact kx
  | succ j ih =>
    intro i hi
    refine j_iload C dL_off_6 rfl ?_
    refine j_aload_n C dL_off_8 rfl rfl ?_
    refine j_iconst (v := (nI 1)) C dL_off_9 (by decide) ?_
    refine j_ialdN C (by first | assumption | rfl) rfl rfl (by omega) dL_off_10 ?_
    refine j_tope (y := nI ns) (by exact h1) ?_
    refine j_icmp_ge (tgt := 87) C dL_off_11 (by decide) (fun h11 => absurd h11 (nI_ge (by omega) (by omega))) (fun h11 => ?_)
    refine j_aload_n C dL_off_14 rfl rfl ?_
    refine j_iconst (v := (nI 4)) C dL_off_15 (by decide) ?_
    refine j_iload C dL_off_16 rfl ?_
    refine j_imulN C dL_off_18 ?_
    refine j_ialdN C (by first | assumption | rfl) rfl rfl (by omega) dL_off_19 ?_
    refine j_iload_n C dL_off_20 rfl rfl ?_
    refine j_icmp_eq (tgt := 27) C dL_off_21 (by decide) (fun h21 => ?_) (fun h21 => ?_)
    · refine j_iload C dL_off_27 rfl ?_
      refine j_iload_n C dL_off_29 rfl rfl ?_
      refine j_iconst (v := (nI 5)) C dL_off_30 (by decide) ?_
      refine j_icmp_ne (tgt := 45) C dL_off_31 (by decide) (fun h31 => ?_) (fun h31 => (by exact absurd h31 (by decide)))
      refine j_aload_n C dL_off_45 rfl rfl ?_
      refine j_iconst (v := (nI 4)) C dL_off_46 (by decide) ?_
      refine j_iload C dL_off_47 rfl ?_
      refine j_imulN C dL_off_49 ?_
      refine j_iconst (v := (nI 3)) C dL_off_50 (by decide) ?_
      refine j_iaddN C dL_off_51 ?_
      refine j_ialdN C (by first | assumption | rfl) rfl rfl (by omega) dL_off_52 ?_
      refine j_if_ne (tgt := 60) C dL_off_53 (by decide) (fun h53 => ?_) (fun h53 => ?_)
      · refine j_iload_n C dL_off_60 rfl rfl ?_
        refine j_bipush (v := (nI 7)) C dL_off_61 (by decide) ?_
        refine j_icmp_ne (tgt := 77) C dL_off_63 (by decide) (fun h63 => ?_) (fun h63 => (by exact absurd h63 (by decide)))
        refine j_iconst (v := (nI 1)) C dL_off_77 (by decide) ?_
        refine j_iadd C dL_off_78 ?_
        refine j_ist5 C dL_off_79 (Nat.le_of_ble_eq_true rfl) rfl ?_
        refine j_incN6 (q := 1) C dL_off_81 (by decide) (Nat.le_of_ble_eq_true rfl) rfl ?_
        refine j_goto (tgt := 6) C dL_off_84 (by decide) ?_
        refine j_mem (V' := V) (L' := L) (by rfl) rfl ?_
        exact j_dr (lv' := [some (.int (nI k)), some (.int (nI 8)), some (.ref (ad g 224)), some (.ref (ad g 226)), some (.ref (ad g 227)), some (.int (sF (fun q => decide (V 226 (4 * q) = nI k)) (lF V 8) (i + 1))), some (.int (nI (i + 1)))]) (And.intro rfl (And.intro rfl (And.intro rfl (And.intro rfl (And.intro rfl (And.intro (by first | exact cgI (sF_f (mt of_decide_eq_true h21)) | exact cgI (sF_t2 (decide_eq_true h21) lF5) | exact cgI (sF_t2 (decide_eq_true h21) (lF0 (by decide) h53)) | exact cgI (sF_t2 (decide_eq_true h21) (lF7 h53)) | exact cgI (sF_t2 (decide_eq_true h21) (lF8 h53))) (And.intro rfl True.intro))))))) (ih (i + 1) (by omega))
      · refine j_iconst (v := (nI 0)) C dL_off_56 (by decide) ?_
        refine j_goto (tgt := 78) C dL_off_57 (by decide) ?_
        refine j_iadd C dL_off_78 ?_
        refine j_ist5 C dL_off_79 (Nat.le_of_ble_eq_true rfl) rfl ?_
        refine j_incN6 (q := 1) C dL_off_81 (by decide) (Nat.le_of_ble_eq_true rfl) rfl ?_
        refine j_goto (tgt := 6) C dL_off_84 (by decide) ?_
        refine j_mem (V' := V) (L' := L) (by rfl) rfl ?_
        exact j_dr (lv' := [some (.int (nI k)), some (.int (nI 8)), some (.ref (ad g 224)), some (.ref (ad g 226)), some (.ref (ad g 227)), some (.int (sF (fun q => decide (V 226 (4 * q) = nI k)) (lF V 8) (i + 1))), some (.int (nI (i + 1)))]) (And.intro rfl (And.intro rfl (And.intro rfl (And.intro rfl (And.intro rfl (And.intro (by first | exact cgI (sF_f (mt of_decide_eq_true h21)) | exact cgI (sF_t2 (decide_eq_true h21) lF5) | exact cgI (sF_t2 (decide_eq_true h21) (lF0 (by decide) h53)) | exact cgI (sF_t2 (decide_eq_true h21) (lF7 h53)) | exact cgI (sF_t2 (decide_eq_true h21) (lF8 h53))) (And.intro rfl True.intro))))))) (ih (i + 1) (by omega))
    · refine j_goto (tgt := 81) C dL_off_24 (by decide) ?_
      refine j_incN6 (q := 1) C dL_off_81 (by decide) (Nat.le_of_ble_eq_true rfl) rfl ?_
      refine j_goto (tgt := 6) C dL_off_84 (by decide) ?_
      refine j_mem (V' := V) (L' := L) (by rfl) rfl ?_
      exact j_dr (lv' := [some (.int (nI k)), some (.int (nI 8)), some (.ref (ad g 224)), some (.ref (ad g 226)), some (.ref (ad g 227)), some (.int (sF (fun q => decide (V 226 (4 * q) = nI k)) (lF V 8) (i + 1))), some (.int (nI (i + 1)))]) (And.intro rfl (And.intro rfl (And.intro rfl (And.intro rfl (And.intro rfl (And.intro (by first | exact cgI (sF_f (mt of_decide_eq_true h21)) | exact cgI (sF_t2 (decide_eq_true h21) lF5) | exact cgI (sF_t2 (decide_eq_true h21) (lF0 (by decide) h53)) | exact cgI (sF_t2 (decide_eq_true h21) (lF7 h53)) | exact cgI (sF_t2 (decide_eq_true h21) (lF8 h53))) (And.intro rfl True.intro))))))) (ih (i + 1) (by omega))
set_option maxHeartbeats 4000000 in
theorem c_L_off8 {l : Launch} {g : GC} {V : Mem} {L : LMem} {k ns : Nat} (h1 : V 224 1 = nI ns) (h12 : ns ≤ 12) : MC l yL_off cL_off 7 (some .int) 0 g V L [.int (nI k), .int (nI 8), .ref (ad g 224), .ref (ad g 226), .ref (ad g 227)] (some (.int (lOf V k 8 ns))) V L := by
  refine MC.of [some (.int (nI k)), some (.int (nI 8)), some (.ref (ad g 224)), some (.ref (ad g 226)), some (.ref (ad g 227)), none, none] (by decide +kernel) rfl (Nat.le_of_ble_eq_true rfl) (fun p e s m args below meth c C => ?_)
  refine j_iconst (v := (nI 0)) C dL_off_0 (by decide) ?_
  refine j_ist5 C dL_off_1 (Nat.le_of_ble_eq_true rfl) rfl ?_
  refine j_iconst (v := (nI 0)) C dL_off_3 (by decide) ?_
  refine j_ist6 C dL_off_4 (Nat.le_of_ble_eq_true rfl) rfl ?_
  refine lp_L_off8 C h1 h12 ?_ ns 0 (by omega)
  refine j_iload C dL_off_87 rfl ?_
  exact j_iret C dL_off_89 (by rfl) (by rfl) (by rfl)
