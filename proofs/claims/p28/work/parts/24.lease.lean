/-! THE CLASS: leases (laid by wip/whole/p24.py) -/
section
variable {p : Program} {l : Launch} {e : Env} {R : Room} {s : State} {m : MethodId} {args : Array Value} {below : List Frame} {meth : Method} {c : Code} {cc : ByteArray} {nL : Nat} {own : String} {ret : Option FieldType} {g : GC} {cells slots pc : Nat} {Q : State → Prop} {V : Mem} {L : LMem} {lv : List (Option Value)} {st : List Value}
theorem j_aret {rn : String} (C : Cx p s args m meth c cc nL own (some (.object rn)) g) {v : Option Value} {V' : Mem} {L' : LMem} {x : Nat} (hd : decode cc pc = .ok (.areturn, 1)) (hv : v = some (.ref x)) (hV : V = V') (hL : L = L') : J p l e R s m args below meth c nL g cells slots (MQ below (QG v (PW g V' L') (AA g)) args s cells slots (AA g)) V L pc lv [.ref x] := by
  intro H locs ls hw hl
  subst hv; subst hV; subst hL
  exact W.aret C.1 C.2.1 C.2.2.2.2.2.2.1 (Or.inl ⟨rn, rfl⟩) (Or.inr ⟨x, rfl⟩) (fun t ht hW => ⟨⟨rfl, by show va_P _ _ _ t.heap; rw [ht]; exact hw.1⟩, hw.2.F ht⟩) hw.2.2.2 hd C.2.2.2.2.2.1
theorem j_aretnull {rn : String} (C : Cx p s args m meth c cc nL own (some (.object rn)) g) {v : Option Value} {V' : Mem} {L' : LMem} (hd : decode cc pc = .ok (.areturn, 1)) (hv : v = some .null) (hV : V = V') (hL : L = L') : J p l e R s m args below meth c nL g cells slots (MQ below (QG v (PW g V' L') (AA g)) args s cells slots (AA g)) V L pc lv [.null] := by
  intro H locs ls hw hl
  subst hv; subst hV; subst hL
  exact W.aret C.1 C.2.1 C.2.2.2.2.2.2.1 (Or.inl ⟨rn, rfl⟩) (Or.inl rfl) (fun t ht hW => ⟨⟨rfl, by show va_P _ _ _ t.heap; rw [ht]; exact hw.1⟩, hw.2.F ht⟩) hw.2.2.2 hd C.2.2.2.2.2.1
end
theorem nw_X2_25 : Cond.methodLinkNest RX2 25 yX6_presentWorth RX6 ∈ NWs := by simp [NWs]
theorem nw_X2_58 : Cond.methodLinkNest RX2 58 yX6_thousandthsOf RX6 ∈ NWs := by simp [NWs]
theorem nw_X5_30 : Cond.methodLinkNest RX5 30 yX6_presentWorth RX6 ∈ NWs := by simp [NWs]
theorem lg_pos {x : Int64} (h : 0 < x) : 0 < lg_cmp x 0 := by
  unfold lg_cmp
  rw [if_pos h]
  decide
/-- movement q of the lease k -/
def cMv (k q : Nat) (x : Int32) (V : Mem) : Mem := mset V (k + 8) q (V (k + 8) q + x)
def mx (x y : Int32) : Int32 := if x < y then y else x
def mn (x y : Int32) : Int32 := if y < x then y else x
theorem nI_subC {j n d : Nat} (hj : j < 2 ^ 30) (hn : n < 2 ^ 30) (hd : d < 2 ^ 30) : nI j ≤ nI n - nI d ↔ j + d ≤ n := by
  rw [Int32.le_iff_toInt_le, nI_toInt (by omega), Int32.toInt_sub, nI_toInt (by omega), nI_toInt (by omega)]
  have h : (((n : Int) - (d : Int)).bmod (2 ^ 32)) = (n : Int) - d := by
    apply Int.bmod_eq_of_le <;> omega
  rw [h]
  omega
theorem wl_comm {p z : Int32} {i : Nat} (hz : rateR z) : (20000 * (wl p z i + p.toInt64) + (nI 10000 + z).toInt64) / (2 * (nI 10000 + z).toInt64) = wl p z (i + 1) := by
  rw [(rate_div hz).2.1]
  show _ = ((wl p z i + p.toInt64) * 20000 + (10000 + z.toInt64)) / (2 * (10000 + z.toInt64))
  rw [Int64.mul_comm]
theorem wl_0 {p z : Int32} : (0 : Int64) = wl p z 0 := rfl
/-- the greatest that f takes, bit by bit -/
def gpF (f : Nat → Bool) : Nat → Nat → Nat
  | 0, a => a
  | j + 1, a => gpF f j (if f (a + 2 ^ j) = true then a + 2 ^ j else a)
theorem shl1 : ∀ j, j < 17 → nI 1 <<< (nI j &&& 31) = nI (2 ^ j) := by decide +kernel
theorem gpF_lt (f : Nat → Bool) : ∀ j a, gpF f j a < a + 2 ^ j
  | 0, a => by rw [gpF]; omega
  | j + 1, a => by
    have h3 : 2 ^ (j + 1) = 2 ^ j + 2 ^ j := by rw [Nat.pow_succ]; omega
    have h4 : 1 ≤ 2 ^ j := Nat.one_le_two_pow
    rw [gpF]
    split
    · have := gpF_lt f j (a + 2 ^ j); omega
    · have := gpF_lt f j a; omega
def aB (a : Int32) (n : Nat) : Nat → Int32
  | 0 => a
  | i + 1 => aB a n i - aB a n i / nI (n - i)

set_option maxHeartbeats 4000000 in
theorem c_X6_thousandthsOf {l : Launch} {g : GC} {V : Mem} {L : LMem} {v t : Int32} : MC l yX6_thousandthsOf cX6_thousandthsOf 2 (some .int) 0 g V L [.int v, .int t] (some (.int (prt v t))) V L := by
  refine MC.of [some (.int v), some (.int t)] (by decide +kernel) rfl (Nat.le_of_ble_eq_true rfl) (fun p e s m args below meth c C => ?_)
  refine j_iload_n C dX6_thousandthsOf_0 rfl rfl ?_
  refine j_i2l C dX6_thousandthsOf_1 ?_
  refine j_iload_n C dX6_thousandthsOf_2 rfl rfl ?_
  refine j_i2l C dX6_thousandthsOf_3 ?_
  refine j_lmul C dX6_thousandthsOf_4 ?_
  refine j_ldc2 C qk_X6_319 dX6_thousandthsOf_5 ?_
  refine j_ldiv C dX6_thousandthsOf_8 (by decide) ?_
  refine j_l2i C dX6_thousandthsOf_9 ?_
  exact j_iret C dX6_thousandthsOf_10 (by rfl) (by rfl) (by rfl)
set_option maxHeartbeats 4000000 in
theorem lp_X6_presentWorth {p : Program} {l : Launch} {e : Env} {R : Room} {s : State} {m : MethodId} {args : Array Value} {below : List Frame} {meth : Method} {c : Code} {g : GC} {Q : State → Prop} {V : Mem} {L : LMem} {pp nn zz : Int32} {N : Nat} (C : Cx p s args m meth c cX6_presentWorth 8 yX6_presentWorth.cls (some .int) g) (hN : N < 2 ^ 31) (hc : nn.toNatClampNeg = N) (hz : rateR zz) (kx : J p l e R s m args below meth c 8 g 0 0 Q V L 52 [some (.int pp), some (.int nn), some (.int zz), some (.long (nI 10000 + zz).toInt64), none, some (.long (wl pp zz (N))), none, some (.int (nI (N)))] []) : ∀ j i : Nat, i + j = N → J p l e R s m args below meth c 8 g 0 0 Q V L 21 [some (.int pp), some (.int nn), some (.int zz), some (.long (nI 10000 + zz).toInt64), none, some (.long (wl pp zz i)), none, some (.int (nI i))] [] := by
  intro j
  induction j with
  | zero =>
    intro i hi
    have hi : N = i := by omega
    subst hi
    refine j_iload C dX6_presentWorth_21 rfl ?_
    refine j_iload_n C dX6_presentWorth_23 rfl rfl ?_
    refine j_icmp_ge (tgt := 52) C dX6_presentWorth_24 (by decide) (fun h24 => ?_) (fun h24 => absurd (show nn ≤ nI N from Int32.not_lt.mp (fun q => absurd (clamp_lt (by omega) (Int32.not_le.mpr q)) (by omega))) h24)
    exact kx
  | succ j ih =>
    intro i hi
    refine j_iload C dX6_presentWorth_21 rfl ?_
    refine j_iload_n C dX6_presentWorth_23 rfl rfl ?_
    refine j_icmp_ge (tgt := 52) C dX6_presentWorth_24 (by decide) (fun h24 => absurd h24 (fun q => absurd (clamp_ge (by omega) q) (by omega))) (fun h24 => ?_)
    refine j_ldc2 C qk_X6_315 dX6_presentWorth_27 ?_
    refine j_lload C dX6_presentWorth_30 rfl ?_
    refine j_iload_n C dX6_presentWorth_32 rfl rfl ?_
    refine j_i2l C dX6_presentWorth_33 ?_
    refine j_ladd C dX6_presentWorth_34 ?_
    refine j_lmul C dX6_presentWorth_35 ?_
    refine j_lload_n C dX6_presentWorth_36 rfl rfl ?_
    refine j_ladd C dX6_presentWorth_37 ?_
    refine j_ldc2 C qk_X6_317 dX6_presentWorth_38 ?_
    refine j_lload_n C dX6_presentWorth_41 rfl rfl ?_
    refine j_lmul C dX6_presentWorth_42 ?_
    refine j_ldiv C dX6_presentWorth_43 (by rw [(rate_div hz).2.1]; exact (rate_div hz).1) ?_
    refine j_lst5 C dX6_presentWorth_44 (Nat.le_of_ble_eq_true rfl) rfl ?_
    refine j_incN7 (q := 1) C dX6_presentWorth_46 (by decide) (Nat.le_of_ble_eq_true rfl) rfl ?_
    refine j_goto (tgt := 21) C dX6_presentWorth_49 (by decide) ?_
    refine j_mem (V' := V) (L' := L) (by rfl) rfl ?_
    exact j_dr (lv' := [some (.int pp), some (.int nn), some (.int zz), some (.long (nI 10000 + zz).toInt64), none, some (.long (wl pp zz (i + 1))), none, some (.int (nI (i + 1)))]) (And.intro rfl (And.intro rfl (And.intro rfl (And.intro rfl (And.intro (by rw [wl_comm hz]) (And.intro rfl True.intro)))))) (ih (i + 1) (by omega))
set_option maxHeartbeats 4000000 in
theorem c_X6_presentWorth {l : Launch} {g : GC} {V : Mem} {L : LMem} {pp nn zz : Int32} (hz : rateR zz) : MC l yX6_presentWorth cX6_presentWorth 8 (some .int) 0 g V L [.int pp, .int nn, .int zz] (some (.int (wor pp nn zz))) V L := by
  refine MC.of [some (.int pp), some (.int nn), some (.int zz), none, none, none, none, none] (by decide +kernel) rfl (Nat.le_of_ble_eq_true rfl) (fun p e s m args below meth c C => ?_)
  refine j_sipush (v := (nI 10000)) C dX6_presentWorth_0 (by decide) ?_
  refine j_iload_n C dX6_presentWorth_3 rfl rfl ?_
  refine j_iadd C dX6_presentWorth_4 ?_
  refine j_i2l C dX6_presentWorth_5 ?_
  refine j_lst3 C dX6_presentWorth_6 rfl (Nat.le_of_ble_eq_true rfl) rfl ?_
  refine j_lload_n C dX6_presentWorth_7 rfl rfl ?_
  refine j_lconst (v := 0) C dX6_presentWorth_8 (by decide) ?_
  refine j_lcmp C dX6_presentWorth_9 ?_
  refine j_if_gt (tgt := 15) C dX6_presentWorth_10 (by decide) (fun h10 => ?_) (fun h10 => (by exact absurd (lg_pos (by rw [(rate_div hz).2.1]; exact (rate_div hz).2.2)) h10))
  refine j_lconst (v := 0) C dX6_presentWorth_15 (by decide) ?_
  refine j_lst5 C dX6_presentWorth_16 (Nat.le_of_ble_eq_true rfl) rfl ?_
  refine j_iconst (v := (nI 0)) C dX6_presentWorth_18 (by decide) ?_
  refine j_ist7 C dX6_presentWorth_19 (Nat.le_of_ble_eq_true rfl) rfl ?_
  refine lp_X6_presentWorth C (clampN nn) rfl hz ?_ nn.toNatClampNeg 0 (by omega)
  refine j_lload C dX6_presentWorth_52 rfl ?_
  refine j_l2i C dX6_presentWorth_54 ?_
  exact j_iret C dX6_presentWorth_55 (by rfl) (by rfl) (by rfl)
set_option maxHeartbeats 4000000 in
theorem c_X2_move {l : Launch} {g : GC} {V : Mem} {L : LMem} {k : Nat} (hk : kd k = 3) {q : Nat} {x : Int32} (hq : q < 17) : MC l yX2_move cX2_move 3 (Option.none : Option Jvm.ClassFile.FieldType) 0 g V L [.ref (ad g k), .int (nI q), .int x] none (cMv k q x V) L := by
  refine MC.of [some (.ref (ad g k)), some (.int (nI q)), some (.int x)] (by decide +kernel) rfl (Nat.le_of_ble_eq_true rfl) (fun p e s m args below meth c C => ?_)
  refine j_iload_n C dX2_move_0 rfl rfl ?_
  refine j_if_lt (tgt := 23) C dX2_move_1 (by decide) (fun h1 => absurd h1 (nI_pos (by omega))) (fun h1 => ?_)
  refine j_iload_n C dX2_move_4 rfl rfl ?_
  refine j_aload_n C dX2_move_5 rfl rfl ?_
  refine jg_Lease_sums C (by first | assumption | exact kd_sums (by assumption) | exact kd_st1 (by assumption) | exact kd_st2 (by assumption) | exact kd_ls (by first | assumption | rfl) (by assumption) | exact kd_sb (by first | assumption | rfl) (by assumption) | exact kd_sv (by assumption) | rfl) qf_X2_9 dX2_move_6 ?_
  refine j_alen C (by first | assumption | exact kd_sums (by assumption) | exact kd_st1 (by assumption) | exact kd_st2 (by assumption) | exact kd_ls (by first | assumption | rfl) (by assumption) | exact kd_sb (by first | assumption | rfl) (by assumption) | exact kd_sv (by assumption) | rfl) rfl rfl dX2_move_9 ?_
  refine j_icmp_ge (tgt := 23) C dX2_move_10 (by decide) (fun h10 => absurd h10 (nI_ge (by omega) (by omega))) (fun h10 => ?_)
  refine j_aload_n C dX2_move_13 rfl rfl ?_
  refine jg_Lease_sums C (by first | assumption | exact kd_sums (by assumption) | exact kd_st1 (by assumption) | exact kd_st2 (by assumption) | exact kd_ls (by first | assumption | rfl) (by assumption) | exact kd_sb (by first | assumption | rfl) (by assumption) | exact kd_sv (by assumption) | rfl) qf_X2_9 dX2_move_14 ?_
  refine j_iload_n C dX2_move_17 rfl rfl ?_
  refine j_dup2 C dX2_move_18 rfl rfl ?_
  refine j_ialdN C (by first | assumption | exact kd_sums (by assumption) | exact kd_st1 (by assumption) | exact kd_st2 (by assumption) | exact kd_ls (by first | assumption | rfl) (by assumption) | exact kd_sb (by first | assumption | rfl) (by assumption) | exact kd_sv (by assumption) | rfl) rfl rfl (by omega) dX2_move_19 ?_
  refine j_iload_n C dX2_move_20 rfl rfl ?_
  refine j_iadd C dX2_move_21 ?_
  refine j_iastN C (by first | assumption | exact kd_sums (by assumption) | exact kd_st1 (by assumption) | exact kd_st2 (by assumption) | exact kd_ls (by first | assumption | rfl) (by assumption) | exact kd_sb (by first | assumption | rfl) (by assumption) | exact kd_sv (by assumption) | rfl) rfl rfl (by omega) dX2_move_22 ?_
  exact j_vret C dX2_move_23 rfl (by rfl) (by rfl)
set_option maxHeartbeats 4000000 in
theorem c_X2_moved {l : Launch} {g : GC} {V : Mem} {L : LMem} {k : Nat} (hk : kd k = 3) {q : Nat} (hq : q < 17) : MC l yX2_moved cX2_moved 2 (some .int) 0 g V L [.ref (ad g k), .int (nI q)] (some (.int (V (k + 8) q))) V L := by
  refine MC.of [some (.ref (ad g k)), some (.int (nI q))] (by decide +kernel) rfl (Nat.le_of_ble_eq_true rfl) (fun p e s m args below meth c C => ?_)
  refine j_iload_n C dX2_moved_0 rfl rfl ?_
  refine j_if_lt (tgt := 22) C dX2_moved_1 (by decide) (fun h1 => absurd h1 (nI_pos (by omega))) (fun h1 => ?_)
  refine j_iload_n C dX2_moved_4 rfl rfl ?_
  refine j_aload_n C dX2_moved_5 rfl rfl ?_
  refine jg_Lease_sums C (by first | assumption | exact kd_sums (by assumption) | exact kd_st1 (by assumption) | exact kd_st2 (by assumption) | exact kd_ls (by first | assumption | rfl) (by assumption) | exact kd_sb (by first | assumption | rfl) (by assumption) | exact kd_sv (by assumption) | rfl) qf_X2_9 dX2_moved_6 ?_
  refine j_alen C (by first | assumption | exact kd_sums (by assumption) | exact kd_st1 (by assumption) | exact kd_st2 (by assumption) | exact kd_ls (by first | assumption | rfl) (by assumption) | exact kd_sb (by first | assumption | rfl) (by assumption) | exact kd_sv (by assumption) | rfl) rfl rfl dX2_moved_9 ?_
  refine j_icmp_ge (tgt := 22) C dX2_moved_10 (by decide) (fun h10 => absurd h10 (nI_ge (by omega) (by omega))) (fun h10 => ?_)
  refine j_aload_n C dX2_moved_13 rfl rfl ?_
  refine jg_Lease_sums C (by first | assumption | exact kd_sums (by assumption) | exact kd_st1 (by assumption) | exact kd_st2 (by assumption) | exact kd_ls (by first | assumption | rfl) (by assumption) | exact kd_sb (by first | assumption | rfl) (by assumption) | exact kd_sv (by assumption) | rfl) qf_X2_9 dX2_moved_14 ?_
  refine j_iload_n C dX2_moved_17 rfl rfl ?_
  refine j_ialdN C (by first | assumption | exact kd_sums (by assumption) | exact kd_st1 (by assumption) | exact kd_st2 (by assumption) | exact kd_ls (by first | assumption | rfl) (by assumption) | exact kd_sb (by first | assumption | rfl) (by assumption) | exact kd_sv (by assumption) | rfl) rfl rfl (by omega) dX2_moved_18 ?_
  refine j_goto (tgt := 23) C dX2_moved_19 (by decide) ?_
  exact j_iret C dX2_moved_23 (by rfl) (by rfl) (by rfl)
set_option maxHeartbeats 4000000 in
theorem c_X2_liabilityBehind {l : Launch} {g : GC} {V : Mem} {L : LMem} {k : Nat} (hk : kd k = 3) {x : Int32} (hz : rateR (V k 2)) : MC l yX2_liabilityBehind cX2_liabilityBehind 2 (some .int) 1 g V L [.ref (ad g k), .int x] (some (.int (wor (V k 0) (V k 1 - x) (V k 2)))) V L := by
  refine MC.of [some (.ref (ad g k)), some (.int x)] (by decide +kernel) rfl (Nat.le_of_ble_eq_true rfl) (fun p e s m args below meth c C => ?_)
  refine j_aload_n C dX2_liabilityBehind_0 rfl rfl ?_
  refine jg_Lease_payment C (by first | assumption | exact kd_sums (by assumption) | exact kd_st1 (by assumption) | exact kd_st2 (by assumption) | exact kd_ls (by first | assumption | rfl) (by assumption) | exact kd_sb (by first | assumption | rfl) (by assumption) | exact kd_sv (by assumption) | rfl) qf_X2_15 dX2_liabilityBehind_1 ?_
  refine j_aload_n C dX2_liabilityBehind_4 rfl rfl ?_
  refine jg_Lease_periods C (by first | assumption | exact kd_sums (by assumption) | exact kd_st1 (by assumption) | exact kd_st2 (by assumption) | exact kd_ls (by first | assumption | rfl) (by assumption) | exact kd_sb (by first | assumption | rfl) (by assumption) | exact kd_sv (by assumption) | rfl) qf_X2_19 dX2_liabilityBehind_5 ?_
  refine j_iload_n C dX2_liabilityBehind_8 rfl rfl ?_
  refine j_isub C dX2_liabilityBehind_9 ?_
  refine j_aload_n C dX2_liabilityBehind_10 rfl rfl ?_
  refine jg_Lease_rate C (by first | assumption | exact kd_sums (by assumption) | exact kd_st1 (by assumption) | exact kd_st2 (by assumption) | exact kd_ls (by first | assumption | rfl) (by assumption) | exact kd_sb (by first | assumption | rfl) (by assumption) | exact kd_sv (by assumption) | rfl) qf_X2_22 dX2_liabilityBehind_11 ?_
  refine j_callSN3r C (c_X6_presentWorth hz) nw_X2_25 qt_X6_presentWorth qn_X6 qc_X6_presentWorth fit_X6_presentWorth ⟨Nat.le_of_ble_eq_true rfl, Nat.le_of_ble_eq_true rfl, Nat.le_of_ble_eq_true rfl, Nat.le_of_ble_eq_true rfl⟩ (Nat.le_of_ble_eq_true rfl) dX2_liabilityBehind_14 ?_
  exact j_iret C dX2_liabilityBehind_17 (by rfl) (by rfl) (by rfl)
set_option maxHeartbeats 4000000 in
theorem c_X2_assetWithLiability {l : Launch} {g : GC} {V : Mem} {L : LMem} {k : Nat} (hk : kd k = 3) {x : Int32} : MC l yX2_assetWithLiability cX2_assetWithLiability 2 (some .int) 1 g V L [.ref (ad g k), .int x] (some (.int (mx (nI 0) (V k 4 + x - V k 3)))) V L := by
  refine MC.of [some (.ref (ad g k)), some (.int x)] (by decide +kernel) rfl (Nat.le_of_ble_eq_true rfl) (fun p e s m args below meth c C => ?_)
  refine j_iconst (v := (nI 0)) C dX2_assetWithLiability_0 (by decide) ?_
  refine j_aload_n C dX2_assetWithLiability_1 rfl rfl ?_
  refine jg_Lease_asset C (by first | assumption | exact kd_sums (by assumption) | exact kd_st1 (by assumption) | exact kd_st2 (by assumption) | exact kd_ls (by first | assumption | rfl) (by assumption) | exact kd_sb (by first | assumption | rfl) (by assumption) | exact kd_sv (by assumption) | rfl) qf_X2_32 dX2_assetWithLiability_2 ?_
  refine j_iload_n C dX2_assetWithLiability_5 rfl rfl ?_
  refine j_iadd C dX2_assetWithLiability_6 ?_
  refine j_aload_n C dX2_assetWithLiability_7 rfl rfl ?_
  refine jg_Lease_liability C (by first | assumption | exact kd_sums (by assumption) | exact kd_st1 (by assumption) | exact kd_st2 (by assumption) | exact kd_ls (by first | assumption | rfl) (by assumption) | exact kd_sb (by first | assumption | rfl) (by assumption) | exact kd_sv (by assumption) | rfl) qf_X2_29 dX2_assetWithLiability_8 ?_
  refine j_isub C dX2_assetWithLiability_11 ?_
  refine j_mmax C qm_X2_52 qt_J9_max_7cf53 qn_J9 qc_J9_max_7cf53 (Nat.le_of_ble_eq_true rfl) (Nat.le_of_ble_eq_true rfl) (Nat.le_of_ble_eq_true rfl) (Nat.le_of_ble_eq_true rfl) dX2_assetWithLiability_12 ?_
  exact j_iret C dX2_assetWithLiability_15 (by rfl) (by rfl) (by rfl)
set_option maxHeartbeats 4000000 in
theorem lp_X2_begin {p : Program} {l : Launch} {e : Env} {s : State} {m : MethodId} {args : Array Value} {below : List Frame} {meth : Method} {c : Code} {g : GC} {Q : State → Prop} {V : Mem} {L : LMem} {k : Nat} {p1 n r c0 : Int32} (C : Cx p s args m meth c cX2_begin 6 yX2_begin.cls (Option.none : Option Jvm.ClassFile.FieldType) g) (hk : kd k = 3) (kx : J p l e (RM 1) s m args below meth c 6 g 0 0 Q (rcpy V (k + 8) (fun _ => nI 0) (17)) L 27 [some (.ref (ad g k)), some (.int p1), some (.int n), some (.int r), some (.int c0), some (.int (nI (17)))] []) : ∀ j i : Nat, i + j = 17 → J p l e (RM 1) s m args below meth c 6 g 0 0 Q (rcpy V (k + 8) (fun _ => nI 0) i) L 3 [some (.ref (ad g k)), some (.int p1), some (.int n), some (.int r), some (.int c0), some (.int (nI i))] [] := by
  intro j
  induction j with
  | zero =>
    intro i hi
    have hi : 17 = i := by omega
    subst hi
    refine j_iload C dX2_begin_3 rfl ?_
    refine j_aload_n C dX2_begin_5 rfl rfl ?_
    refine jg_Lease_sums C (by first | assumption | exact kd_sums (by assumption) | exact kd_st1 (by assumption) | exact kd_st2 (by assumption) | exact kd_ls (by first | assumption | rfl) (by assumption) | exact kd_sb (by first | assumption | rfl) (by assumption) | exact kd_sv (by assumption) | rfl) qf_X2_9 dX2_begin_6 ?_
    refine j_alen C (by first | assumption | exact kd_sums (by assumption) | exact kd_st1 (by assumption) | exact kd_st2 (by assumption) | exact kd_ls (by first | assumption | rfl) (by assumption) | exact kd_sb (by first | assumption | rfl) (by assumption) | exact kd_sv (by assumption) | rfl) rfl rfl dX2_begin_9 ?_
    refine j_icmp_ge (tgt := 27) C dX2_begin_10 (by decide) (fun h10 => ?_) (fun h10 => absurd (nI_le (by omega) (by omega)) h10)
    exact kx
  | succ j ih =>
    intro i hi
    refine j_iload C dX2_begin_3 rfl ?_
    refine j_aload_n C dX2_begin_5 rfl rfl ?_
    refine jg_Lease_sums C (by first | assumption | exact kd_sums (by assumption) | exact kd_st1 (by assumption) | exact kd_st2 (by assumption) | exact kd_ls (by first | assumption | rfl) (by assumption) | exact kd_sb (by first | assumption | rfl) (by assumption) | exact kd_sv (by assumption) | rfl) qf_X2_9 dX2_begin_6 ?_
    refine j_alen C (by first | assumption | exact kd_sums (by assumption) | exact kd_st1 (by assumption) | exact kd_st2 (by assumption) | exact kd_ls (by first | assumption | rfl) (by assumption) | exact kd_sb (by first | assumption | rfl) (by assumption) | exact kd_sv (by assumption) | rfl) rfl rfl dX2_begin_9 ?_
    refine j_icmp_ge (tgt := 27) C dX2_begin_10 (by decide) (fun h10 => absurd h10 (nI_ge (by omega) (by omega))) (fun h10 => ?_)
    refine j_aload_n C dX2_begin_13 rfl rfl ?_
    refine jg_Lease_sums C (by first | assumption | exact kd_sums (by assumption) | exact kd_st1 (by assumption) | exact kd_st2 (by assumption) | exact kd_ls (by first | assumption | rfl) (by assumption) | exact kd_sb (by first | assumption | rfl) (by assumption) | exact kd_sv (by assumption) | rfl) qf_X2_9 dX2_begin_14 ?_
    refine j_iload C dX2_begin_17 rfl ?_
    refine j_iconst (v := (nI 0)) C dX2_begin_19 (by decide) ?_
    refine j_iastN C (by first | assumption | exact kd_sums (by assumption) | exact kd_st1 (by assumption) | exact kd_st2 (by assumption) | exact kd_ls (by first | assumption | rfl) (by assumption) | exact kd_sb (by first | assumption | rfl) (by assumption) | exact kd_sv (by assumption) | rfl) rfl rfl (by omega) dX2_begin_20 ?_
    refine j_incN5 (q := 1) C dX2_begin_21 (by decide) (Nat.le_of_ble_eq_true rfl) rfl ?_
    refine j_goto (tgt := 3) C dX2_begin_24 (by decide) ?_
    refine j_mem (V' := (rcpy V (k + 8) (fun _ => nI 0) (i + 1))) (L' := L) (by exact rcpy_step.symm) rfl ?_
    exact j_dr (lv' := [some (.ref (ad g k)), some (.int p1), some (.int n), some (.int r), some (.int c0), some (.int (nI (i + 1)))]) (And.intro rfl (And.intro rfl (And.intro rfl (And.intro rfl (And.intro rfl (And.intro rfl True.intro)))))) (ih (i + 1) (by omega))
def cBeg (k : Nat) (p n r c : Int32) (V : Mem) : Mem :=
  let V0 := rcpy V (k + 8) (fun _ => nI 0) 17
  let V4 := mset (mset (mset (mset V0 k 0 p) k 1 n) k 2 r) k 3 (wor p n r)
  let V5 := mset V4 k 4 (V4 k 3 + c)
  let V6 := cMv k 0 (V5 k 3) V5
  cMv k 15 c (cMv k 5 (V6 k 4) V6)
def cCpy5 (k j : Nat) (V : Mem) : Mem :=
  let V1 := mset V k 0 (V j 0)
  let V2 := mset V1 k 1 (V1 j 1)
  let V3 := mset V2 k 2 (V2 j 2)
  let V4 := mset V3 k 3 (V3 j 3)
  mset V4 k 4 (V4 j 4)
def cCpy (k j : Nat) (V : Mem) : Mem := rcpy (cCpy5 k j V) (k + 8) (cCpy5 k j V (j + 8)) 17
def cPass (k : Nat) (n d : Nat) (V : Mem) : Mem :=
  let paid := V k 0 * mn (nI d) (V k 1)
  let lt := wor (V k 0) (V k 1 - nI d) (V k 2)
  let as' := aB (V k 4) n (min d n)
  let V1 := cMv k 1 (lt - V k 3 + paid) V
  let V2 := cMv k 2 paid V1
  let V3 := cMv k 6 (V2 k 4 - as') V2
  let V5 := mset (mset V3 k 3 lt) k 4 as'
  mset V5 k 1 (mx (nI 0) (V5 k 1 - nI d))
def cMeas (k : Nat) (p n r : Int32) (V : Mem) : Mem :=
  let lt := wor p n r
  let as' := mx (nI 0) (V k 4 + lt - V k 3)
  let V1 := cMv k 3 (lt - V k 3) V
  let V2 := cMv k 7 (as' - V1 k 4) V1
  mset (mset (mset (mset (mset V2 k 0 p) k 1 n) k 2 r) k 3 lt) k 4 as'
def cEndL (k : Nat) (t : Int32) (V : Mem) : Int32 :=
  let V1 := mset V k 0 (V k 0 - prt (V k 0) t)
  V1 k 3 - wor (V1 k 0) (V1 k 1) (V1 k 2)
def cEndA (k : Nat) (t : Int32) (V : Mem) : Int32 := prt (mset V k 0 (V k 0 - prt (V k 0) t) k 4) t
def cEnd (k : Nat) (t fee : Int32) (V : Mem) : Mem :=
  let V1 := mset V k 0 (V k 0 - prt (V k 0) t)
  let V2 := mset V1 k 3 (V1 k 3 - cEndL k t V)
  let V3 := mset V2 k 4 (V2 k 4 - cEndA k t V)
  cMv k 16 fee (cMv k 8 (cEndA k t V) (cMv k 4 (cEndL k t V) V3))
def cSubT (k : Nat) (t rc : Int32) (V : Mem) : Mem :=
  let al := prt (V k 4) t
  cMv k 11 rc (cMv k 9 al (mset V k 4 (V k 4 - al)))
def cImp (k : Nat) (a : Int32) (V : Mem) : Mem := cMv k 10 a (mset V k 4 (V k 4 - a))
def cProf0 (k : Nat) (V : Mem) : Int32 :=
  let M := V (k + 8)
  M 7 - M 3 - M 1 - M 6 + M 4 - M 8 - M 16 + M 11 - M 9 + M 12 - M 14 - M 10
def cProf1 (k : Nat) (x : Int32) (V : Mem) : Int32 :=
  let M := V (k + 8)
  V k 4 + x - V k 3 + M 13 - M 2 - M 15 - M 16
set_option maxHeartbeats 4000000 in
theorem c_X2_begin {l : Launch} {g : GC} {V : Mem} {L : LMem} {k : Nat} (hk : kd k = 3) {p1 n r c0 : Int32} (hz : rateR r) : MC l yX2_begin cX2_begin 6 (Option.none : Option Jvm.ClassFile.FieldType) 1 g V L [.ref (ad g k), .int p1, .int n, .int r, .int c0] none (cBeg k p1 n r c0 V) L := by
  refine MC.of [some (.ref (ad g k)), some (.int p1), some (.int n), some (.int r), some (.int c0), none] (by decide +kernel) rfl (Nat.le_of_ble_eq_true rfl) (fun p e s m args below meth c C => ?_)
  refine j_iconst (v := (nI 0)) C dX2_begin_0 (by decide) ?_
  refine j_ist5 C dX2_begin_1 (Nat.le_of_ble_eq_true rfl) rfl ?_
  refine j_mem (V' := rcpy V (k + 8) (fun _ => nI 0) 0) (L' := L) rcpy_0 rfl ?_
  refine lp_X2_begin C hk ?_ 17 0 (by omega)
  refine j_aload_n C dX2_begin_27 rfl rfl ?_
  refine j_iload_n C dX2_begin_28 rfl rfl ?_
  refine jp_Lease_payment C (by first | assumption | exact kd_sums (by assumption) | exact kd_st1 (by assumption) | exact kd_st2 (by assumption) | exact kd_ls (by first | assumption | rfl) (by assumption) | exact kd_sb (by first | assumption | rfl) (by assumption) | exact kd_sv (by assumption) | rfl) qf_X2_15 dX2_begin_29 ?_
  refine j_aload_n C dX2_begin_32 rfl rfl ?_
  refine j_iload_n C dX2_begin_33 rfl rfl ?_
  refine jp_Lease_periods C (by first | assumption | exact kd_sums (by assumption) | exact kd_st1 (by assumption) | exact kd_st2 (by assumption) | exact kd_ls (by first | assumption | rfl) (by assumption) | exact kd_sb (by first | assumption | rfl) (by assumption) | exact kd_sv (by assumption) | rfl) qf_X2_19 dX2_begin_34 ?_
  refine j_aload_n C dX2_begin_37 rfl rfl ?_
  refine j_iload_n C dX2_begin_38 rfl rfl ?_
  refine jp_Lease_rate C (by first | assumption | exact kd_sums (by assumption) | exact kd_st1 (by assumption) | exact kd_st2 (by assumption) | exact kd_ls (by first | assumption | rfl) (by assumption) | exact kd_sb (by first | assumption | rfl) (by assumption) | exact kd_sv (by assumption) | rfl) qf_X2_22 dX2_begin_39 ?_
  refine j_aload_n C dX2_begin_42 rfl rfl ?_
  refine j_iload_n C dX2_begin_43 rfl rfl ?_
  refine j_iload_n C dX2_begin_44 rfl rfl ?_
  refine j_iload_n C dX2_begin_45 rfl rfl ?_
  refine j_callSN3r C (c_X6_presentWorth hz) nw_X2_25 qt_X6_presentWorth qn_X6 qc_X6_presentWorth fit_X6_presentWorth ⟨Nat.le_of_ble_eq_true rfl, Nat.le_of_ble_eq_true rfl, Nat.le_of_ble_eq_true rfl, Nat.le_of_ble_eq_true rfl⟩ (Nat.le_of_ble_eq_true rfl) dX2_begin_46 ?_
  refine jp_Lease_liability C (by first | assumption | exact kd_sums (by assumption) | exact kd_st1 (by assumption) | exact kd_st2 (by assumption) | exact kd_ls (by first | assumption | rfl) (by assumption) | exact kd_sb (by first | assumption | rfl) (by assumption) | exact kd_sv (by assumption) | rfl) qf_X2_29 dX2_begin_49 ?_
  refine j_aload_n C dX2_begin_52 rfl rfl ?_
  refine j_aload_n C dX2_begin_53 rfl rfl ?_
  refine jg_Lease_liability C (by first | assumption | exact kd_sums (by assumption) | exact kd_st1 (by assumption) | exact kd_st2 (by assumption) | exact kd_ls (by first | assumption | rfl) (by assumption) | exact kd_sb (by first | assumption | rfl) (by assumption) | exact kd_sv (by assumption) | rfl) qf_X2_29 dX2_begin_54 ?_
  refine j_iload C dX2_begin_57 rfl ?_
  refine j_iadd C dX2_begin_59 ?_
  refine jp_Lease_asset C (by first | assumption | exact kd_sums (by assumption) | exact kd_st1 (by assumption) | exact kd_st2 (by assumption) | exact kd_ls (by first | assumption | rfl) (by assumption) | exact kd_sb (by first | assumption | rfl) (by assumption) | exact kd_sv (by assumption) | rfl) qf_X2_32 dX2_begin_60 ?_
  refine j_aload_n C dX2_begin_63 rfl rfl ?_
  refine j_iconst (v := (nI 0)) C dX2_begin_64 (by decide) ?_
  refine j_aload_n C dX2_begin_65 rfl rfl ?_
  refine jg_Lease_liability C (by first | assumption | exact kd_sums (by assumption) | exact kd_st1 (by assumption) | exact kd_st2 (by assumption) | exact kd_ls (by first | assumption | rfl) (by assumption) | exact kd_sb (by first | assumption | rfl) (by assumption) | exact kd_sv (by assumption) | rfl) qf_X2_29 dX2_begin_66 ?_
  refine j_callV2v C (oa_X2 (by first | assumption | exact kd_sums (by assumption) | exact kd_st1 (by assumption) | exact kd_st2 (by assumption) | exact kd_ls (by first | assumption | rfl) (by assumption) | exact kd_sb (by first | assumption | rfl) (by assumption) | exact kd_sv (by assumption) | rfl)) rfl rfl (c_X2_move hk (by omega)) qm_X2_35 qi_X2_move qs_X2_move qn_X2 qc_X2_move fit_X2_move ⟨Nat.le_of_ble_eq_true rfl, Nat.le_of_ble_eq_true rfl, Nat.le_of_ble_eq_true rfl, Nat.le_of_ble_eq_true rfl⟩ (Nat.le_of_ble_eq_true rfl) dX2_begin_69 ?_
  refine j_aload_n C dX2_begin_72 rfl rfl ?_
  refine j_iconst (v := (nI 5)) C dX2_begin_73 (by decide) ?_
  refine j_aload_n C dX2_begin_74 rfl rfl ?_
  refine jg_Lease_asset C (by first | assumption | exact kd_sums (by assumption) | exact kd_st1 (by assumption) | exact kd_st2 (by assumption) | exact kd_ls (by first | assumption | rfl) (by assumption) | exact kd_sb (by first | assumption | rfl) (by assumption) | exact kd_sv (by assumption) | rfl) qf_X2_32 dX2_begin_75 ?_
  refine j_callV2v C (oa_X2 (by first | assumption | exact kd_sums (by assumption) | exact kd_st1 (by assumption) | exact kd_st2 (by assumption) | exact kd_ls (by first | assumption | rfl) (by assumption) | exact kd_sb (by first | assumption | rfl) (by assumption) | exact kd_sv (by assumption) | rfl)) rfl rfl (c_X2_move hk (by omega)) qm_X2_35 qi_X2_move qs_X2_move qn_X2 qc_X2_move fit_X2_move ⟨Nat.le_of_ble_eq_true rfl, Nat.le_of_ble_eq_true rfl, Nat.le_of_ble_eq_true rfl, Nat.le_of_ble_eq_true rfl⟩ (Nat.le_of_ble_eq_true rfl) dX2_begin_78 ?_
  refine j_aload_n C dX2_begin_81 rfl rfl ?_
  refine j_bipush (v := (nI 15)) C dX2_begin_82 (by decide) ?_
  refine j_iload C dX2_begin_84 rfl ?_
  refine j_callV2v C (oa_X2 (by first | assumption | exact kd_sums (by assumption) | exact kd_st1 (by assumption) | exact kd_st2 (by assumption) | exact kd_ls (by first | assumption | rfl) (by assumption) | exact kd_sb (by first | assumption | rfl) (by assumption) | exact kd_sv (by assumption) | rfl)) rfl rfl (c_X2_move hk (by omega)) qm_X2_35 qi_X2_move qs_X2_move qn_X2 qc_X2_move fit_X2_move ⟨Nat.le_of_ble_eq_true rfl, Nat.le_of_ble_eq_true rfl, Nat.le_of_ble_eq_true rfl, Nat.le_of_ble_eq_true rfl⟩ (Nat.le_of_ble_eq_true rfl) dX2_begin_86 ?_
  exact j_vret C dX2_begin_89 rfl (by rfl) (by rfl)
set_option maxHeartbeats 4000000 in
theorem lp_X2_copyFrom {p : Program} {l : Launch} {e : Env} {s : State} {m : MethodId} {args : Array Value} {below : List Frame} {meth : Method} {c : Code} {g : GC} {Q : State → Prop} {V : Mem} {L : LMem} {k j0 : Nat} (C : Cx p s args m meth c cX2_copyFrom 3 yX2_copyFrom.cls (Option.none : Option Jvm.ClassFile.FieldType) g) (hk : kd k = 3) (hj : kd j0 = 3) (hne : ¬ j0 = k) (kx : J p l e (RM 0) s m args below meth c 3 g 0 0 Q (rcpy V (k + 8) (V (j0 + 8)) (17)) L 78 [some (.ref (ad g k)), some (.ref (ad g j0)), some (.int (nI (17)))] []) : ∀ j i : Nat, i + j = 17 → J p l e (RM 0) s m args below meth c 3 g 0 0 Q (rcpy V (k + 8) (V (j0 + 8)) i) L 42 [some (.ref (ad g k)), some (.ref (ad g j0)), some (.int (nI i))] [] := by
  intro j
  induction j with
  | zero =>
    intro i hi
    have hi : 17 = i := by omega
    subst hi
    refine j_iload_n C dX2_copyFrom_42 rfl rfl ?_
    refine j_aload_n C dX2_copyFrom_43 rfl rfl ?_
    refine jg_Lease_sums C (by first | assumption | exact kd_sums (by assumption) | exact kd_st1 (by assumption) | exact kd_st2 (by assumption) | exact kd_ls (by first | assumption | rfl) (by assumption) | exact kd_sb (by first | assumption | rfl) (by assumption) | exact kd_sv (by assumption) | rfl) qf_X2_9 dX2_copyFrom_44 ?_
    refine j_alen C (by first | assumption | exact kd_sums (by assumption) | exact kd_st1 (by assumption) | exact kd_st2 (by assumption) | exact kd_ls (by first | assumption | rfl) (by assumption) | exact kd_sb (by first | assumption | rfl) (by assumption) | exact kd_sv (by assumption) | rfl) rfl rfl dX2_copyFrom_47 ?_
    refine j_icmp_ge (tgt := 78) C dX2_copyFrom_48 (by decide) (fun h48 => ?_) (fun h48 => absurd (nI_le (by omega) (by omega)) h48)
    exact kx
  | succ j ih =>
    intro i hi
    refine j_iload_n C dX2_copyFrom_42 rfl rfl ?_
    refine j_aload_n C dX2_copyFrom_43 rfl rfl ?_
    refine jg_Lease_sums C (by first | assumption | exact kd_sums (by assumption) | exact kd_st1 (by assumption) | exact kd_st2 (by assumption) | exact kd_ls (by first | assumption | rfl) (by assumption) | exact kd_sb (by first | assumption | rfl) (by assumption) | exact kd_sv (by assumption) | rfl) qf_X2_9 dX2_copyFrom_44 ?_
    refine j_alen C (by first | assumption | exact kd_sums (by assumption) | exact kd_st1 (by assumption) | exact kd_st2 (by assumption) | exact kd_ls (by first | assumption | rfl) (by assumption) | exact kd_sb (by first | assumption | rfl) (by assumption) | exact kd_sv (by assumption) | rfl) rfl rfl dX2_copyFrom_47 ?_
    refine j_icmp_ge (tgt := 78) C dX2_copyFrom_48 (by decide) (fun h48 => absurd h48 (nI_ge (by omega) (by omega))) (fun h48 => ?_)
    refine j_iload_n C dX2_copyFrom_51 rfl rfl ?_
    refine j_aload_n C dX2_copyFrom_52 rfl rfl ?_
    refine jg_Lease_sums C (by first | assumption | exact kd_sums (by assumption) | exact kd_st1 (by assumption) | exact kd_st2 (by assumption) | exact kd_ls (by first | assumption | rfl) (by assumption) | exact kd_sb (by first | assumption | rfl) (by assumption) | exact kd_sv (by assumption) | rfl) qf_X2_9 dX2_copyFrom_53 ?_
    refine j_alen C (by first | assumption | exact kd_sums (by assumption) | exact kd_st1 (by assumption) | exact kd_st2 (by assumption) | exact kd_ls (by first | assumption | rfl) (by assumption) | exact kd_sb (by first | assumption | rfl) (by assumption) | exact kd_sv (by assumption) | rfl) rfl rfl dX2_copyFrom_56 ?_
    refine j_icmp_ge (tgt := 78) C dX2_copyFrom_57 (by decide) (fun h57 => absurd h57 (nI_ge (by omega) (by omega))) (fun h57 => ?_)
    refine j_aload_n C dX2_copyFrom_60 rfl rfl ?_
    refine jg_Lease_sums C (by first | assumption | exact kd_sums (by assumption) | exact kd_st1 (by assumption) | exact kd_st2 (by assumption) | exact kd_ls (by first | assumption | rfl) (by assumption) | exact kd_sb (by first | assumption | rfl) (by assumption) | exact kd_sv (by assumption) | rfl) qf_X2_9 dX2_copyFrom_61 ?_
    refine j_iload_n C dX2_copyFrom_64 rfl rfl ?_
    refine j_aload_n C dX2_copyFrom_65 rfl rfl ?_
    refine jg_Lease_sums C (by first | assumption | exact kd_sums (by assumption) | exact kd_st1 (by assumption) | exact kd_st2 (by assumption) | exact kd_ls (by first | assumption | rfl) (by assumption) | exact kd_sb (by first | assumption | rfl) (by assumption) | exact kd_sv (by assumption) | rfl) qf_X2_9 dX2_copyFrom_66 ?_
    refine j_iload_n C dX2_copyFrom_69 rfl rfl ?_
    refine j_ialdN C (by first | assumption | exact kd_sums (by assumption) | exact kd_st1 (by assumption) | exact kd_st2 (by assumption) | exact kd_ls (by first | assumption | rfl) (by assumption) | exact kd_sb (by first | assumption | rfl) (by assumption) | exact kd_sv (by assumption) | rfl) rfl rfl (by omega) dX2_copyFrom_70 ?_
    refine j_iastN C (by first | assumption | exact kd_sums (by assumption) | exact kd_st1 (by assumption) | exact kd_st2 (by assumption) | exact kd_ls (by first | assumption | rfl) (by assumption) | exact kd_sb (by first | assumption | rfl) (by assumption) | exact kd_sv (by assumption) | rfl) rfl rfl (by omega) dX2_copyFrom_71 ?_
    refine j_incN2 (q := 1) C dX2_copyFrom_72 (by decide) (Nat.le_of_ble_eq_true rfl) rfl ?_
    refine j_goto (tgt := 42) C dX2_copyFrom_75 (by decide) ?_
    refine j_mem (V' := (rcpy V (k + 8) (V (j0 + 8)) (i + 1))) (L' := L) (by rw [rcpy_ne (j := j0 + 8) (by omega)]; exact rcpy_step.symm) rfl ?_
    exact j_dr (lv' := [some (.ref (ad g k)), some (.ref (ad g j0)), some (.int (nI (i + 1)))]) (And.intro rfl (And.intro rfl (And.intro rfl True.intro))) (ih (i + 1) (by omega))
set_option maxHeartbeats 4000000 in
theorem c_X2_copyFrom {l : Launch} {g : GC} {V : Mem} {L : LMem} {k : Nat} (hk : kd k = 3) {j0 : Nat} (hj : kd j0 = 3) (hne : ¬ j0 = k) : MC l yX2_copyFrom cX2_copyFrom 3 (Option.none : Option Jvm.ClassFile.FieldType) 0 g V L [.ref (ad g k), .ref (ad g j0)] none (cCpy k j0 V) L := by
  refine MC.of [some (.ref (ad g k)), some (.ref (ad g j0)), none] (by decide +kernel) rfl (Nat.le_of_ble_eq_true rfl) (fun p e s m args below meth c C => ?_)
  refine j_aload_n C dX2_copyFrom_0 rfl rfl ?_
  refine j_aload_n C dX2_copyFrom_1 rfl rfl ?_
  refine jg_Lease_payment C (by first | assumption | exact kd_sums (by assumption) | exact kd_st1 (by assumption) | exact kd_st2 (by assumption) | exact kd_ls (by first | assumption | rfl) (by assumption) | exact kd_sb (by first | assumption | rfl) (by assumption) | exact kd_sv (by assumption) | rfl) qf_X2_15 dX2_copyFrom_2 ?_
  refine jp_Lease_payment C (by first | assumption | exact kd_sums (by assumption) | exact kd_st1 (by assumption) | exact kd_st2 (by assumption) | exact kd_ls (by first | assumption | rfl) (by assumption) | exact kd_sb (by first | assumption | rfl) (by assumption) | exact kd_sv (by assumption) | rfl) qf_X2_15 dX2_copyFrom_5 ?_
  refine j_aload_n C dX2_copyFrom_8 rfl rfl ?_
  refine j_aload_n C dX2_copyFrom_9 rfl rfl ?_
  refine jg_Lease_periods C (by first | assumption | exact kd_sums (by assumption) | exact kd_st1 (by assumption) | exact kd_st2 (by assumption) | exact kd_ls (by first | assumption | rfl) (by assumption) | exact kd_sb (by first | assumption | rfl) (by assumption) | exact kd_sv (by assumption) | rfl) qf_X2_19 dX2_copyFrom_10 ?_
  refine jp_Lease_periods C (by first | assumption | exact kd_sums (by assumption) | exact kd_st1 (by assumption) | exact kd_st2 (by assumption) | exact kd_ls (by first | assumption | rfl) (by assumption) | exact kd_sb (by first | assumption | rfl) (by assumption) | exact kd_sv (by assumption) | rfl) qf_X2_19 dX2_copyFrom_13 ?_
  refine j_aload_n C dX2_copyFrom_16 rfl rfl ?_
  refine j_aload_n C dX2_copyFrom_17 rfl rfl ?_
  refine jg_Lease_rate C (by first | assumption | exact kd_sums (by assumption) | exact kd_st1 (by assumption) | exact kd_st2 (by assumption) | exact kd_ls (by first | assumption | rfl) (by assumption) | exact kd_sb (by first | assumption | rfl) (by assumption) | exact kd_sv (by assumption) | rfl) qf_X2_22 dX2_copyFrom_18 ?_
  refine jp_Lease_rate C (by first | assumption | exact kd_sums (by assumption) | exact kd_st1 (by assumption) | exact kd_st2 (by assumption) | exact kd_ls (by first | assumption | rfl) (by assumption) | exact kd_sb (by first | assumption | rfl) (by assumption) | exact kd_sv (by assumption) | rfl) qf_X2_22 dX2_copyFrom_21 ?_
  refine j_aload_n C dX2_copyFrom_24 rfl rfl ?_
  refine j_aload_n C dX2_copyFrom_25 rfl rfl ?_
  refine jg_Lease_liability C (by first | assumption | exact kd_sums (by assumption) | exact kd_st1 (by assumption) | exact kd_st2 (by assumption) | exact kd_ls (by first | assumption | rfl) (by assumption) | exact kd_sb (by first | assumption | rfl) (by assumption) | exact kd_sv (by assumption) | rfl) qf_X2_29 dX2_copyFrom_26 ?_
  refine jp_Lease_liability C (by first | assumption | exact kd_sums (by assumption) | exact kd_st1 (by assumption) | exact kd_st2 (by assumption) | exact kd_ls (by first | assumption | rfl) (by assumption) | exact kd_sb (by first | assumption | rfl) (by assumption) | exact kd_sv (by assumption) | rfl) qf_X2_29 dX2_copyFrom_29 ?_
  refine j_aload_n C dX2_copyFrom_32 rfl rfl ?_
  refine j_aload_n C dX2_copyFrom_33 rfl rfl ?_
  refine jg_Lease_asset C (by first | assumption | exact kd_sums (by assumption) | exact kd_st1 (by assumption) | exact kd_st2 (by assumption) | exact kd_ls (by first | assumption | rfl) (by assumption) | exact kd_sb (by first | assumption | rfl) (by assumption) | exact kd_sv (by assumption) | rfl) qf_X2_32 dX2_copyFrom_34 ?_
  refine jp_Lease_asset C (by first | assumption | exact kd_sums (by assumption) | exact kd_st1 (by assumption) | exact kd_st2 (by assumption) | exact kd_ls (by first | assumption | rfl) (by assumption) | exact kd_sb (by first | assumption | rfl) (by assumption) | exact kd_sv (by assumption) | rfl) qf_X2_32 dX2_copyFrom_37 ?_
  refine j_iconst (v := (nI 0)) C dX2_copyFrom_40 (by decide) ?_
  refine j_ist2 C dX2_copyFrom_41 rfl (Nat.le_of_ble_eq_true rfl) rfl ?_
  refine j_mem (V' := rcpy (cCpy5 k j0 V) (k + 8) (cCpy5 k j0 V (j0 + 8)) 0) (L' := L) rcpy_0 rfl ?_
  refine lp_X2_copyFrom C hk hj hne ?_ 17 0 (by omega)
  exact j_vret C dX2_copyFrom_78 rfl (by rfl) (by rfl)
theorem dec1 {a : Nat} (h : 1 ≤ a) (h2 : a < 2 ^ 31) : nI a + Int32.ofInt (-1) = nI (a - 1) := by
  have e : nI a - nI 1 = nI (a - 1) := pk_sub h
  rw [← e, Int32.sub_eq_add_neg]
  rfl
set_option maxHeartbeats 4000000 in
theorem lp_X2_assetBehind {p : Program} {l : Launch} {e : Env} {s : State} {m : MethodId} {args : Array Value} {below : List Frame} {meth : Method} {c : Code} {g : GC} {Q : State → Prop} {V : Mem} {L : LMem} {k n d : Nat} (C : Cx p s args m meth c cX2_assetBehind 4 yX2_assetBehind.cls (some .int) g) (hk : kd k = 3) (hn : V k 1 = nI n) (hn6 : n ≤ 2000) (hd : d ≤ 2000) (kx : J p l e (RM 0) s m args below meth c 4 g 0 0 Q V L 36 [some (.ref (ad g k)), some (.int (nI d)), some (.int (aB (V k 4) n (min d n))), some (.int (nI (n - min d n)))] []) : ∀ j i : Nat, i + j = min d n → J p l e (RM 0) s m args below meth c 4 g 0 0 Q V L 10 [some (.ref (ad g k)), some (.int (nI d)), some (.int (aB (V k 4) n i)), some (.int (nI (n - i)))] [] := by
  intro j
  induction j with
  | zero =>
    intro i hi
    have hi : i = min d n := by omega
    subst hi
    by_cases hdn : d < n
    · refine j_iload_n C dX2_assetBehind_10 rfl rfl ?_
      refine j_if_le (tgt := 36) C dX2_assetBehind_11 (by decide) (fun h11 => (by exact absurd ((nI_leI (a := n - min d n) (b := 0) (by omega) (by omega)).mp h11) (by omega))) (fun h11 => ?_)
      refine j_iload_n C dX2_assetBehind_14 rfl rfl ?_
      refine j_aload_n C dX2_assetBehind_15 rfl rfl ?_
      refine jg_Lease_periods C (by first | assumption | exact kd_sums (by assumption) | exact kd_st1 (by assumption) | exact kd_st2 (by assumption) | exact kd_ls (by first | assumption | rfl) (by assumption) | exact kd_sb (by first | assumption | rfl) (by assumption) | exact kd_sv (by assumption) | rfl) qf_X2_19 dX2_assetBehind_16 ?_
      refine j_iload_n C dX2_assetBehind_19 rfl rfl ?_
      refine j_isub C dX2_assetBehind_20 ?_
      refine j_tope (y := (nI n - nI d)) (by rw [hn]) ?_
      refine j_icmp_le (tgt := 36) C dX2_assetBehind_21 (by decide) (fun h21 => ?_) (fun h21 => (by exact absurd (show nI (n - min d n) ≤ nI n - nI d from (nI_subC (by omega) (by omega) (by omega)).mpr (by omega)) h21))
      exact kx
    · refine j_iload_n C dX2_assetBehind_10 rfl rfl ?_
      refine j_if_le (tgt := 36) C dX2_assetBehind_11 (by decide) (fun h11 => ?_) (fun h11 => (by exact absurd (show nI (n - min d n) ≤ nI 0 from nI_le (by omega) (by omega)) h11))
      exact kx
  | succ j ih =>
    intro i hi
    refine j_iload_n C dX2_assetBehind_10 rfl rfl ?_
    refine j_if_le (tgt := 36) C dX2_assetBehind_11 (by decide) (fun h11 => (by exact absurd ((nI_leI (a := n - i) (b := 0) (by omega) (by omega)).mp h11) (by omega))) (fun h11 => ?_)
    refine j_iload_n C dX2_assetBehind_14 rfl rfl ?_
    refine j_aload_n C dX2_assetBehind_15 rfl rfl ?_
    refine jg_Lease_periods C (by first | assumption | exact kd_sums (by assumption) | exact kd_st1 (by assumption) | exact kd_st2 (by assumption) | exact kd_ls (by first | assumption | rfl) (by assumption) | exact kd_sb (by first | assumption | rfl) (by assumption) | exact kd_sv (by assumption) | rfl) qf_X2_19 dX2_assetBehind_16 ?_
    refine j_iload_n C dX2_assetBehind_19 rfl rfl ?_
    refine j_isub C dX2_assetBehind_20 ?_
    refine j_tope (y := (nI n - nI d)) (by rw [hn]) ?_
    refine j_icmp_le (tgt := 36) C dX2_assetBehind_21 (by decide) (fun h21 => (by exact absurd ((nI_subC (j := n - i) (by omega) (by omega) (by omega)).mp h21) (by omega))) (fun h21 => ?_)
    refine j_iload_n C dX2_assetBehind_24 rfl rfl ?_
    refine j_iload_n C dX2_assetBehind_25 rfl rfl ?_
    refine j_iload_n C dX2_assetBehind_26 rfl rfl ?_
    refine j_idiv C dX2_assetBehind_27 (by intro q; exact absurd ((nI_eq (a := n - i) (b := 0) (by omega) (by omega)).mp q) (by omega)) ?_
    refine j_isub C dX2_assetBehind_28 ?_
    refine j_ist2 C dX2_assetBehind_29 rfl (Nat.le_of_ble_eq_true rfl) rfl ?_
    refine j_inc3 C dX2_assetBehind_30 rfl (Nat.le_of_ble_eq_true rfl) rfl ?_
    refine j_goto (tgt := 10) C dX2_assetBehind_33 (by decide) ?_
    exact j_dr (lv' := [some (.ref (ad g k)), some (.int (nI d)), some (.int (aB (V k 4) n (i + 1))), some (.int (nI (n - (i + 1))))]) (And.intro rfl (And.intro rfl (And.intro rfl (And.intro (by rw [dec1 (a := n - i) (by omega) (by omega)]; rfl) True.intro)))) (ih (i + 1) (by omega))
set_option maxHeartbeats 4000000 in
theorem c_X2_assetBehind {l : Launch} {g : GC} {V : Mem} {L : LMem} {k : Nat} (hk : kd k = 3) {n d : Nat} (hn : V k 1 = nI n) (hn6 : n ≤ 2000) (hd : d ≤ 2000) : MC l yX2_assetBehind cX2_assetBehind 4 (some .int) 0 g V L [.ref (ad g k), .int (nI d)] (some (.int (aB (V k 4) n (min d n)))) V L := by
  refine MC.of [some (.ref (ad g k)), some (.int (nI d)), none, none] (by decide +kernel) rfl (Nat.le_of_ble_eq_true rfl) (fun p e s m args below meth c C => ?_)
  refine j_aload_n C dX2_assetBehind_0 rfl rfl ?_
  refine jg_Lease_asset C (by first | assumption | exact kd_sums (by assumption) | exact kd_st1 (by assumption) | exact kd_st2 (by assumption) | exact kd_ls (by first | assumption | rfl) (by assumption) | exact kd_sb (by first | assumption | rfl) (by assumption) | exact kd_sv (by assumption) | rfl) qf_X2_32 dX2_assetBehind_1 ?_
  refine j_ist2 C dX2_assetBehind_4 rfl (Nat.le_of_ble_eq_true rfl) rfl ?_
  refine j_aload_n C dX2_assetBehind_5 rfl rfl ?_
  refine jg_Lease_periods C (by first | assumption | exact kd_sums (by assumption) | exact kd_st1 (by assumption) | exact kd_st2 (by assumption) | exact kd_ls (by first | assumption | rfl) (by assumption) | exact kd_sb (by first | assumption | rfl) (by assumption) | exact kd_sv (by assumption) | rfl) qf_X2_19 dX2_assetBehind_6 ?_
  refine j_tope (y := nI n) (by exact hn) ?_
  refine j_ist3 C dX2_assetBehind_9 rfl (Nat.le_of_ble_eq_true rfl) rfl ?_
  refine lp_X2_assetBehind C hk hn hn6 hd ?_ (min d n) 0 (by omega)
  refine j_iload_n C dX2_assetBehind_36 rfl rfl ?_
  exact j_iret C dX2_assetBehind_37 (by rfl) (by rfl) (by rfl)
set_option maxHeartbeats 4000000 in
theorem c_X2_passPeriods {l : Launch} {g : GC} {V : Mem} {L : LMem} {k : Nat} (hk : kd k = 3) {n d : Nat} (hn : V k 1 = nI n) (hn6 : n ≤ 2000) (hd : d ≤ 2000) (hz : rateR (V k 2)) : MC l yX2_passPeriods cX2_passPeriods 5 (Option.none : Option Jvm.ClassFile.FieldType) 2 g V L [.ref (ad g k), .int (nI d)] none (cPass k n d V) L := by
  refine MC.of [some (.ref (ad g k)), some (.int (nI d)), none, none, none] (by decide +kernel) rfl (Nat.le_of_ble_eq_true rfl) (fun p e s m args below meth c C => ?_)
  refine j_aload_n C dX2_passPeriods_0 rfl rfl ?_
  refine jg_Lease_payment C (by first | assumption | exact kd_sums (by assumption) | exact kd_st1 (by assumption) | exact kd_st2 (by assumption) | exact kd_ls (by first | assumption | rfl) (by assumption) | exact kd_sb (by first | assumption | rfl) (by assumption) | exact kd_sv (by assumption) | rfl) qf_X2_15 dX2_passPeriods_1 ?_
  refine j_iload_n C dX2_passPeriods_4 rfl rfl ?_
  refine j_aload_n C dX2_passPeriods_5 rfl rfl ?_
  refine jg_Lease_periods C (by first | assumption | exact kd_sums (by assumption) | exact kd_st1 (by assumption) | exact kd_st2 (by assumption) | exact kd_ls (by first | assumption | rfl) (by assumption) | exact kd_sb (by first | assumption | rfl) (by assumption) | exact kd_sv (by assumption) | rfl) qf_X2_19 dX2_passPeriods_6 ?_
  refine j_mmin C qm_X2_43 qt_J9_min_7cf53 qn_J9 qc_J9_min_7cf53 (Nat.le_of_ble_eq_true rfl) (Nat.le_of_ble_eq_true rfl) (Nat.le_of_ble_eq_true rfl) (Nat.le_of_ble_eq_true rfl) dX2_passPeriods_9 ?_
  refine j_imul C dX2_passPeriods_12 ?_
  refine j_ist2 C dX2_passPeriods_13 rfl (Nat.le_of_ble_eq_true rfl) rfl ?_
  refine j_aload_n C dX2_passPeriods_14 rfl rfl ?_
  refine j_iload_n C dX2_passPeriods_15 rfl rfl ?_
  refine j_callV1r C (oa_X2 (by first | assumption | exact kd_sums (by assumption) | exact kd_st1 (by assumption) | exact kd_st2 (by assumption) | exact kd_ls (by first | assumption | rfl) (by assumption) | exact kd_sb (by first | assumption | rfl) (by assumption) | exact kd_sv (by assumption) | rfl)) rfl rfl (c_X2_liabilityBehind hk hz) qm_X2_39 qi_X2_liabilityBehind qs_X2_liabilityBehind qn_X2 qc_X2_liabilityBehind fit_X2_liabilityBehind ⟨Nat.le_of_ble_eq_true rfl, Nat.le_of_ble_eq_true rfl, Nat.le_of_ble_eq_true rfl, Nat.le_of_ble_eq_true rfl⟩ (Nat.le_of_ble_eq_true rfl) dX2_passPeriods_16 ?_
  refine j_ist3 C dX2_passPeriods_19 rfl (Nat.le_of_ble_eq_true rfl) rfl ?_
  refine j_aload_n C dX2_passPeriods_20 rfl rfl ?_
  refine j_iload_n C dX2_passPeriods_21 rfl rfl ?_
  refine j_callV1r C (oa_X2 (by first | assumption | exact kd_sums (by assumption) | exact kd_st1 (by assumption) | exact kd_st2 (by assumption) | exact kd_ls (by first | assumption | rfl) (by assumption) | exact kd_sb (by first | assumption | rfl) (by assumption) | exact kd_sv (by assumption) | rfl)) rfl rfl (c_X2_assetBehind hk hn hn6 hd) qm_X2_49 qi_X2_assetBehind qs_X2_assetBehind qn_X2 qc_X2_assetBehind fit_X2_assetBehind ⟨Nat.le_of_ble_eq_true rfl, Nat.le_of_ble_eq_true rfl, Nat.le_of_ble_eq_true rfl, Nat.le_of_ble_eq_true rfl⟩ (Nat.le_of_ble_eq_true rfl) dX2_passPeriods_22 ?_
  refine j_ist4 C dX2_passPeriods_25 (Nat.le_of_ble_eq_true rfl) rfl ?_
  refine j_aload_n C dX2_passPeriods_27 rfl rfl ?_
  refine j_iconst (v := (nI 1)) C dX2_passPeriods_28 (by decide) ?_
  refine j_iload_n C dX2_passPeriods_29 rfl rfl ?_
  refine j_aload_n C dX2_passPeriods_30 rfl rfl ?_
  refine jg_Lease_liability C (by first | assumption | exact kd_sums (by assumption) | exact kd_st1 (by assumption) | exact kd_st2 (by assumption) | exact kd_ls (by first | assumption | rfl) (by assumption) | exact kd_sb (by first | assumption | rfl) (by assumption) | exact kd_sv (by assumption) | rfl) qf_X2_29 dX2_passPeriods_31 ?_
  refine j_isub C dX2_passPeriods_34 ?_
  refine j_iload_n C dX2_passPeriods_35 rfl rfl ?_
  refine j_iadd C dX2_passPeriods_36 ?_
  refine j_callV2v C (oa_X2 (by first | assumption | exact kd_sums (by assumption) | exact kd_st1 (by assumption) | exact kd_st2 (by assumption) | exact kd_ls (by first | assumption | rfl) (by assumption) | exact kd_sb (by first | assumption | rfl) (by assumption) | exact kd_sv (by assumption) | rfl)) rfl rfl (c_X2_move hk (by omega)) qm_X2_35 qi_X2_move qs_X2_move qn_X2 qc_X2_move fit_X2_move ⟨Nat.le_of_ble_eq_true rfl, Nat.le_of_ble_eq_true rfl, Nat.le_of_ble_eq_true rfl, Nat.le_of_ble_eq_true rfl⟩ (Nat.le_of_ble_eq_true rfl) dX2_passPeriods_37 ?_
  refine j_aload_n C dX2_passPeriods_40 rfl rfl ?_
  refine j_iconst (v := (nI 2)) C dX2_passPeriods_41 (by decide) ?_
  refine j_iload_n C dX2_passPeriods_42 rfl rfl ?_
  refine j_callV2v C (oa_X2 (by first | assumption | exact kd_sums (by assumption) | exact kd_st1 (by assumption) | exact kd_st2 (by assumption) | exact kd_ls (by first | assumption | rfl) (by assumption) | exact kd_sb (by first | assumption | rfl) (by assumption) | exact kd_sv (by assumption) | rfl)) rfl rfl (c_X2_move hk (by omega)) qm_X2_35 qi_X2_move qs_X2_move qn_X2 qc_X2_move fit_X2_move ⟨Nat.le_of_ble_eq_true rfl, Nat.le_of_ble_eq_true rfl, Nat.le_of_ble_eq_true rfl, Nat.le_of_ble_eq_true rfl⟩ (Nat.le_of_ble_eq_true rfl) dX2_passPeriods_43 ?_
  refine j_aload_n C dX2_passPeriods_46 rfl rfl ?_
  refine j_bipush (v := (nI 6)) C dX2_passPeriods_47 (by decide) ?_
  refine j_aload_n C dX2_passPeriods_49 rfl rfl ?_
  refine jg_Lease_asset C (by first | assumption | exact kd_sums (by assumption) | exact kd_st1 (by assumption) | exact kd_st2 (by assumption) | exact kd_ls (by first | assumption | rfl) (by assumption) | exact kd_sb (by first | assumption | rfl) (by assumption) | exact kd_sv (by assumption) | rfl) qf_X2_32 dX2_passPeriods_50 ?_
  refine j_iload C dX2_passPeriods_53 rfl ?_
  refine j_isub C dX2_passPeriods_55 ?_
  refine j_callV2v C (oa_X2 (by first | assumption | exact kd_sums (by assumption) | exact kd_st1 (by assumption) | exact kd_st2 (by assumption) | exact kd_ls (by first | assumption | rfl) (by assumption) | exact kd_sb (by first | assumption | rfl) (by assumption) | exact kd_sv (by assumption) | rfl)) rfl rfl (c_X2_move hk (by omega)) qm_X2_35 qi_X2_move qs_X2_move qn_X2 qc_X2_move fit_X2_move ⟨Nat.le_of_ble_eq_true rfl, Nat.le_of_ble_eq_true rfl, Nat.le_of_ble_eq_true rfl, Nat.le_of_ble_eq_true rfl⟩ (Nat.le_of_ble_eq_true rfl) dX2_passPeriods_56 ?_
  refine j_aload_n C dX2_passPeriods_59 rfl rfl ?_
  refine j_iload_n C dX2_passPeriods_60 rfl rfl ?_
  refine jp_Lease_liability C (by first | assumption | exact kd_sums (by assumption) | exact kd_st1 (by assumption) | exact kd_st2 (by assumption) | exact kd_ls (by first | assumption | rfl) (by assumption) | exact kd_sb (by first | assumption | rfl) (by assumption) | exact kd_sv (by assumption) | rfl) qf_X2_29 dX2_passPeriods_61 ?_
  refine j_aload_n C dX2_passPeriods_64 rfl rfl ?_
  refine j_iload C dX2_passPeriods_65 rfl ?_
  refine jp_Lease_asset C (by first | assumption | exact kd_sums (by assumption) | exact kd_st1 (by assumption) | exact kd_st2 (by assumption) | exact kd_ls (by first | assumption | rfl) (by assumption) | exact kd_sb (by first | assumption | rfl) (by assumption) | exact kd_sv (by assumption) | rfl) qf_X2_32 dX2_passPeriods_67 ?_
  refine j_aload_n C dX2_passPeriods_70 rfl rfl ?_
  refine j_iconst (v := (nI 0)) C dX2_passPeriods_71 (by decide) ?_
  refine j_aload_n C dX2_passPeriods_72 rfl rfl ?_
  refine jg_Lease_periods C (by first | assumption | exact kd_sums (by assumption) | exact kd_st1 (by assumption) | exact kd_st2 (by assumption) | exact kd_ls (by first | assumption | rfl) (by assumption) | exact kd_sb (by first | assumption | rfl) (by assumption) | exact kd_sv (by assumption) | rfl) qf_X2_19 dX2_passPeriods_73 ?_
  refine j_iload_n C dX2_passPeriods_76 rfl rfl ?_
  refine j_isub C dX2_passPeriods_77 ?_
  refine j_mmax C qm_X2_52 qt_J9_max_7cf53 qn_J9 qc_J9_max_7cf53 (Nat.le_of_ble_eq_true rfl) (Nat.le_of_ble_eq_true rfl) (Nat.le_of_ble_eq_true rfl) (Nat.le_of_ble_eq_true rfl) dX2_passPeriods_78 ?_
  refine jp_Lease_periods C (by first | assumption | exact kd_sums (by assumption) | exact kd_st1 (by assumption) | exact kd_st2 (by assumption) | exact kd_ls (by first | assumption | rfl) (by assumption) | exact kd_sb (by first | assumption | rfl) (by assumption) | exact kd_sv (by assumption) | rfl) qf_X2_19 dX2_passPeriods_81 ?_
  exact j_vret C dX2_passPeriods_84 rfl (by rfl) (by rfl)
set_option maxHeartbeats 4000000 in
theorem c_X2_measure {l : Launch} {g : GC} {V : Mem} {L : LMem} {k : Nat} (hk : kd k = 3) {p1 n r : Int32} (hz : rateR r) : MC l yX2_measure cX2_measure 6 (Option.none : Option Jvm.ClassFile.FieldType) 2 g V L [.ref (ad g k), .int p1, .int n, .int r] none (cMeas k p1 n r V) L := by
  refine MC.of [some (.ref (ad g k)), some (.int p1), some (.int n), some (.int r), none, none] (by decide +kernel) rfl (Nat.le_of_ble_eq_true rfl) (fun p e s m args below meth c C => ?_)
  refine j_iload_n C dX2_measure_0 rfl rfl ?_
  refine j_iload_n C dX2_measure_1 rfl rfl ?_
  refine j_iload_n C dX2_measure_2 rfl rfl ?_
  refine j_callSN3r C (c_X6_presentWorth hz) nw_X2_25 qt_X6_presentWorth qn_X6 qc_X6_presentWorth fit_X6_presentWorth ⟨Nat.le_of_ble_eq_true rfl, Nat.le_of_ble_eq_true rfl, Nat.le_of_ble_eq_true rfl, Nat.le_of_ble_eq_true rfl⟩ (Nat.le_of_ble_eq_true rfl) dX2_measure_3 ?_
  refine j_ist4 C dX2_measure_6 (Nat.le_of_ble_eq_true rfl) rfl ?_
  refine j_aload_n C dX2_measure_8 rfl rfl ?_
  refine j_iload C dX2_measure_9 rfl ?_
  refine j_callV1r C (oa_X2 (by first | assumption | exact kd_sums (by assumption) | exact kd_st1 (by assumption) | exact kd_st2 (by assumption) | exact kd_ls (by first | assumption | rfl) (by assumption) | exact kd_sb (by first | assumption | rfl) (by assumption) | exact kd_sv (by assumption) | rfl)) rfl rfl (c_X2_assetWithLiability hk) qm_X2_55 qi_X2_assetWithLiability qs_X2_assetWithLiability qn_X2 qc_X2_assetWithLiability fit_X2_assetWithLiability ⟨Nat.le_of_ble_eq_true rfl, Nat.le_of_ble_eq_true rfl, Nat.le_of_ble_eq_true rfl, Nat.le_of_ble_eq_true rfl⟩ (Nat.le_of_ble_eq_true rfl) dX2_measure_11 ?_
  refine j_ist5 C dX2_measure_14 (Nat.le_of_ble_eq_true rfl) rfl ?_
  refine j_aload_n C dX2_measure_16 rfl rfl ?_
  refine j_iconst (v := (nI 3)) C dX2_measure_17 (by decide) ?_
  refine j_iload C dX2_measure_18 rfl ?_
  refine j_aload_n C dX2_measure_20 rfl rfl ?_
  refine jg_Lease_liability C (by first | assumption | exact kd_sums (by assumption) | exact kd_st1 (by assumption) | exact kd_st2 (by assumption) | exact kd_ls (by first | assumption | rfl) (by assumption) | exact kd_sb (by first | assumption | rfl) (by assumption) | exact kd_sv (by assumption) | rfl) qf_X2_29 dX2_measure_21 ?_
  refine j_isub C dX2_measure_24 ?_
  refine j_callV2v C (oa_X2 (by first | assumption | exact kd_sums (by assumption) | exact kd_st1 (by assumption) | exact kd_st2 (by assumption) | exact kd_ls (by first | assumption | rfl) (by assumption) | exact kd_sb (by first | assumption | rfl) (by assumption) | exact kd_sv (by assumption) | rfl)) rfl rfl (c_X2_move hk (by omega)) qm_X2_35 qi_X2_move qs_X2_move qn_X2 qc_X2_move fit_X2_move ⟨Nat.le_of_ble_eq_true rfl, Nat.le_of_ble_eq_true rfl, Nat.le_of_ble_eq_true rfl, Nat.le_of_ble_eq_true rfl⟩ (Nat.le_of_ble_eq_true rfl) dX2_measure_25 ?_
  refine j_aload_n C dX2_measure_28 rfl rfl ?_
  refine j_bipush (v := (nI 7)) C dX2_measure_29 (by decide) ?_
  refine j_iload C dX2_measure_31 rfl ?_
  refine j_aload_n C dX2_measure_33 rfl rfl ?_
  refine jg_Lease_asset C (by first | assumption | exact kd_sums (by assumption) | exact kd_st1 (by assumption) | exact kd_st2 (by assumption) | exact kd_ls (by first | assumption | rfl) (by assumption) | exact kd_sb (by first | assumption | rfl) (by assumption) | exact kd_sv (by assumption) | rfl) qf_X2_32 dX2_measure_34 ?_
  refine j_isub C dX2_measure_37 ?_
  refine j_callV2v C (oa_X2 (by first | assumption | exact kd_sums (by assumption) | exact kd_st1 (by assumption) | exact kd_st2 (by assumption) | exact kd_ls (by first | assumption | rfl) (by assumption) | exact kd_sb (by first | assumption | rfl) (by assumption) | exact kd_sv (by assumption) | rfl)) rfl rfl (c_X2_move hk (by omega)) qm_X2_35 qi_X2_move qs_X2_move qn_X2 qc_X2_move fit_X2_move ⟨Nat.le_of_ble_eq_true rfl, Nat.le_of_ble_eq_true rfl, Nat.le_of_ble_eq_true rfl, Nat.le_of_ble_eq_true rfl⟩ (Nat.le_of_ble_eq_true rfl) dX2_measure_38 ?_
  refine j_aload_n C dX2_measure_41 rfl rfl ?_
  refine j_iload_n C dX2_measure_42 rfl rfl ?_
  refine jp_Lease_payment C (by first | assumption | exact kd_sums (by assumption) | exact kd_st1 (by assumption) | exact kd_st2 (by assumption) | exact kd_ls (by first | assumption | rfl) (by assumption) | exact kd_sb (by first | assumption | rfl) (by assumption) | exact kd_sv (by assumption) | rfl) qf_X2_15 dX2_measure_43 ?_
  refine j_aload_n C dX2_measure_46 rfl rfl ?_
  refine j_iload_n C dX2_measure_47 rfl rfl ?_
  refine jp_Lease_periods C (by first | assumption | exact kd_sums (by assumption) | exact kd_st1 (by assumption) | exact kd_st2 (by assumption) | exact kd_ls (by first | assumption | rfl) (by assumption) | exact kd_sb (by first | assumption | rfl) (by assumption) | exact kd_sv (by assumption) | rfl) qf_X2_19 dX2_measure_48 ?_
  refine j_aload_n C dX2_measure_51 rfl rfl ?_
  refine j_iload_n C dX2_measure_52 rfl rfl ?_
  refine jp_Lease_rate C (by first | assumption | exact kd_sums (by assumption) | exact kd_st1 (by assumption) | exact kd_st2 (by assumption) | exact kd_ls (by first | assumption | rfl) (by assumption) | exact kd_sb (by first | assumption | rfl) (by assumption) | exact kd_sv (by assumption) | rfl) qf_X2_22 dX2_measure_53 ?_
  refine j_aload_n C dX2_measure_56 rfl rfl ?_
  refine j_iload C dX2_measure_57 rfl ?_
  refine jp_Lease_liability C (by first | assumption | exact kd_sums (by assumption) | exact kd_st1 (by assumption) | exact kd_st2 (by assumption) | exact kd_ls (by first | assumption | rfl) (by assumption) | exact kd_sb (by first | assumption | rfl) (by assumption) | exact kd_sv (by assumption) | rfl) qf_X2_29 dX2_measure_59 ?_
  refine j_aload_n C dX2_measure_62 rfl rfl ?_
  refine j_iload C dX2_measure_63 rfl ?_
  refine jp_Lease_asset C (by first | assumption | exact kd_sums (by assumption) | exact kd_st1 (by assumption) | exact kd_st2 (by assumption) | exact kd_ls (by first | assumption | rfl) (by assumption) | exact kd_sb (by first | assumption | rfl) (by assumption) | exact kd_sv (by assumption) | rfl) qf_X2_32 dX2_measure_65 ?_
  exact j_vret C dX2_measure_68 rfl (by rfl) (by rfl)
set_option maxHeartbeats 4000000 in
theorem c_X2_endThousandths {l : Launch} {g : GC} {V : Mem} {L : LMem} {k : Nat} (hk : kd k = 3) {t fee : Int32} (hz : rateR (V k 2)) : MC l yX2_endThousandths cX2_endThousandths 5 (some .int) 1 g V L [.ref (ad g k), .int t, .int fee] (some (.int (cEndL k t V - cEndA k t V - fee))) (cEnd k t fee V) L := by
  refine MC.of [some (.ref (ad g k)), some (.int t), some (.int fee), none, none] (by decide +kernel) rfl (Nat.le_of_ble_eq_true rfl) (fun p e s m args below meth c C => ?_)
  refine j_aload_n C dX2_endThousandths_0 rfl rfl ?_
  refine j_dup C dX2_endThousandths_1 rfl ?_
  refine jg_Lease_payment C (by first | assumption | exact kd_sums (by assumption) | exact kd_st1 (by assumption) | exact kd_st2 (by assumption) | exact kd_ls (by first | assumption | rfl) (by assumption) | exact kd_sb (by first | assumption | rfl) (by assumption) | exact kd_sv (by assumption) | rfl) qf_X2_15 dX2_endThousandths_2 ?_
  refine j_aload_n C dX2_endThousandths_5 rfl rfl ?_
  refine jg_Lease_payment C (by first | assumption | exact kd_sums (by assumption) | exact kd_st1 (by assumption) | exact kd_st2 (by assumption) | exact kd_ls (by first | assumption | rfl) (by assumption) | exact kd_sb (by first | assumption | rfl) (by assumption) | exact kd_sv (by assumption) | rfl) qf_X2_15 dX2_endThousandths_6 ?_
  refine j_iload_n C dX2_endThousandths_9 rfl rfl ?_
  refine j_callSN2r C (c_X6_thousandthsOf) nw_X2_58 qt_X6_thousandthsOf qn_X6 qc_X6_thousandthsOf fit_X6_thousandthsOf ⟨Nat.le_of_ble_eq_true rfl, Nat.le_of_ble_eq_true rfl, Nat.le_of_ble_eq_true rfl, Nat.le_of_ble_eq_true rfl⟩ (Nat.le_of_ble_eq_true rfl) dX2_endThousandths_10 ?_
  refine j_isub C dX2_endThousandths_13 ?_
  refine jp_Lease_payment C (by first | assumption | exact kd_sums (by assumption) | exact kd_st1 (by assumption) | exact kd_st2 (by assumption) | exact kd_ls (by first | assumption | rfl) (by assumption) | exact kd_sb (by first | assumption | rfl) (by assumption) | exact kd_sv (by assumption) | rfl) qf_X2_15 dX2_endThousandths_14 ?_
  refine j_aload_n C dX2_endThousandths_17 rfl rfl ?_
  refine jg_Lease_liability C (by first | assumption | exact kd_sums (by assumption) | exact kd_st1 (by assumption) | exact kd_st2 (by assumption) | exact kd_ls (by first | assumption | rfl) (by assumption) | exact kd_sb (by first | assumption | rfl) (by assumption) | exact kd_sv (by assumption) | rfl) qf_X2_29 dX2_endThousandths_18 ?_
  refine j_aload_n C dX2_endThousandths_21 rfl rfl ?_
  refine jg_Lease_payment C (by first | assumption | exact kd_sums (by assumption) | exact kd_st1 (by assumption) | exact kd_st2 (by assumption) | exact kd_ls (by first | assumption | rfl) (by assumption) | exact kd_sb (by first | assumption | rfl) (by assumption) | exact kd_sv (by assumption) | rfl) qf_X2_15 dX2_endThousandths_22 ?_
  refine j_aload_n C dX2_endThousandths_25 rfl rfl ?_
  refine jg_Lease_periods C (by first | assumption | exact kd_sums (by assumption) | exact kd_st1 (by assumption) | exact kd_st2 (by assumption) | exact kd_ls (by first | assumption | rfl) (by assumption) | exact kd_sb (by first | assumption | rfl) (by assumption) | exact kd_sv (by assumption) | rfl) qf_X2_19 dX2_endThousandths_26 ?_
  refine j_aload_n C dX2_endThousandths_29 rfl rfl ?_
  refine jg_Lease_rate C (by first | assumption | exact kd_sums (by assumption) | exact kd_st1 (by assumption) | exact kd_st2 (by assumption) | exact kd_ls (by first | assumption | rfl) (by assumption) | exact kd_sb (by first | assumption | rfl) (by assumption) | exact kd_sv (by assumption) | rfl) qf_X2_22 dX2_endThousandths_30 ?_
  refine j_callSN3r C (c_X6_presentWorth (by rw [mset_ne (by omega)]; exact hz)) nw_X2_25 qt_X6_presentWorth qn_X6 qc_X6_presentWorth fit_X6_presentWorth ⟨Nat.le_of_ble_eq_true rfl, Nat.le_of_ble_eq_true rfl, Nat.le_of_ble_eq_true rfl, Nat.le_of_ble_eq_true rfl⟩ (Nat.le_of_ble_eq_true rfl) dX2_endThousandths_33 ?_
  refine j_isub C dX2_endThousandths_36 ?_
  refine j_ist3 C dX2_endThousandths_37 rfl (Nat.le_of_ble_eq_true rfl) rfl ?_
  refine j_aload_n C dX2_endThousandths_38 rfl rfl ?_
  refine jg_Lease_asset C (by first | assumption | exact kd_sums (by assumption) | exact kd_st1 (by assumption) | exact kd_st2 (by assumption) | exact kd_ls (by first | assumption | rfl) (by assumption) | exact kd_sb (by first | assumption | rfl) (by assumption) | exact kd_sv (by assumption) | rfl) qf_X2_32 dX2_endThousandths_39 ?_
  refine j_iload_n C dX2_endThousandths_42 rfl rfl ?_
  refine j_callSN2r C (c_X6_thousandthsOf) nw_X2_58 qt_X6_thousandthsOf qn_X6 qc_X6_thousandthsOf fit_X6_thousandthsOf ⟨Nat.le_of_ble_eq_true rfl, Nat.le_of_ble_eq_true rfl, Nat.le_of_ble_eq_true rfl, Nat.le_of_ble_eq_true rfl⟩ (Nat.le_of_ble_eq_true rfl) dX2_endThousandths_43 ?_
  refine j_ist4 C dX2_endThousandths_46 (Nat.le_of_ble_eq_true rfl) rfl ?_
  refine j_aload_n C dX2_endThousandths_48 rfl rfl ?_
  refine j_dup C dX2_endThousandths_49 rfl ?_
  refine jg_Lease_liability C (by first | assumption | exact kd_sums (by assumption) | exact kd_st1 (by assumption) | exact kd_st2 (by assumption) | exact kd_ls (by first | assumption | rfl) (by assumption) | exact kd_sb (by first | assumption | rfl) (by assumption) | exact kd_sv (by assumption) | rfl) qf_X2_29 dX2_endThousandths_50 ?_
  refine j_iload_n C dX2_endThousandths_53 rfl rfl ?_
  refine j_isub C dX2_endThousandths_54 ?_
  refine jp_Lease_liability C (by first | assumption | exact kd_sums (by assumption) | exact kd_st1 (by assumption) | exact kd_st2 (by assumption) | exact kd_ls (by first | assumption | rfl) (by assumption) | exact kd_sb (by first | assumption | rfl) (by assumption) | exact kd_sv (by assumption) | rfl) qf_X2_29 dX2_endThousandths_55 ?_
  refine j_aload_n C dX2_endThousandths_58 rfl rfl ?_
  refine j_dup C dX2_endThousandths_59 rfl ?_
  refine jg_Lease_asset C (by first | assumption | exact kd_sums (by assumption) | exact kd_st1 (by assumption) | exact kd_st2 (by assumption) | exact kd_ls (by first | assumption | rfl) (by assumption) | exact kd_sb (by first | assumption | rfl) (by assumption) | exact kd_sv (by assumption) | rfl) qf_X2_32 dX2_endThousandths_60 ?_
  refine j_iload C dX2_endThousandths_63 rfl ?_
  refine j_isub C dX2_endThousandths_65 ?_
  refine jp_Lease_asset C (by first | assumption | exact kd_sums (by assumption) | exact kd_st1 (by assumption) | exact kd_st2 (by assumption) | exact kd_ls (by first | assumption | rfl) (by assumption) | exact kd_sb (by first | assumption | rfl) (by assumption) | exact kd_sv (by assumption) | rfl) qf_X2_32 dX2_endThousandths_66 ?_
  refine j_aload_n C dX2_endThousandths_69 rfl rfl ?_
  refine j_iconst (v := (nI 4)) C dX2_endThousandths_70 (by decide) ?_
  refine j_iload_n C dX2_endThousandths_71 rfl rfl ?_
  refine j_callV2v C (oa_X2 (by first | assumption | exact kd_sums (by assumption) | exact kd_st1 (by assumption) | exact kd_st2 (by assumption) | exact kd_ls (by first | assumption | rfl) (by assumption) | exact kd_sb (by first | assumption | rfl) (by assumption) | exact kd_sv (by assumption) | rfl)) rfl rfl (c_X2_move hk (by omega)) qm_X2_35 qi_X2_move qs_X2_move qn_X2 qc_X2_move fit_X2_move ⟨Nat.le_of_ble_eq_true rfl, Nat.le_of_ble_eq_true rfl, Nat.le_of_ble_eq_true rfl, Nat.le_of_ble_eq_true rfl⟩ (Nat.le_of_ble_eq_true rfl) dX2_endThousandths_72 ?_
  refine j_aload_n C dX2_endThousandths_75 rfl rfl ?_
  refine j_bipush (v := (nI 8)) C dX2_endThousandths_76 (by decide) ?_
  refine j_iload C dX2_endThousandths_78 rfl ?_
  refine j_callV2v C (oa_X2 (by first | assumption | exact kd_sums (by assumption) | exact kd_st1 (by assumption) | exact kd_st2 (by assumption) | exact kd_ls (by first | assumption | rfl) (by assumption) | exact kd_sb (by first | assumption | rfl) (by assumption) | exact kd_sv (by assumption) | rfl)) rfl rfl (c_X2_move hk (by omega)) qm_X2_35 qi_X2_move qs_X2_move qn_X2 qc_X2_move fit_X2_move ⟨Nat.le_of_ble_eq_true rfl, Nat.le_of_ble_eq_true rfl, Nat.le_of_ble_eq_true rfl, Nat.le_of_ble_eq_true rfl⟩ (Nat.le_of_ble_eq_true rfl) dX2_endThousandths_80 ?_
  refine j_aload_n C dX2_endThousandths_83 rfl rfl ?_
  refine j_bipush (v := (nI 16)) C dX2_endThousandths_84 (by decide) ?_
  refine j_iload_n C dX2_endThousandths_86 rfl rfl ?_
  refine j_callV2v C (oa_X2 (by first | assumption | exact kd_sums (by assumption) | exact kd_st1 (by assumption) | exact kd_st2 (by assumption) | exact kd_ls (by first | assumption | rfl) (by assumption) | exact kd_sb (by first | assumption | rfl) (by assumption) | exact kd_sv (by assumption) | rfl)) rfl rfl (c_X2_move hk (by omega)) qm_X2_35 qi_X2_move qs_X2_move qn_X2 qc_X2_move fit_X2_move ⟨Nat.le_of_ble_eq_true rfl, Nat.le_of_ble_eq_true rfl, Nat.le_of_ble_eq_true rfl, Nat.le_of_ble_eq_true rfl⟩ (Nat.le_of_ble_eq_true rfl) dX2_endThousandths_87 ?_
  refine j_iload_n C dX2_endThousandths_90 rfl rfl ?_
  refine j_iload C dX2_endThousandths_91 rfl ?_
  refine j_isub C dX2_endThousandths_93 ?_
  refine j_iload_n C dX2_endThousandths_94 rfl rfl ?_
  refine j_isub C dX2_endThousandths_95 ?_
  exact j_iret C dX2_endThousandths_96 (by rfl) (by rfl) (by rfl)
set_option maxHeartbeats 4000000 in
theorem c_X2_subletThousandths {l : Launch} {g : GC} {V : Mem} {L : LMem} {k : Nat} (hk : kd k = 3) {t rc : Int32} : MC l yX2_subletThousandths cX2_subletThousandths 4 (Option.none : Option Jvm.ClassFile.FieldType) 1 g V L [.ref (ad g k), .int t, .int rc] none (cSubT k t rc V) L := by
  refine MC.of [some (.ref (ad g k)), some (.int t), some (.int rc), none] (by decide +kernel) rfl (Nat.le_of_ble_eq_true rfl) (fun p e s m args below meth c C => ?_)
  refine j_aload_n C dX2_subletThousandths_0 rfl rfl ?_
  refine jg_Lease_asset C (by first | assumption | exact kd_sums (by assumption) | exact kd_st1 (by assumption) | exact kd_st2 (by assumption) | exact kd_ls (by first | assumption | rfl) (by assumption) | exact kd_sb (by first | assumption | rfl) (by assumption) | exact kd_sv (by assumption) | rfl) qf_X2_32 dX2_subletThousandths_1 ?_
  refine j_iload_n C dX2_subletThousandths_4 rfl rfl ?_
  refine j_callSN2r C (c_X6_thousandthsOf) nw_X2_58 qt_X6_thousandthsOf qn_X6 qc_X6_thousandthsOf fit_X6_thousandthsOf ⟨Nat.le_of_ble_eq_true rfl, Nat.le_of_ble_eq_true rfl, Nat.le_of_ble_eq_true rfl, Nat.le_of_ble_eq_true rfl⟩ (Nat.le_of_ble_eq_true rfl) dX2_subletThousandths_5 ?_
  refine j_ist3 C dX2_subletThousandths_8 rfl (Nat.le_of_ble_eq_true rfl) rfl ?_
  refine j_aload_n C dX2_subletThousandths_9 rfl rfl ?_
  refine j_dup C dX2_subletThousandths_10 rfl ?_
  refine jg_Lease_asset C (by first | assumption | exact kd_sums (by assumption) | exact kd_st1 (by assumption) | exact kd_st2 (by assumption) | exact kd_ls (by first | assumption | rfl) (by assumption) | exact kd_sb (by first | assumption | rfl) (by assumption) | exact kd_sv (by assumption) | rfl) qf_X2_32 dX2_subletThousandths_11 ?_
  refine j_iload_n C dX2_subletThousandths_14 rfl rfl ?_
  refine j_isub C dX2_subletThousandths_15 ?_
  refine jp_Lease_asset C (by first | assumption | exact kd_sums (by assumption) | exact kd_st1 (by assumption) | exact kd_st2 (by assumption) | exact kd_ls (by first | assumption | rfl) (by assumption) | exact kd_sb (by first | assumption | rfl) (by assumption) | exact kd_sv (by assumption) | rfl) qf_X2_32 dX2_subletThousandths_16 ?_
  refine j_aload_n C dX2_subletThousandths_19 rfl rfl ?_
  refine j_bipush (v := (nI 9)) C dX2_subletThousandths_20 (by decide) ?_
  refine j_iload_n C dX2_subletThousandths_22 rfl rfl ?_
  refine j_callV2v C (oa_X2 (by first | assumption | exact kd_sums (by assumption) | exact kd_st1 (by assumption) | exact kd_st2 (by assumption) | exact kd_ls (by first | assumption | rfl) (by assumption) | exact kd_sb (by first | assumption | rfl) (by assumption) | exact kd_sv (by assumption) | rfl)) rfl rfl (c_X2_move hk (by omega)) qm_X2_35 qi_X2_move qs_X2_move qn_X2 qc_X2_move fit_X2_move ⟨Nat.le_of_ble_eq_true rfl, Nat.le_of_ble_eq_true rfl, Nat.le_of_ble_eq_true rfl, Nat.le_of_ble_eq_true rfl⟩ (Nat.le_of_ble_eq_true rfl) dX2_subletThousandths_23 ?_
  refine j_aload_n C dX2_subletThousandths_26 rfl rfl ?_
  refine j_bipush (v := (nI 11)) C dX2_subletThousandths_27 (by decide) ?_
  refine j_iload_n C dX2_subletThousandths_29 rfl rfl ?_
  refine j_callV2v C (oa_X2 (by first | assumption | exact kd_sums (by assumption) | exact kd_st1 (by assumption) | exact kd_st2 (by assumption) | exact kd_ls (by first | assumption | rfl) (by assumption) | exact kd_sb (by first | assumption | rfl) (by assumption) | exact kd_sv (by assumption) | rfl)) rfl rfl (c_X2_move hk (by omega)) qm_X2_35 qi_X2_move qs_X2_move qn_X2 qc_X2_move fit_X2_move ⟨Nat.le_of_ble_eq_true rfl, Nat.le_of_ble_eq_true rfl, Nat.le_of_ble_eq_true rfl, Nat.le_of_ble_eq_true rfl⟩ (Nat.le_of_ble_eq_true rfl) dX2_subletThousandths_30 ?_
  exact j_vret C dX2_subletThousandths_33 rfl (by rfl) (by rfl)
set_option maxHeartbeats 4000000 in
theorem c_X2_impairBy {l : Launch} {g : GC} {V : Mem} {L : LMem} {k : Nat} (hk : kd k = 3) {a : Int32} : MC l yX2_impairBy cX2_impairBy 2 (Option.none : Option Jvm.ClassFile.FieldType) 1 g V L [.ref (ad g k), .int a] none (cImp k a V) L := by
  refine MC.of [some (.ref (ad g k)), some (.int a)] (by decide +kernel) rfl (Nat.le_of_ble_eq_true rfl) (fun p e s m args below meth c C => ?_)
  refine j_aload_n C dX2_impairBy_0 rfl rfl ?_
  refine j_dup C dX2_impairBy_1 rfl ?_
  refine jg_Lease_asset C (by first | assumption | exact kd_sums (by assumption) | exact kd_st1 (by assumption) | exact kd_st2 (by assumption) | exact kd_ls (by first | assumption | rfl) (by assumption) | exact kd_sb (by first | assumption | rfl) (by assumption) | exact kd_sv (by assumption) | rfl) qf_X2_32 dX2_impairBy_2 ?_
  refine j_iload_n C dX2_impairBy_5 rfl rfl ?_
  refine j_isub C dX2_impairBy_6 ?_
  refine jp_Lease_asset C (by first | assumption | exact kd_sums (by assumption) | exact kd_st1 (by assumption) | exact kd_st2 (by assumption) | exact kd_ls (by first | assumption | rfl) (by assumption) | exact kd_sb (by first | assumption | rfl) (by assumption) | exact kd_sv (by assumption) | rfl) qf_X2_32 dX2_impairBy_7 ?_
  refine j_aload_n C dX2_impairBy_10 rfl rfl ?_
  refine j_bipush (v := (nI 10)) C dX2_impairBy_11 (by decide) ?_
  refine j_iload_n C dX2_impairBy_13 rfl rfl ?_
  refine j_callV2v C (oa_X2 (by first | assumption | exact kd_sums (by assumption) | exact kd_st1 (by assumption) | exact kd_st2 (by assumption) | exact kd_ls (by first | assumption | rfl) (by assumption) | exact kd_sb (by first | assumption | rfl) (by assumption) | exact kd_sv (by assumption) | rfl)) rfl rfl (c_X2_move hk (by omega)) qm_X2_35 qi_X2_move qs_X2_move qn_X2 qc_X2_move fit_X2_move ⟨Nat.le_of_ble_eq_true rfl, Nat.le_of_ble_eq_true rfl, Nat.le_of_ble_eq_true rfl, Nat.le_of_ble_eq_true rfl⟩ (Nat.le_of_ble_eq_true rfl) dX2_impairBy_14 ?_
  exact j_vret C dX2_impairBy_17 rfl (by rfl) (by rfl)
set_option maxHeartbeats 4000000 in
theorem c_X2_profitByMovements {l : Launch} {g : GC} {V : Mem} {L : LMem} {k : Nat} (hk : kd k = 3)  : MC l yX2_profitByMovements cX2_profitByMovements 1 (some .int) 1 g V L [.ref (ad g k)] (some (.int (cProf0 k V))) V L := by
  refine MC.of [some (.ref (ad g k))] (by decide +kernel) rfl (Nat.le_of_ble_eq_true rfl) (fun p e s m args below meth c C => ?_)
  refine j_aload_n C dX2_profitByMovements_0 rfl rfl ?_
  refine j_bipush (v := (nI 7)) C dX2_profitByMovements_1 (by decide) ?_
  refine j_callV1r C (oa_X2 (by first | assumption | exact kd_sums (by assumption) | exact kd_st1 (by assumption) | exact kd_st2 (by assumption) | exact kd_ls (by first | assumption | rfl) (by assumption) | exact kd_sb (by first | assumption | rfl) (by assumption) | exact kd_sv (by assumption) | rfl)) rfl rfl (c_X2_moved hk (by omega)) qm_X2_61 qi_X2_moved qs_X2_moved qn_X2 qc_X2_moved fit_X2_moved ⟨Nat.le_of_ble_eq_true rfl, Nat.le_of_ble_eq_true rfl, Nat.le_of_ble_eq_true rfl, Nat.le_of_ble_eq_true rfl⟩ (Nat.le_of_ble_eq_true rfl) dX2_profitByMovements_3 ?_
  refine j_aload_n C dX2_profitByMovements_6 rfl rfl ?_
  refine j_iconst (v := (nI 3)) C dX2_profitByMovements_7 (by decide) ?_
  refine j_callV1r C (oa_X2 (by first | assumption | exact kd_sums (by assumption) | exact kd_st1 (by assumption) | exact kd_st2 (by assumption) | exact kd_ls (by first | assumption | rfl) (by assumption) | exact kd_sb (by first | assumption | rfl) (by assumption) | exact kd_sv (by assumption) | rfl)) rfl rfl (c_X2_moved hk (by omega)) qm_X2_61 qi_X2_moved qs_X2_moved qn_X2 qc_X2_moved fit_X2_moved ⟨Nat.le_of_ble_eq_true rfl, Nat.le_of_ble_eq_true rfl, Nat.le_of_ble_eq_true rfl, Nat.le_of_ble_eq_true rfl⟩ (Nat.le_of_ble_eq_true rfl) dX2_profitByMovements_8 ?_
  refine j_isub C dX2_profitByMovements_11 ?_
  refine j_aload_n C dX2_profitByMovements_12 rfl rfl ?_
  refine j_iconst (v := (nI 1)) C dX2_profitByMovements_13 (by decide) ?_
  refine j_callV1r C (oa_X2 (by first | assumption | exact kd_sums (by assumption) | exact kd_st1 (by assumption) | exact kd_st2 (by assumption) | exact kd_ls (by first | assumption | rfl) (by assumption) | exact kd_sb (by first | assumption | rfl) (by assumption) | exact kd_sv (by assumption) | rfl)) rfl rfl (c_X2_moved hk (by omega)) qm_X2_61 qi_X2_moved qs_X2_moved qn_X2 qc_X2_moved fit_X2_moved ⟨Nat.le_of_ble_eq_true rfl, Nat.le_of_ble_eq_true rfl, Nat.le_of_ble_eq_true rfl, Nat.le_of_ble_eq_true rfl⟩ (Nat.le_of_ble_eq_true rfl) dX2_profitByMovements_14 ?_
  refine j_isub C dX2_profitByMovements_17 ?_
  refine j_aload_n C dX2_profitByMovements_18 rfl rfl ?_
  refine j_bipush (v := (nI 6)) C dX2_profitByMovements_19 (by decide) ?_
  refine j_callV1r C (oa_X2 (by first | assumption | exact kd_sums (by assumption) | exact kd_st1 (by assumption) | exact kd_st2 (by assumption) | exact kd_ls (by first | assumption | rfl) (by assumption) | exact kd_sb (by first | assumption | rfl) (by assumption) | exact kd_sv (by assumption) | rfl)) rfl rfl (c_X2_moved hk (by omega)) qm_X2_61 qi_X2_moved qs_X2_moved qn_X2 qc_X2_moved fit_X2_moved ⟨Nat.le_of_ble_eq_true rfl, Nat.le_of_ble_eq_true rfl, Nat.le_of_ble_eq_true rfl, Nat.le_of_ble_eq_true rfl⟩ (Nat.le_of_ble_eq_true rfl) dX2_profitByMovements_21 ?_
  refine j_isub C dX2_profitByMovements_24 ?_
  refine j_aload_n C dX2_profitByMovements_25 rfl rfl ?_
  refine j_iconst (v := (nI 4)) C dX2_profitByMovements_26 (by decide) ?_
  refine j_callV1r C (oa_X2 (by first | assumption | exact kd_sums (by assumption) | exact kd_st1 (by assumption) | exact kd_st2 (by assumption) | exact kd_ls (by first | assumption | rfl) (by assumption) | exact kd_sb (by first | assumption | rfl) (by assumption) | exact kd_sv (by assumption) | rfl)) rfl rfl (c_X2_moved hk (by omega)) qm_X2_61 qi_X2_moved qs_X2_moved qn_X2 qc_X2_moved fit_X2_moved ⟨Nat.le_of_ble_eq_true rfl, Nat.le_of_ble_eq_true rfl, Nat.le_of_ble_eq_true rfl, Nat.le_of_ble_eq_true rfl⟩ (Nat.le_of_ble_eq_true rfl) dX2_profitByMovements_27 ?_
  refine j_iadd C dX2_profitByMovements_30 ?_
  refine j_aload_n C dX2_profitByMovements_31 rfl rfl ?_
  refine j_bipush (v := (nI 8)) C dX2_profitByMovements_32 (by decide) ?_
  refine j_callV1r C (oa_X2 (by first | assumption | exact kd_sums (by assumption) | exact kd_st1 (by assumption) | exact kd_st2 (by assumption) | exact kd_ls (by first | assumption | rfl) (by assumption) | exact kd_sb (by first | assumption | rfl) (by assumption) | exact kd_sv (by assumption) | rfl)) rfl rfl (c_X2_moved hk (by omega)) qm_X2_61 qi_X2_moved qs_X2_moved qn_X2 qc_X2_moved fit_X2_moved ⟨Nat.le_of_ble_eq_true rfl, Nat.le_of_ble_eq_true rfl, Nat.le_of_ble_eq_true rfl, Nat.le_of_ble_eq_true rfl⟩ (Nat.le_of_ble_eq_true rfl) dX2_profitByMovements_34 ?_
  refine j_isub C dX2_profitByMovements_37 ?_
  refine j_aload_n C dX2_profitByMovements_38 rfl rfl ?_
  refine j_bipush (v := (nI 16)) C dX2_profitByMovements_39 (by decide) ?_
  refine j_callV1r C (oa_X2 (by first | assumption | exact kd_sums (by assumption) | exact kd_st1 (by assumption) | exact kd_st2 (by assumption) | exact kd_ls (by first | assumption | rfl) (by assumption) | exact kd_sb (by first | assumption | rfl) (by assumption) | exact kd_sv (by assumption) | rfl)) rfl rfl (c_X2_moved hk (by omega)) qm_X2_61 qi_X2_moved qs_X2_moved qn_X2 qc_X2_moved fit_X2_moved ⟨Nat.le_of_ble_eq_true rfl, Nat.le_of_ble_eq_true rfl, Nat.le_of_ble_eq_true rfl, Nat.le_of_ble_eq_true rfl⟩ (Nat.le_of_ble_eq_true rfl) dX2_profitByMovements_41 ?_
  refine j_isub C dX2_profitByMovements_44 ?_
  refine j_aload_n C dX2_profitByMovements_45 rfl rfl ?_
  refine j_bipush (v := (nI 11)) C dX2_profitByMovements_46 (by decide) ?_
  refine j_callV1r C (oa_X2 (by first | assumption | exact kd_sums (by assumption) | exact kd_st1 (by assumption) | exact kd_st2 (by assumption) | exact kd_ls (by first | assumption | rfl) (by assumption) | exact kd_sb (by first | assumption | rfl) (by assumption) | exact kd_sv (by assumption) | rfl)) rfl rfl (c_X2_moved hk (by omega)) qm_X2_61 qi_X2_moved qs_X2_moved qn_X2 qc_X2_moved fit_X2_moved ⟨Nat.le_of_ble_eq_true rfl, Nat.le_of_ble_eq_true rfl, Nat.le_of_ble_eq_true rfl, Nat.le_of_ble_eq_true rfl⟩ (Nat.le_of_ble_eq_true rfl) dX2_profitByMovements_48 ?_
  refine j_iadd C dX2_profitByMovements_51 ?_
  refine j_aload_n C dX2_profitByMovements_52 rfl rfl ?_
  refine j_bipush (v := (nI 9)) C dX2_profitByMovements_53 (by decide) ?_
  refine j_callV1r C (oa_X2 (by first | assumption | exact kd_sums (by assumption) | exact kd_st1 (by assumption) | exact kd_st2 (by assumption) | exact kd_ls (by first | assumption | rfl) (by assumption) | exact kd_sb (by first | assumption | rfl) (by assumption) | exact kd_sv (by assumption) | rfl)) rfl rfl (c_X2_moved hk (by omega)) qm_X2_61 qi_X2_moved qs_X2_moved qn_X2 qc_X2_moved fit_X2_moved ⟨Nat.le_of_ble_eq_true rfl, Nat.le_of_ble_eq_true rfl, Nat.le_of_ble_eq_true rfl, Nat.le_of_ble_eq_true rfl⟩ (Nat.le_of_ble_eq_true rfl) dX2_profitByMovements_55 ?_
  refine j_isub C dX2_profitByMovements_58 ?_
  refine j_aload_n C dX2_profitByMovements_59 rfl rfl ?_
  refine j_bipush (v := (nI 12)) C dX2_profitByMovements_60 (by decide) ?_
  refine j_callV1r C (oa_X2 (by first | assumption | exact kd_sums (by assumption) | exact kd_st1 (by assumption) | exact kd_st2 (by assumption) | exact kd_ls (by first | assumption | rfl) (by assumption) | exact kd_sb (by first | assumption | rfl) (by assumption) | exact kd_sv (by assumption) | rfl)) rfl rfl (c_X2_moved hk (by omega)) qm_X2_61 qi_X2_moved qs_X2_moved qn_X2 qc_X2_moved fit_X2_moved ⟨Nat.le_of_ble_eq_true rfl, Nat.le_of_ble_eq_true rfl, Nat.le_of_ble_eq_true rfl, Nat.le_of_ble_eq_true rfl⟩ (Nat.le_of_ble_eq_true rfl) dX2_profitByMovements_62 ?_
  refine j_iadd C dX2_profitByMovements_65 ?_
  refine j_aload_n C dX2_profitByMovements_66 rfl rfl ?_
  refine j_bipush (v := (nI 14)) C dX2_profitByMovements_67 (by decide) ?_
  refine j_callV1r C (oa_X2 (by first | assumption | exact kd_sums (by assumption) | exact kd_st1 (by assumption) | exact kd_st2 (by assumption) | exact kd_ls (by first | assumption | rfl) (by assumption) | exact kd_sb (by first | assumption | rfl) (by assumption) | exact kd_sv (by assumption) | rfl)) rfl rfl (c_X2_moved hk (by omega)) qm_X2_61 qi_X2_moved qs_X2_moved qn_X2 qc_X2_moved fit_X2_moved ⟨Nat.le_of_ble_eq_true rfl, Nat.le_of_ble_eq_true rfl, Nat.le_of_ble_eq_true rfl, Nat.le_of_ble_eq_true rfl⟩ (Nat.le_of_ble_eq_true rfl) dX2_profitByMovements_69 ?_
  refine j_isub C dX2_profitByMovements_72 ?_
  refine j_aload_n C dX2_profitByMovements_73 rfl rfl ?_
  refine j_bipush (v := (nI 10)) C dX2_profitByMovements_74 (by decide) ?_
  refine j_callV1r C (oa_X2 (by first | assumption | exact kd_sums (by assumption) | exact kd_st1 (by assumption) | exact kd_st2 (by assumption) | exact kd_ls (by first | assumption | rfl) (by assumption) | exact kd_sb (by first | assumption | rfl) (by assumption) | exact kd_sv (by assumption) | rfl)) rfl rfl (c_X2_moved hk (by omega)) qm_X2_61 qi_X2_moved qs_X2_moved qn_X2 qc_X2_moved fit_X2_moved ⟨Nat.le_of_ble_eq_true rfl, Nat.le_of_ble_eq_true rfl, Nat.le_of_ble_eq_true rfl, Nat.le_of_ble_eq_true rfl⟩ (Nat.le_of_ble_eq_true rfl) dX2_profitByMovements_76 ?_
  refine j_isub C dX2_profitByMovements_79 ?_
  exact j_iret C dX2_profitByMovements_80 (by rfl) (by rfl) (by rfl)
set_option maxHeartbeats 4000000 in
theorem c_X2_profitByHoldings {l : Launch} {g : GC} {V : Mem} {L : LMem} {k : Nat} (hk : kd k = 3) {x : Int32} : MC l yX2_profitByHoldings cX2_profitByHoldings 2 (some .int) 1 g V L [.ref (ad g k), .int x] (some (.int (cProf1 k x V))) V L := by
  refine MC.of [some (.ref (ad g k)), some (.int x)] (by decide +kernel) rfl (Nat.le_of_ble_eq_true rfl) (fun p e s m args below meth c C => ?_)
  refine j_aload_n C dX2_profitByHoldings_0 rfl rfl ?_
  refine jg_Lease_asset C (by first | assumption | exact kd_sums (by assumption) | exact kd_st1 (by assumption) | exact kd_st2 (by assumption) | exact kd_ls (by first | assumption | rfl) (by assumption) | exact kd_sb (by first | assumption | rfl) (by assumption) | exact kd_sv (by assumption) | rfl) qf_X2_32 dX2_profitByHoldings_1 ?_
  refine j_iload_n C dX2_profitByHoldings_4 rfl rfl ?_
  refine j_iadd C dX2_profitByHoldings_5 ?_
  refine j_aload_n C dX2_profitByHoldings_6 rfl rfl ?_
  refine jg_Lease_liability C (by first | assumption | exact kd_sums (by assumption) | exact kd_st1 (by assumption) | exact kd_st2 (by assumption) | exact kd_ls (by first | assumption | rfl) (by assumption) | exact kd_sb (by first | assumption | rfl) (by assumption) | exact kd_sv (by assumption) | rfl) qf_X2_29 dX2_profitByHoldings_7 ?_
  refine j_isub C dX2_profitByHoldings_10 ?_
  refine j_aload_n C dX2_profitByHoldings_11 rfl rfl ?_
  refine j_bipush (v := (nI 13)) C dX2_profitByHoldings_12 (by decide) ?_
  refine j_callV1r C (oa_X2 (by first | assumption | exact kd_sums (by assumption) | exact kd_st1 (by assumption) | exact kd_st2 (by assumption) | exact kd_ls (by first | assumption | rfl) (by assumption) | exact kd_sb (by first | assumption | rfl) (by assumption) | exact kd_sv (by assumption) | rfl)) rfl rfl (c_X2_moved hk (by omega)) qm_X2_61 qi_X2_moved qs_X2_moved qn_X2 qc_X2_moved fit_X2_moved ⟨Nat.le_of_ble_eq_true rfl, Nat.le_of_ble_eq_true rfl, Nat.le_of_ble_eq_true rfl, Nat.le_of_ble_eq_true rfl⟩ (Nat.le_of_ble_eq_true rfl) dX2_profitByHoldings_14 ?_
  refine j_iadd C dX2_profitByHoldings_17 ?_
  refine j_aload_n C dX2_profitByHoldings_18 rfl rfl ?_
  refine j_iconst (v := (nI 2)) C dX2_profitByHoldings_19 (by decide) ?_
  refine j_callV1r C (oa_X2 (by first | assumption | exact kd_sums (by assumption) | exact kd_st1 (by assumption) | exact kd_st2 (by assumption) | exact kd_ls (by first | assumption | rfl) (by assumption) | exact kd_sb (by first | assumption | rfl) (by assumption) | exact kd_sv (by assumption) | rfl)) rfl rfl (c_X2_moved hk (by omega)) qm_X2_61 qi_X2_moved qs_X2_moved qn_X2 qc_X2_moved fit_X2_moved ⟨Nat.le_of_ble_eq_true rfl, Nat.le_of_ble_eq_true rfl, Nat.le_of_ble_eq_true rfl, Nat.le_of_ble_eq_true rfl⟩ (Nat.le_of_ble_eq_true rfl) dX2_profitByHoldings_20 ?_
  refine j_isub C dX2_profitByHoldings_23 ?_
  refine j_aload_n C dX2_profitByHoldings_24 rfl rfl ?_
  refine j_bipush (v := (nI 15)) C dX2_profitByHoldings_25 (by decide) ?_
  refine j_callV1r C (oa_X2 (by first | assumption | exact kd_sums (by assumption) | exact kd_st1 (by assumption) | exact kd_st2 (by assumption) | exact kd_ls (by first | assumption | rfl) (by assumption) | exact kd_sb (by first | assumption | rfl) (by assumption) | exact kd_sv (by assumption) | rfl)) rfl rfl (c_X2_moved hk (by omega)) qm_X2_61 qi_X2_moved qs_X2_moved qn_X2 qc_X2_moved fit_X2_moved ⟨Nat.le_of_ble_eq_true rfl, Nat.le_of_ble_eq_true rfl, Nat.le_of_ble_eq_true rfl, Nat.le_of_ble_eq_true rfl⟩ (Nat.le_of_ble_eq_true rfl) dX2_profitByHoldings_27 ?_
  refine j_isub C dX2_profitByHoldings_30 ?_
  refine j_aload_n C dX2_profitByHoldings_31 rfl rfl ?_
  refine j_bipush (v := (nI 16)) C dX2_profitByHoldings_32 (by decide) ?_
  refine j_callV1r C (oa_X2 (by first | assumption | exact kd_sums (by assumption) | exact kd_st1 (by assumption) | exact kd_st2 (by assumption) | exact kd_ls (by first | assumption | rfl) (by assumption) | exact kd_sb (by first | assumption | rfl) (by assumption) | exact kd_sv (by assumption) | rfl)) rfl rfl (c_X2_moved hk (by omega)) qm_X2_61 qi_X2_moved qs_X2_moved qn_X2 qc_X2_moved fit_X2_moved ⟨Nat.le_of_ble_eq_true rfl, Nat.le_of_ble_eq_true rfl, Nat.le_of_ble_eq_true rfl, Nat.le_of_ble_eq_true rfl⟩ (Nat.le_of_ble_eq_true rfl) dX2_profitByHoldings_34 ?_
  refine j_isub C dX2_profitByHoldings_37 ?_
  exact j_iret C dX2_profitByHoldings_38 (by rfl) (by rfl) (by rfl)
