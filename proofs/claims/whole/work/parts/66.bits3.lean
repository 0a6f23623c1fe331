/-! THE BITS OF A DOUBLE: the class's loops -/
section BITSOF
variable {p : Program} {l : Launch} {e : Env} {s : State} {m : MethodId} {args : Array Value} {below : List Frame} {meth : Method} {c : Code} {g : GC} {Q : State → Prop} {V : Mem} {L : LMem}
set_option maxHeartbeats 4000000 in
theorem lp_bits_1 (C : Cx p s args m meth c cX6_bitsOf 5 yX6_bitsOf.cls (some .long) g) {d : UInt64} {c0 E : Nat} (kx : ∀ x : UInt64, NV x c0 (-52) → J p l e (RM 0) s m args below meth c 5 g 0 0 Q V L 43 [some (.double d), none, some (.double x), none, some (.int (nI E))] []) : ∀ (k : Nat) (x : UInt64), NV x c0 (-52 + k) → k ≤ 40 → k ≤ E → E ≤ 1100 → J p l e (RM 0) s m args below meth c 5 g 0 0 Q V L 15 [some (.double d), none, some (.double x), none, some (.int (nI (E - k)))] [] := by
  intro k
  induction k with
  | zero =>
    intro x hx hk hE hE2
    refine j_dload_n C dX6_bitsOf_15 rfl rfl ?_
    refine j_ldc2d (v := two64) C qk_X6_321 dX6_bitsOf_16 ?_
    refine j_dcmp C dX6_bitsOf_19 ?_
    refine j_if_lt (tgt := 43) C dX6_bitsOf_20 (by decide) (fun _ => kx x (by simpa using hx)) (fun h => absurd ((hx.cmp v_two).mpr (by omega)) h)
  | succ k ih =>
    intro x hx hk hE hE2
    have hh := hx.half (by omega)
    refine j_dload_n C dX6_bitsOf_15 rfl rfl ?_
    refine j_ldc2d (v := two64) C qk_X6_321 dX6_bitsOf_16 ?_
    refine j_dcmp C dX6_bitsOf_19 ?_
    refine j_if_lt (tgt := 43) C dX6_bitsOf_20 (by decide) (fun h => absurd ((hx.cmp v_two).mp h) (by omega)) (fun _ => ?_)
    refine j_iload C dX6_bitsOf_23 rfl ?_
    refine j_sipush (v := nI 2046) C dX6_bitsOf_25 (by decide) ?_
    refine j_icmp_ge (tgt := 43) C dX6_bitsOf_28 (by decide) (fun h => absurd ((nI_leI (a := 2046) (b := E - (k + 1)) (by omega) (by omega)).mp h) (by omega)) (fun _ => ?_)
    refine j_dload_n C dX6_bitsOf_31 rfl rfl ?_
    refine j_ldc2d (v := two64) C qk_X6_321 dX6_bitsOf_32 ?_
    refine j_ddiv C dX6_bitsOf_35 rfl (n64_f hh.1) ?_
    refine j_dst2 C dX6_bitsOf_36 rfl (by decide) rfl ?_
    refine j_inc4 (v := nI (E - k)) C dX6_bitsOf_37 (by rw [show E - k = (E - (k + 1)) + 1 by omega]; exact nI_1 _) (by decide) rfl ?_
    refine j_goto (tgt := 15) C dX6_bitsOf_40 (by decide) ?_
    refine ih (FP.ddiv x two64) ?_ (by omega) (by omega) hE2
    have e1 : (-52 + ((k + 1 : Nat) : Int)) - 1 = -52 + (k : Int) := by omega
    rw [e1] at hh
    exact hh
set_option maxHeartbeats 4000000 in
theorem lp_bits_2 (C : Cx p s args m meth c cX6_bitsOf 5 yX6_bitsOf.cls (some .long) g) {d : UInt64} {c0 E : Nat} (kx : ∀ x : UInt64, NV x c0 (-52) → J p l e (RM 0) s m args below meth c 5 g 0 0 Q V L 67 [some (.double d), none, some (.double x), none, some (.int (nI E))] []) : ∀ (k : Nat) (x : UInt64), NV x c0 (-52 - k) → k ≤ 40 → 1 < E → E + k ≤ 1100 → J p l e (RM 0) s m args below meth c 5 g 0 0 Q V L 43 [some (.double d), none, some (.double x), none, some (.int (nI (E + k)))] [] := by
  intro k
  induction k with
  | zero =>
    intro x hx hk hE hE2
    refine j_dload_n C dX6_bitsOf_43 rfl rfl ?_
    refine j_dconst1 C dX6_bitsOf_44 ?_
    refine j_dcmp C dX6_bitsOf_45 ?_
    refine j_if_ge (tgt := 67) C dX6_bitsOf_46 (by decide) (fun _ => kx x (by simpa using hx)) (fun h => absurd ((hx.cmp v_one).mp (Int32.not_le.mp h)) (by omega))
  | succ k ih =>
    intro x hx hk hE hE2
    have hh := hx.dbl (by omega)
    refine j_dload_n C dX6_bitsOf_43 rfl rfl ?_
    refine j_dconst1 C dX6_bitsOf_44 ?_
    refine j_dcmp C dX6_bitsOf_45 ?_
    refine j_if_ge (tgt := 67) C dX6_bitsOf_46 (by decide) (fun h => absurd h (Int32.not_le.mpr ((hx.cmp v_one).mpr (by omega)))) (fun _ => ?_)
    refine j_iload C dX6_bitsOf_49 rfl ?_
    refine j_iconst (v := nI 1) C dX6_bitsOf_51 (by decide) ?_
    refine j_icmp_le (tgt := 67) C dX6_bitsOf_52 (by decide) (fun h => absurd ((nI_leI (a := E + (k + 1)) (b := 1) (by omega) (by omega)).mp h) (by omega)) (fun _ => ?_)
    refine j_dload_n C dX6_bitsOf_55 rfl rfl ?_
    refine j_ldc2d (v := two64) C qk_X6_321 dX6_bitsOf_56 ?_
    refine j_dmul C dX6_bitsOf_59 rfl (n64_f hh.1) ?_
    refine j_dst2 C dX6_bitsOf_60 rfl (by decide) rfl ?_
    refine j_inc4 (v := nI (E + k)) C dX6_bitsOf_61 (by rw [← Nat.add_assoc, ← nI_1]; grind) (by decide) rfl ?_
    refine j_goto (tgt := 43) C dX6_bitsOf_64 (by decide) ?_
    refine ih (FP.dmul x two64) ?_ (by omega) hE (by omega)
    have e1 : (-52 - ((k + 1 : Nat) : Int)) + 1 = -52 - (k : Int) := by omega
    rw [e1] at hh
    exact hh
end BITSOF
set_option maxHeartbeats 4000000 in
theorem c_X6_bitsOf {l : Launch} {g : GC} {V : Mem} {L : LMem} {d : UInt64} (h : d = FP.dconst0 ∨ ∃ (c : Nat) (q : Int), NV d c q ∧ -84 ≤ q ∧ q ≤ -20) : MC l yX6_bitsOf cX6_bitsOf 5 (some .long) 0 g V L [.double d] (some (.long d.toInt64)) V L := by
  refine MC.of [some (.double d), none, none, none, none] (by decide +kernel) rfl (Nat.le_of_ble_eq_true rfl) (fun p e s m args below meth c C => ?_)
  refine j_dload_n C dX6_bitsOf_0 rfl rfl ?_
  refine j_dconst0 C dX6_bitsOf_1 ?_
  refine j_dcmp C dX6_bitsOf_2 ?_
  rcases h with rfl | ⟨c0, q0, hN, h1, h2⟩
  · refine j_if_gt (tgt := 8) C dX6_bitsOf_3 (by decide) (fun h => absurd h (by decide +kernel)) (fun _ => ?_)
    refine j_lconst (v := 0) C dX6_bitsOf_6 (by decide) ?_
    exact j_lret C dX6_bitsOf_7 rfl rfl rfl
  · refine j_if_gt (tgt := 8) C dX6_bitsOf_3 (by decide) (fun _ => ?_) (fun h => absurd hN.gt0 h)
    refine j_dload_n C dX6_bitsOf_8 rfl rfl ?_
    refine j_dst2 C dX6_bitsOf_9 rfl (by decide) rfl ?_
    refine j_sipush (v := nI 1023) C dX6_bitsOf_10 (by decide) ?_
    refine j_ist4 C dX6_bitsOf_13 (by decide) rfl ?_
    have fin : ∀ x : UInt64, NV x c0 (-52) → J p l e (RM 0) s m args below meth c 5 g 0 0 (MQ below (QG (some (.long d.toInt64)) (PW g V L) (AA g)) args s 0 0 (AA g)) V L 67 [some (.double d), none, some (.double x), none, some (.int (nI (q0 + 1075).toNat))] [] := by
      intro x hx
      obtain ⟨t, u, t1, t2, t3, t4, t5⟩ := hx.tail
      refine j_iload C dX6_bitsOf_67 rfl ?_
      refine j_i2l C dX6_bitsOf_69 ?_
      refine j_bipush (v := nI 52) C dX6_bitsOf_70 (by decide) ?_
      refine j_lshl C dX6_bitsOf_72 ?_
      refine j_dload_n C dX6_bitsOf_73 rfl rfl ?_
      refine j_dconst1 C dX6_bitsOf_74 ?_
      refine j_dsub C dX6_bitsOf_75 t1 t2 ?_
      refine j_ldc2d (v := big64) C qk_X6_323 dX6_bitsOf_76 ?_
      refine j_dmul C dX6_bitsOf_79 t3 t4 ?_
      refine j_d2l C dX6_bitsOf_80 ?_
      refine j_ladd C dX6_bitsOf_81 ?_
      refine j_lret C dX6_bitsOf_82 ?_ rfl rfl
      rw [t5, sh_eq (by omega) (by have := hN.2.2.1; have := hN.2.1; omega) hN.bits]
    rcases Int.le_total (-52) q0 with hq | hq
    · obtain ⟨k, rfl⟩ : ∃ k : Nat, q0 = -52 + (k : Int) := ⟨(q0 + 52).toNat, by omega⟩
      have hE : (-52 + (k : Int) + 1075).toNat = 1023 + k := by omega
      rw [hE] at fin
      have := lp_bits_1 (V := V) (L := L) (l := l) (e := e) (below := below) (Q := MQ below (QG (some (.long d.toInt64)) (PW g V L) (AA g)) args s 0 0 (AA g)) C (d := d) (c0 := c0) (E := 1023 + k) (fun x hx => lp_bits_2 C (E := 1023 + k) fin 0 x (by simpa using hx) (by omega) (by omega) (by omega)) k d hN (by omega) (by omega) (by omega)
      rw [show 1023 + k - k = 1023 by omega] at this
      exact this
    · obtain ⟨k, rfl⟩ : ∃ k : Nat, q0 = -52 - (k : Int) := ⟨(-52 - q0).toNat, by omega⟩
      have hE : (-52 - (k : Int) + 1075).toNat = 1023 - k := by omega
      rw [hE] at fin
      have l2 := lp_bits_2 (V := V) (L := L) (l := l) (e := e) (below := below) (Q := MQ below (QG (some (.long d.toInt64)) (PW g V L) (AA g)) args s 0 0 (AA g)) C (d := d) (E := 1023 - k) fin k d hN (by omega) (by omega) (by omega)
      rw [show 1023 - k + k = 1023 by omega] at l2
      refine j_dload_n C dX6_bitsOf_15 rfl rfl ?_
      refine j_ldc2d (v := two64) C qk_X6_321 dX6_bitsOf_16 ?_
      refine j_dcmp C dX6_bitsOf_19 ?_
      exact j_if_lt (tgt := 43) C dX6_bitsOf_20 (by decide) (fun _ => l2) (fun h => absurd ((hN.cmp v_two).mpr (by omega)) h)
