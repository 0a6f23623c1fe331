/-! SEARCHES over worths -/
theorem wl_N {P z : Nat} (hP : P ≤ 100000) (hz : z ≤ 2000) : ∀ i, i ≤ 60 → wl (nI P) (nI z) i = lN (wN P z i)
  | 0, _ => rfl
  | i + 1, hi => by
    have ih := wl_N hP hz i (by omega)
    have hw := wN_le (P := P) (z := z) i
    have hb : P * i ≤ 100000 * 60 := Nat.mul_le_mul hP (by omega)
    show ((wl (nI P) (nI z) i + (nI P).toInt64) * 20000 + (10000 + (nI z).toInt64)) / (2 * (10000 + (nI z).toInt64)) = _
    rw [ih, nI_l (by omega), nI_l (by omega)]
    have e1 : (10000 : Int64) + lN z = lN (10000 + z) := lN_add 10000 z
    have e2 : (2 : Int64) * lN (10000 + z) = lN (2 * (10000 + z)) := lN_mul 2 _
    have e3 : lN (wN P z i + P) * (20000 : Int64) = lN ((wN P z i + P) * 20000) := lN_mul _ 20000
    rw [e1, e2, lN_add, e3, lN_add, pk_lDiv (by omega) (by omega) (by omega)]
    rfl
theorem wN_b {P z n : Nat} (hP : P ≤ 100000) (hn : n ≤ 60) : wN P z n ≤ 6000000 := Nat.le_trans (wN_le n) (Nat.le_trans (Nat.mul_le_mul hP hn) (by omega))
theorem wor_N {P n z : Nat} (hP : P ≤ 100000) (hn : n ≤ 60) (hz : z ≤ 2000) : wor (nI P) (nI n) (nI z) = nI (wN P z n) := by
  unfold wor
  rw [nI_clamp (by omega), wl_N hP hz n hn, lN_i]
theorem rate_of {z : Int32} (h : rateR z) : ∃ j, j ≤ 2000 ∧ z = nI j := nI_of2 (n := 2000) (nI_toInt (by omega)) (fun q => absurd h.1 (Int32.not_le.mpr q)) h.2
theorem per_of {z : Int32} (h : perR z) : ∃ j, j ≤ 60 ∧ z = nI j := nI_of2 (n := 60) (nI_toInt (by omega)) (fun q => absurd h.1 (Int32.not_le.mpr q)) h.2
theorem mon_of {z : Int32} (h : money z) : ∃ j, j ≤ 100000 ∧ z = nI j := nI_of2 (n := 100000) (nI_toInt (by omega)) (fun q => absurd h.1 (Int32.not_le.mpr q)) h.2
theorem wor_mono {a b : Nat} {n z : Int32} (hn : perR n) (hz : rateR z) (h : a ≤ b) (hb : b ≤ 100000) : wor (nI a) n z ≤ wor (nI b) n z := by
  obtain ⟨N, h1, rfl⟩ := per_of hn
  obtain ⟨R, h2, rfl⟩ := rate_of hz
  rw [wor_N (by omega) h1 h2, wor_N hb h1 h2]
  have := wN_b (z := R) hb h1
  exact nI_le (wN_mono h N) (by omega)
theorem wor_z {n z : Int32} (hn : perR n) (hz : rateR z) : wor (nI 0) n z = nI 0 := by
  obtain ⟨N, h1, rfl⟩ := per_of hn
  obtain ⟨R, h2, rfl⟩ := rate_of hz
  rw [wor_N (by omega) h1 h2]
  have := wN_le (P := 0) (z := R) N
  rw [show wN 0 R N = 0 by omega]
theorem wor_anti {p n : Int32} {a b : Nat} (hp : money p) (hn : perR n) (h : a ≤ b) (hb : b ≤ 2000) : wor p n (nI b) ≤ wor p n (nI a) := by
  obtain ⟨N, h1, rfl⟩ := per_of hn
  obtain ⟨P, h2, rfl⟩ := mon_of hp
  rw [wor_N (z := a) h2 h1 (by omega), wor_N (z := b) h2 h1 hb]
  have := wN_b (z := a) h2 h1
  exact nI_le (wN_anti h N) (by omega)
/-- the greatest payment whose worth is at most li -/
theorem pay_top {n z li : Int32} (hn : perR n) (hz : rateR z) (hl : nI 0 ≤ li) : ∃ M, M ≤ 100000 ∧ ∀ b, (b ≤ 100000 ∧ wor (nI b) n z ≤ li) ↔ b ≤ M := by
  obtain ⟨M, h1, h2⟩ := top_of (f := fun b => b ≤ 100000 ∧ wor (nI b) n z ≤ li) (fun a b hab hb => ⟨by omega, Int32.le_trans (wor_mono hn hz hab hb.1) hb.2⟩) ⟨by omega, by rw [wor_z hn hz]; exact hl⟩ 100001 (fun q => absurd q.1 (by omega))
  exact ⟨M, by omega, h2⟩
theorem pay_eq {n z li : Int32} (hn : perR n) (hz : rateR z) (hl : nI 0 ≤ li) : rBs (fun p => decide (wor (nI p) n z ≤ li)) 100000 0 100000 = gpF (fun b => decide (b ≤ 100000 ∧ wor (nI b) n z ≤ li)) 17 0 := by
  obtain ⟨M, h1, h2⟩ := pay_top hn hz hl
  rw [gpF_top (M := M) (fun b => by rw [decide_eq_true_eq]; exact h2 b) 17 0 (by omega) (by omega)]
  exact rBs_top (H := 100000) (fun b hb => by rw [decide_eq_true_eq, ← h2 b]; exact ⟨fun q => ⟨hb, q⟩, fun q => q.2⟩) 100000 0 100000 (by omega) h1 (by omega) (by omega)
theorem rate_eq {p n A : Int32} (hp : money p) (hn : perR n) : rSc (fun r => decide (A ≤ wor p n (nI r))) 2001 = if wor p n (nI 0) < A then -1 else nI (gpF (fun b => decide (b ≤ 2000 ∧ A ≤ wor p n (nI b))) 11 0) := by
  by_cases h : wor p n (nI 0) < A
  · rw [if_pos h]
    refine rSc_none 2001 (fun b hb q => ?_)
    have q2 := of_decide_eq_true q
    exact absurd h (Int32.not_lt.mpr (Int32.le_trans q2 (wor_anti hp hn (Nat.zero_le b) (by omega))))
  · rw [if_neg h]
    obtain ⟨M, h1, h2⟩ := top_of (f := fun b => b ≤ 2000 ∧ A ≤ wor p n (nI b)) (fun a b hab hb => ⟨by omega, Int32.le_trans hb.2 (wor_anti hp hn hab hb.1)⟩) ⟨by omega, Int32.not_lt.mp h⟩ 2001 (fun q => absurd q.1 (by omega))
    rw [gpF_top (M := M) (fun b => by rw [decide_eq_true_eq]; exact h2 b) 11 0 (by omega) (by omega)]
    exact rSc_top 2001 (by omega) (fun b hb => by rw [decide_eq_true_eq, ← h2 b]; exact ⟨fun q => ⟨by omega, q⟩, fun q => q.2⟩)
theorem i_pred {a b : Int32} (h : 0 < b) : a ≤ b - nI 1 ↔ a < b := by
  have h0 : (0 : Int32).toInt = 0 := rfl
  have h1 : (nI 1).toInt = 1 := nI_toInt (by omega)
  have h2 := Int32.toInt_lt b
  rw [Int32.lt_iff_toInt_lt, h0] at h
  rw [Int32.le_iff_toInt_le, Int32.lt_iff_toInt_lt, Int32.toInt_sub, h1]
  have h3 : (b.toInt - 1).bmod (2 ^ 32) = b.toInt - 1 := by apply Int.bmod_eq_of_le <;> omega
  rw [h3]
  omega
theorem rec_eq {n z pr : Int32} (hn : perR n) (hz : rateR z) : (if pr ≤ wor (nI 100000) n z then nI (rBl (fun p => decide (pr ≤ wor (nI p) n z)) 100000 0 100000) else -1) = (if 0 < pr then (if gpF (fun b => decide (b ≤ 100000 ∧ wor (nI b) n z ≤ pr - nI 1)) 17 0 + 1 ≤ 100000 then nI (gpF (fun b => decide (b ≤ 100000 ∧ wor (nI b) n z ≤ pr - nI 1)) 17 0 + 1) else -1) else nI 0) := by
  by_cases h : 0 < pr
  · rw [if_pos h]
    have hl : nI 0 ≤ pr - nI 1 := (i_pred h).mpr h
    obtain ⟨M, h1, h2⟩ := pay_top hn hz hl
    rw [gpF_top (M := M) (fun b => by rw [decide_eq_true_eq]; exact h2 b) 17 0 (by omega) (by omega)]
    have h3 : ∀ b, b ≤ 100000 → (pr ≤ wor (nI b) n z ↔ M + 1 ≤ b) := fun b hb => by
      have h4 := h2 b
      rw [i_pred h] at h4
      constructor
      · intro q
        have : ¬ b ≤ M := fun q2 => absurd (h4.mpr q2).2 (Int32.not_lt.mpr q)
        omega
      · intro q
        refine Int32.not_lt.mp (fun q2 => ?_)
        have := h4.mp ⟨hb, q2⟩
        omega
    by_cases hM : M + 1 ≤ 100000
    · rw [if_pos hM, if_pos ((h3 100000 (by omega)).mpr hM), rBl_top (M := M + 1) (H := 100000) (fun b hb => by rw [decide_eq_true_eq]; exact h3 b hb) 100000 0 100000 (by omega) hM (by omega) (by omega)]
    · rw [if_neg hM, if_neg (fun q => hM ((h3 100000 (by omega)).mp q))]
  · rw [if_neg h]
    have h5 : ∀ b, b ≤ 100000 → pr ≤ wor (nI b) n z := fun b hb => Int32.le_trans (Int32.not_lt.mp h) (by have := wor_mono hn hz (Nat.zero_le b) hb; rw [wor_z hn hz] at this; exact this)
    rw [if_pos (h5 100000 (by omega)), rBl_top (M := 0) (H := 100000) (fun b hb => by rw [decide_eq_true_eq]; exact ⟨fun _ => by omega, fun _ => h5 b hb⟩) 100000 0 100000 (by omega) (by omega) (by omega) (by omega)]
