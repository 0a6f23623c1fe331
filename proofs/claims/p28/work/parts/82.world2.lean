/-! THE START: the roles' addresses are apart -/
abbrev stR : List Nat := [0, 1, 2, 3, 11, 4, 12, 5, 13, 6, 14, 7, 15, 8, 16, 9, 17, 10, 18, 19, 20, 21, 22, 23, 24, 25, 26, 27, 28, 29, 30]
theorem bx4_ad {g : GC} {h : Nat} {F : Nat → Nat} : (BX4 g h F).map Prod.fst = stR.map (fun r => if r = 0 then h else F r) := rfl
abbrev roles : List Nat := [223] ++ stR.map (fun r => 31 * 0 + r) ++ ([217, 218] ++ (stR.map (fun r => 31 * 1 + r) ++ stR.map (fun r => 31 * 2 + r) ++ stR.map (fun r => 31 * 3 + r) ++ stR.map (fun r => 31 * 4 + r) ++ stR.map (fun r => 31 * 5 + r) ++ stR.map (fun r => 31 * 6 + r))) ++ [219, 220] ++ [221, 222] ++ [224] ++ [225] ++ [226] ++ [227]
theorem stR_map {a : Nat → Nat} {h j : Nat} {F : Nat → Nat} (h0 : h = a (31 * j + 0)) (hF : ∀ r, 1 ≤ r → r < 31 → F r = a (31 * j + r)) : stR.map (fun r => if r = 0 then h else F r) = (stR.map (fun r => 31 * j + r)).map a := by
  rw [List.map_map]
  refine List.map_congr_left (fun r hr => ?_)
  have hlt : r < 31 := by
    have := List.all_eq_true.mp (show stR.all (fun r => decide (r < 31)) = true by decide) r hr
    exact of_decide_eq_true this
  by_cases e : r = 0
  · subst e; rw [if_pos rfl]; exact h0
  · rw [if_neg e]; exact hF r (by omega) hlt
theorem world_ad {g : GC} {q6 qc ql qu qv : Nat} {F : Nat → Nat} : (WSl g q6 F qc ql qu qv).map Prod.fst = roles.map (adl q6 F qc ql qu qv) := by
  have hF : ∀ r, r < 223 → F r = adl q6 F qc ql qu qv r := fun r hr => (adl_F hr).symm
  have e6 : q6 = adl q6 F qc ql qu qv 223 := rfl
  have ec : qc = adl q6 F qc ql qu qv 224 := rfl
  have el : ql = adl q6 F qc ql qu qv 225 := rfl
  have eu : qu = adl q6 F qc ql qu qv 226 := rfl
  have ev : qv = adl q6 F qc ql qu qv 227 := rfl
  generalize adl q6 F qc ql qu qv = a at hF e6 ec el eu ev
  have s0 : (BX4 g (F 0) F).map Prod.fst = (stR.map (fun r => 31 * 0 + r)).map a := bx4_ad.trans (stR_map (j := 0) (hF 0 (by omega)) (fun r h1 h2 => by rw [hF r (by omega)]; congr 1; omega))
  have sj : ∀ i, i < 6 → (BX4 g (F (31 + 31 * i)) (fun r => F (31 + 31 * i + r))).map Prod.fst = (stR.map (fun r => 31 * (i + 1) + r)).map a := fun i hi => bx4_ad.trans (stR_map (j := i + 1) (by rw [hF _ (by omega)]; congr 1; omega) (fun r h1 h2 => by rw [hF _ (by omega)]; congr 1; omega))
  have hH : (HT g F 6).map Prod.fst = (stR.map (fun r => 31 * 1 + r) ++ stR.map (fun r => 31 * 2 + r) ++ stR.map (fun r => 31 * 3 + r) ++ stR.map (fun r => 31 * 4 + r) ++ stR.map (fun r => 31 * 5 + r) ++ stR.map (fun r => 31 * 6 + r)).map a := by
    rw [HT, HT, HT, HT, HT, HT, HT]
    rw [List.map_append, List.map_append, List.map_append, List.map_append, List.map_append, List.map_append, sj 0 (by omega), sj 1 (by omega), sj 2 (by omega), sj 3 (by omega), sj 4 (by omega), sj 5 (by omega), List.map_append, List.map_append, List.map_append, List.map_append, List.map_append]
    rfl
  have h0 : (BX0 g (F 217) F).map Prod.fst = ([217, 218] ++ (stR.map (fun r => 31 * 1 + r) ++ stR.map (fun r => 31 * 2 + r) ++ stR.map (fun r => 31 * 3 + r) ++ stR.map (fun r => 31 * 4 + r) ++ stR.map (fun r => 31 * 5 + r) ++ stR.map (fun r => 31 * 6 + r))).map a := by
    unfold BX0 H1w
    rw [List.map_append, hH, List.map_append (l₁ := [217, 218])]
    show [F 217, F 218] ++ _ = [a 217, a 218] ++ _
    rw [hF 217 (by omega), hF 218 (by omega)]
  have h6 : (BX6 g q6 F).map Prod.fst = ([223] ++ stR.map (fun r => 31 * 0 + r) ++ ([217, 218] ++ (stR.map (fun r => 31 * 1 + r) ++ stR.map (fun r => 31 * 2 + r) ++ stR.map (fun r => 31 * 3 + r) ++ stR.map (fun r => 31 * 4 + r) ++ stR.map (fun r => 31 * 5 + r) ++ stR.map (fun r => 31 * 6 + r))) ++ [219, 220] ++ [221, 222]).map a := by
    unfold BX6
    rw [List.map_append, List.map_append, List.map_append, List.map_append, s0, h0, List.map_append (l₂ := [221, 222]), List.map_append (l₂ := [219, 220]), List.map_append (l₁ := [223] ++ stR.map (fun r => 31 * 0 + r)), List.map_append (l₁ := [223])]
    show [q6] ++ _ ++ _ ++ [F 219, F 220] ++ [F 221, F 222] = [a 223] ++ _ ++ _ ++ [a 219, a 220] ++ [a 221, a 222]
    rw [e6, hF 219 (by omega), hF 220 (by omega), hF 221 (by omega), hF 222 (by omega), ← e6]
  unfold WSl
  rw [List.map_append, List.map_append, List.map_append, List.map_append, List.nil_append, h6]
  show _ ++ [qc] ++ [ql] ++ [qu] ++ [qv] = _
  rw [List.map_append (l₂ := [227]), List.map_append (l₂ := [226]), List.map_append (l₂ := [225]), List.map_append (l₂ := [224])]
  show _ ++ [qc] ++ [ql] ++ [qu] ++ [qv] = _ ++ [a 224] ++ [a 225] ++ [a 226] ++ [a 227]
  rw [← ec, ← el, ← eu, ← ev]
def posR (k : Nat) : Nat := roles.idxOf k
set_option maxRecDepth 100000 in
theorem posR_at : ∀ k, k < 228 → roles[posR k]? = some k := by decide +kernel
theorem world_D {dC : Nat → ClassId} {dI : Nat → Nat → Nat} {cA : Nat → ClassId} {H0 : Heap} {scr : Nat × Nat × (Nat → Int32)} {q6 qc ql qu qv : Nat} {F : Nat → Nat} (h : va_D (fun q : Nat => H0.size ≤ q) (WSl (dC, dI, adl q6 F qc ql qu qv, cA, H0, scr) q6 F qc ql qu qv)) : DJ (dC, dI, adl q6 F qc ql qu qv, cA, H0, scr) := by
  have at' : ∀ k, k < 228 → ∃ x : Nat × va_E, (WSl (dC, dI, adl q6 F qc ql qu qv, cA, H0, scr) q6 F qc ql qu qv)[posR k]? = some x ∧ x.1 = adl q6 F qc ql qu qv k := by
    intro k hk
    have h1 : ((WSl (dC, dI, adl q6 F qc ql qu qv, cA, H0, scr) q6 F qc ql qu qv).map Prod.fst)[posR k]? = some (adl q6 F qc ql qu qv k) := by
      rw [world_ad, List.getElem?_map, posR_at k hk]
      rfl
    rw [List.getElem?_map] at h1
    cases hx : (WSl (dC, dI, adl q6 F qc ql qu qv, cA, H0, scr) q6 F qc ql qu qv)[posR k]? with
    | none => rw [hx] at h1; cases h1
    | some x => rw [hx] at h1; exact ⟨x, rfl, Option.some.inj h1⟩
  refine ⟨fun i j hi hj e => ?_, fun k hk => ?_⟩
  · obtain ⟨x, x1, x2⟩ := at' i hi
    obtain ⟨y, y1, y2⟩ := at' j hj
    have hp := h.1 _ _ x y x1 y1 (x2.trans (e.trans y2.symm))
    have p1 := posR_at i hi
    rw [hp, posR_at j hj] at p1
    exact (Option.some.inj p1).symm
  · obtain ⟨x, x1, x2⟩ := at' k hk
    have := h.2 _ x x1
    rw [x2] at this
    exact this
/-- the first state of both sides -/
theorem IVT.start : IVT 0 V0 := by
  have z : (0 : Int32) = nI 0 := rfl
  refine ⟨0, 0, 0, 0, 0, ⟨⟨⟨⟨⟨rfl, by omega⟩, ⟨rfl, by omega⟩, fun k hk => absurd hk (by omega), fun k hk => absurd hk (by omega), fun k hk => absurd hk (by omega), fun k hk => absurd hk (by omega)⟩, fun k hk => absurd hk (by omega), fun k hk => absurd hk (by omega), fun k hk => absurd hk (by omega)⟩, ⟨fun k hk => absurd hk (by omega), fun k hk => absurd hk (by omega)⟩, fun k hk => absurd hk (by omega), rfl, rfl, rfl⟩, ⟨rfl, by omega, rfl, by omega⟩, fun q hq => absurd hq (by omega)⟩, rfl, by omega, fun _ => rfl, fun q => absurd q (by omega)⟩
