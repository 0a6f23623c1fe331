/-! DIGESTS: class and model -/
theorem mixN_congr {f g : Nat → Int32} {h : Int64} : ∀ n, (∀ i, i < n → f i = g i) → mixN f n h = mixN g n h
  | 0, _ => rfl
  | n + 1, e => by rw [mixN, mixN, mixN_congr n (fun i hi => e i (by omega)), e n (by omega)]
theorem Rl.z {nl ns : Nat} {C Z Z' : Mem} (h : Rl nl ns C Z) (e : Z' 225 = Z 225) : Rl nl ns C Z' :=
  ⟨fun k hk => ⟨fun j hj => by rw [e]; exact h.f hk hj, fun j hj => by rw [e]; exact h.m hk hj⟩, fun q hq j hj => by rw [e]; exact h.s hq hj⟩
theorem Rl.mix {nl ns k : Nat} {C Z : Mem} {x : Int64} (h : Rl nl ns C Z) (hV : VI nl ns C) (hk : k < nl) (e1 : Z 225 1 = C 0 3) : rMix Z k ns x = cHF C k ns (cHL C k ns x) := by
  have h8 := hV.1.1.2
  have h12 := hV.1.2.1.2
  have hA : Rl nl ns C (rAside Z) := h.z (rAside_row (by decide))
  have eA : rAside Z 225 1 = C 0 3 := by rw [rAside_row (by decide)]; exact e1
  have a1 : ∀ y, mixN (rLeaseOf Z k ns) 9 y = mixN (cProp C ns k) 9 y := fun y => mixN_congr 9 (fun i hi => h.prop hV.2.2.1 hk hi)
  have a2 : ∀ y, mixN (rMoved Z k) 17 y = mixN (C (3 + k + 8)) 17 y := fun y => mixN_congr 17 (fun i hi => h.m hk hi)
  have a3 : ∀ y, mixN (rPlan (rAside Z) k ns 3) 4 y = mixN (cPlan C k ns 3) 4 y := fun y => mixN_congr 4 (fun i hi => hA.plan hV hk (by omega) hi)
  have a4 : ∀ y, mixN (rDM (rAside Z) k ns) 3 y = mixN (cIfW C k ns) 3 y := fun y => mixN_congr 3 (fun i hi => by
    have hB : Rl nl ns C (rAside (rAside Z)) := hA.z (rAside_row (by decide))
    unfold rDM cIfW rRuns
    rw [hA.f hk (j := 1) (by omega), hA.f0 hk, hA.f hk (j := 2) (by omega), hB.ifm h8 h12 hk hV.2.2.1 (by decide) hi])
  unfold rMix cHF cHL
  dsimp only
  rw [a1, a2, h.prof0 hk, h.prof1 hV.2.2.1 hk, a3, a4, hA.pay hV.1 hk (by decide), hA.rate hV.1 hV.2.1 hk, hA.recp hV.1 hk ⟨by decide, by decide⟩ eA]
theorem Rl.dgL {nl ns : Nat} {C Z : Mem} {x : Int64} (h : Rl nl ns C Z) (hV : VI nl ns C) (e1 : Z 225 1 = C 0 3) : ∀ k, k ≤ nl → rDgL Z ns x k = cDgL C ns x k
  | 0, _ => rfl
  | k + 1, hk => by
    have e : rAsN Z k 225 = Z 225 := rAsN_row (by decide) k
    rw [rDgL, cDgL, Rl.dgL h hV e1 k (by omega), (h.z e).mix hV (by omega) (by rw [e]; exact e1)]
theorem Rl.dgS {nl ns : Nat} {C Z : Mem} {x : Int64} (h : Rl nl ns C Z) : ∀ q, q ≤ ns → mixN (fun i => Z 225 (179 + i)) (6 * q) x = cDgS C x q
  | 0, _ => rfl
  | q + 1, hq => by
    rw [cDgS, ← Rl.dgS h q (by omega)]
    have g : ∀ j, j < 6 → Z 225 (179 + (6 * q + j)) = C (19 + q) j := fun j hj => by rw [← Nat.add_assoc]; exact h.s (by omega) hj
    show mixN (fun i => Z 225 (179 + i)) (6 * q + 5 + 1) x = _
    rw [mixN, mixN, mixN, mixN, mixN, mixN, g 5 (by omega), g 4 (by omega), g 3 (by omega), g 2 (by omega), g 1 (by omega), show Z 225 (179 + 6 * q) = C (19 + q) 0 from h.s0 (by omega)]
    rfl
theorem Rl.dig {nl ns m : Nat} {C Z : Mem} (h : Rl nl ns C Z) (hV : VI nl ns C) (e0 : Z 225 0 = C 0 2) (e1 : Z 225 1 = C 0 3) (e2 : Z 225 2 = C 0 4) (e3 : Z 224 3 = C 217 2) (hB : ∀ i, i < m → Z 228 i = C 220 i) : rDg Z nl ns m = cDg C nl ns m := by
  have e : rAsN Z nl 225 = Z 225 := rAsN_row (by decide) nl
  have eB : rAsN Z nl 228 = Z 228 := rAsN_row (by decide) nl
  unfold rDg cDg
  dsimp only
  rw [mixN_congr 11 (fun i hi => h.count hV.1.1.2 hV.2.2.1 hV.1.2.2.1 hi e0 e1 e2 e3), h.dgL hV e1 nl (Nat.le_refl _), e, h.dgS ns (Nat.le_refl _), (h.z e).off hV, eB]
  exact mixN_congr m hB
