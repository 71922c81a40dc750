/-! pack -/
section PK
variable {μ : mm_M} {h nl nb nc : Nat}
theorem Iv.kds (I : Iv μ h nl nb nc) {k : Nat} (hk : k < 4) : μ 16 k = μ 54 k / 1000 ∧ μ 17 k = μ 54 k / 100 - μ 54 k / 100 / 10 * 10 ∧ μ 18 k = fsh (μ 54 k) ∧ μ 19 k = μ 54 k - μ 54 k / 10 * 10 := by
  unfold fsh
  rcases I.knd k hk with ⟨-, a1, a2, a3, a4, -, a5, -⟩ | ⟨-, -, a1, a2, a3, a4, -⟩
  · rw [a1, a2, a3, a4, a5]
    decide
  · exact ⟨a1, a2, a3, a4⟩
theorem i_rg {x : Int32} {a b : Nat} {l u : Int32} (hl : l ≤ x) (hu : x ≤ u) (el : l.toInt = a) (eu : u.toInt = b) : ∃ y, a ≤ y ∧ y ≤ b ∧ x = nI y := by
  rw [i_le] at hl hu
  exact ⟨x.toInt.toNat, by omega, by omega, i_of (by omega)⟩
theorem Iv.kdn (I : Iv μ h nl nb nc) {k : Nat} (hk : k < 4) : (∃ s, s < 2 ∧ μ 17 k = nI s) ∧ (¬ μ 15 k = 0 → (∃ f, 1 ≤ f ∧ f ≤ 9 ∧ μ 18 k = nI f) ∧ (∃ f, 1 ≤ f ∧ f ≤ 5 ∧ μ 19 k = nI f) ∧ (∃ f, 1 ≤ f ∧ f ≤ 7 ∧ μ 16 k = nI f) ∧ ∃ f, 1 ≤ f ∧ f ≤ 99 ∧ μ 20 k = nI f) := by
  rcases I.knd k hk with ⟨a0, a1, a2, a3, a4, -, a5, -⟩ | ⟨-, ok, a1, a2, a3, a4, ⟨a5, a6⟩, -⟩
  · exact ⟨⟨0, by omega, a2⟩, fun z => absurd a0 z⟩
  · obtain ⟨⟨o1, o2⟩, ⟨o3, o4⟩, ⟨o5, o6⟩, o7, o8⟩ := ok
    rw [a1, a2, a3, a4]
    refine ⟨?_, fun _ => ⟨i_rg o5 o6 (by decide) (by decide), i_rg o7 o8 (by decide) (by decide), i_rg o1 o2 (by decide) (by decide), i_rg a5 a6 (by decide) (by decide)⟩⟩
    obtain ⟨y, -, h2, h3⟩ := i_rg (a := 0) (b := 1) o3 o4 (by decide) (by decide)
    exact ⟨y, by omega, h3⟩
theorem p_n (p : Nat → Bool) : ∃ r, r ≤ 3 ∧ su (fun j => if p j = true then 1 else 0) 3 = nI r := by
  show ∃ r, r ≤ 3 ∧ ((0 : Int32) + (if p 0 = true then 1 else 0)) + (if p 1 = true then 1 else 0) + (if p 2 = true then 1 else 0) = nI r
  refine ⟨(if p 0 = true then 1 else 0) + (if p 1 = true then 1 else 0) + (if p 2 = true then 1 else 0), by (repeat' split) <;> decide, by (repeat' split) <;> decide⟩
theorem VP_iff (I : Iv μ h nl nb nc) {c k s : Nat} (hc : c < 3) (hk : k < 4) (hs2 : s < 2) {x : Int32} : VP μ nl c k s x ↔ VPm μ nl c k s x := by
  unfold VP VPm Vcan
  obtain ⟨k1, k2, k3, k4⟩ := I.kds hk
  obtain ⟨l1, l2, l3, l4, l5⟩ := I.lrw
  have ech : su (fun j => if chB (μ 58) j = true then 1 else 0) 3 = su (fun j => if chB (μ 23) j = true then 1 else 0) 3 := su_congr (fun j hj => by
    unfold chB
    rw [(I.coo j hj).1])
  have eth : su (fun j => if tmB (μ 57) (nI h) j = true then 1 else 0) 3 = su (fun j => if thB (μ 21) (μ 22) (nI h) j = true then 1 else 0) 3 := su_congr (fun j hj => by rw [th_iff I.now.2.2 (I.crw j hj)])
  have ecd : su (fun j => if cdB μ k j = true then μ 50 j else 0) nl = su (fun j => if usB (μ 13) (μ 9) (μ 16 k) j = true then μ 10 j else 0) nl := su_congr (fun j hj => by
    obtain ⟨a1, a2, a3, a4, a5, a6⟩ := I.lin
    unfold cdB
    rw [l1, l2, l3, l4, l5, I.now.2.1, ← k1]
    by_cases f : fmB (μ 11) (μ 12) (μ 10) (nI h) j = true
    · rw [f, Bool.true_and]
    · obtain ⟨y, hy, ey⟩ := a2 j hj
      rw [fm_left (by rw [ey, i_nI (by omega)]; omega) (a4 j hj) f]
      split <;> split <;> rfl)
  rw [ech, ecd, I.now.2.1, eth, (I.coo c hc).1, I.bnr.2.1, I.sau.1, ← k3, I.now.1, I.bnr.1, I.pck.1, Int32.not_le]
  obtain ⟨r, hr, er⟩ := p_n (thB (μ 21) (μ 22) (nI h))
  rw [er]
  have pk := I.pck
  have ct : ¬ μ 15 k = 0 → 1 ≤ x ∧ x ≤ 50 → (¬ nI r * 100 - μ 0 10 < x * μ 18 k ↔ μ 0 10 + x * μ 18 k ≤ 100 * nI r) := by
    intro hkn hx
    obtain ⟨f, f1, f2, ef⟩ := ((I.kdn hk).2 hkn).1
    obtain ⟨y, y1, y2, ey⟩ := i_rg (a := 1) (b := 50) hx.1 hx.2 (by decide) (by decide)
    have pe := i_of pk.2.1
    have p3 := pk.2.2
    generalize ep : (μ 0 10).toInt.toNat = p at pe
    rw [pe, i_nI (by omega)] at p3
    have yf : y * f ≤ 50 * 9 := Nat.mul_le_mul y2 f2
    rw [pe, ef, ey, i_mulN, show (100 : Int32) = nI 100 from rfl, i_mulN, i_mulN, i_addN, i_lt, i_le, i_sub (by rw [i_nI (by omega), i_nI (by omega)]; omega) (by rw [i_nI (by omega), i_nI (by omega)]; omega), i_nI (by omega), i_nI (by omega), i_nI (by omega), i_nI (by omega), i_nI (by omega)]
    omega
  constructor
  · rintro ⟨v1, v2, v3, v4, v5, v6, v7⟩
    exact ⟨v1, (I.told hk).mp v2, v3, v4, v6, v5, (ct v2 v3).mp v7⟩
  · rintro ⟨v1, v2, v3, v4, v5, v6, v7⟩
    have w2 := (I.told hk).mpr v2
    exact ⟨v1, w2, v3, v4, v6, v5, (ct w2 v3).mpr v7⟩
end PK
