/-! within an hour -/
def Kv (μ : mm_M) (t hl hi ht : Nat) (lo : Nat → Nat) (nl nb nc : Nat) : Prop :=
  (μ 0 8 = nI t ∧ μ 48 0 = nI t ∧ t ≤ 5000) ∧
  (μ 48 7 = μ 0 9) ∧
  (μ 48 12 = μ 0 10 ∧ 0 ≤ (μ 0 10).toInt ∧ (μ 0 10).toInt ≤ 300) ∧
  (μ 48 17 = μ 0 11) ∧
  (μ 48 26 = μ 0 12) ∧
  (μ 48 34 = μ 0 13) ∧
  (μ 56 = μ 8 ∧ ∀ s, s < 2 → ∃ x, x ≤ 100000 ∧ μ 8 s = nI x) ∧
  (μ 1 6 = nI nl ∧ μ 48 1 = nI nl ∧ nl ≤ 60) ∧
  (μ 49 = μ 9 ∧ μ 50 = μ 10 ∧ μ 51 = μ 11 ∧ μ 52 = μ 12 ∧ μ 53 = μ 13) ∧
  (JL hl nl (μ 9) (μ 10) (μ 11) (μ 12) (μ 13) (μ 14)) ∧
  (JK (μ 15) (μ 16) (μ 17) (μ 18) (μ 19) (μ 20) (μ 54) (μ 55)) ∧
  (∀ j, j < 3 → I_crew (μ 21 j) (μ 22 j) (μ 57 j)) ∧
  (∀ c, c < 3 → JC nl (lo c) hi c (μ 23) (μ 24) (μ 25) (μ 26) (μ 27) (μ 58) (μ 59) (μ 60) (μ 61) (μ 15)) ∧
  (μ 5 7 = nI nb ∧ μ 48 18 = nI nb ∧ (nI nb + su (fun j => if chB (μ 23) j = true then 1 else 0) 3).toInt ≤ 100 ∧ nb ≤ 100) ∧
  (μ 62 = μ 28 ∧ μ 63 = μ 30 ∧ μ 64 = μ 29 ∧ μ 65 = μ 31 ∧ μ 66 = μ 33 ∧ μ 67 = μ 32 ∧ μ 68 = μ 34) ∧
  (JB t nb (μ 28) (μ 30) (μ 31) (μ 33) (μ 34) (μ 15)) ∧
  (μ 5 8 = su (μ 34) (nb * 60)) ∧
  (μ 6 7 = nI nc ∧ μ 48 27 = nI nc ∧ nc ≤ 20) ∧
  (μ 69 = μ 35 ∧ μ 70 = μ 36 ∧ μ 71 = μ 37 ∧ μ 72 = μ 38 ∧ μ 73 = μ 39 ∧ μ 74 = μ 40) ∧
  (JT ht nc (μ 36) (μ 37) (μ 38) (μ 39) (μ 40) (μ 41) (μ 15)) ∧
  (JP μ)
theorem Kv.now {μ : mm_M} {t hl hi ht : Nat} {lo : Nat → Nat} {nl nb nc : Nat} (I : Kv μ t hl hi ht lo nl nb nc) : μ 0 8 = nI t ∧ μ 48 0 = nI t ∧ t ≤ 5000 := I.1
theorem Kv.ice {μ : mm_M} {t hl hi ht : Nat} {lo : Nat → Nat} {nl nb nc : Nat} (I : Kv μ t hl hi ht lo nl nb nc) : μ 48 7 = μ 0 9 := I.2.1
theorem Kv.pck {μ : mm_M} {t hl hi ht : Nat} {lo : Nat → Nat} {nl nb nc : Nat} (I : Kv μ t hl hi ht lo nl nb nc) : μ 48 12 = μ 0 10 ∧ 0 ≤ (μ 0 10).toInt ∧ (μ 0 10).toInt ≤ 300 := I.2.2.1
theorem Kv.mea {μ : mm_M} {t hl hi ht : Nat} {lo : Nat → Nat} {nl nb nc : Nat} (I : Kv μ t hl hi ht lo nl nb nc) : μ 48 17 = μ 0 11 := I.2.2.2.1
theorem Kv.coi {μ : mm_M} {t hl hi ht : Nat} {lo : Nat → Nat} {nl nb nc : Nat} (I : Kv μ t hl hi ht lo nl nb nc) : μ 48 26 = μ 0 12 := I.2.2.2.2.1
theorem Kv.fin {μ : mm_M} {t hl hi ht : Nat} {lo : Nat → Nat} {nl nb nc : Nat} (I : Kv μ t hl hi ht lo nl nb nc) : μ 48 34 = μ 0 13 := I.2.2.2.2.2.1
theorem Kv.sau {μ : mm_M} {t hl hi ht : Nat} {lo : Nat → Nat} {nl nb nc : Nat} (I : Kv μ t hl hi ht lo nl nb nc) : μ 56 = μ 8 ∧ ∀ s, s < 2 → ∃ x, x ≤ 100000 ∧ μ 8 s = nI x := I.2.2.2.2.2.2.1
theorem Kv.lot {μ : mm_M} {t hl hi ht : Nat} {lo : Nat → Nat} {nl nb nc : Nat} (I : Kv μ t hl hi ht lo nl nb nc) : μ 1 6 = nI nl ∧ μ 48 1 = nI nl ∧ nl ≤ 60 := I.2.2.2.2.2.2.2.1
theorem Kv.lrw {μ : mm_M} {t hl hi ht : Nat} {lo : Nat → Nat} {nl nb nc : Nat} (I : Kv μ t hl hi ht lo nl nb nc) : μ 49 = μ 9 ∧ μ 50 = μ 10 ∧ μ 51 = μ 11 ∧ μ 52 = μ 12 ∧ μ 53 = μ 13 := I.2.2.2.2.2.2.2.2.1
theorem Kv.lin {μ : mm_M} {t hl hi ht : Nat} {lo : Nat → Nat} {nl nb nc : Nat} (I : Kv μ t hl hi ht lo nl nb nc) : JL hl nl (μ 9) (μ 10) (μ 11) (μ 12) (μ 13) (μ 14) := I.2.2.2.2.2.2.2.2.2.1
theorem Kv.knd {μ : mm_M} {t hl hi ht : Nat} {lo : Nat → Nat} {nl nb nc : Nat} (I : Kv μ t hl hi ht lo nl nb nc) : JK (μ 15) (μ 16) (μ 17) (μ 18) (μ 19) (μ 20) (μ 54) (μ 55) := I.2.2.2.2.2.2.2.2.2.2.1
theorem Kv.crw {μ : mm_M} {t hl hi ht : Nat} {lo : Nat → Nat} {nl nb nc : Nat} (I : Kv μ t hl hi ht lo nl nb nc) : ∀ j, j < 3 → I_crew (μ 21 j) (μ 22 j) (μ 57 j) := I.2.2.2.2.2.2.2.2.2.2.2.1
theorem Kv.coo {μ : mm_M} {t hl hi ht : Nat} {lo : Nat → Nat} {nl nb nc : Nat} (I : Kv μ t hl hi ht lo nl nb nc) : ∀ c, c < 3 → JC nl (lo c) hi c (μ 23) (μ 24) (μ 25) (μ 26) (μ 27) (μ 58) (μ 59) (μ 60) (μ 61) (μ 15) := I.2.2.2.2.2.2.2.2.2.2.2.2.1
theorem Kv.bnr {μ : mm_M} {t hl hi ht : Nat} {lo : Nat → Nat} {nl nb nc : Nat} (I : Kv μ t hl hi ht lo nl nb nc) : μ 5 7 = nI nb ∧ μ 48 18 = nI nb ∧ (nI nb + su (fun j => if chB (μ 23) j = true then 1 else 0) 3).toInt ≤ 100 ∧ nb ≤ 100 := I.2.2.2.2.2.2.2.2.2.2.2.2.2.1
theorem Kv.brw {μ : mm_M} {t hl hi ht : Nat} {lo : Nat → Nat} {nl nb nc : Nat} (I : Kv μ t hl hi ht lo nl nb nc) : μ 62 = μ 28 ∧ μ 63 = μ 30 ∧ μ 64 = μ 29 ∧ μ 65 = μ 31 ∧ μ 66 = μ 33 ∧ μ 67 = μ 32 ∧ μ 68 = μ 34 := I.2.2.2.2.2.2.2.2.2.2.2.2.2.2.1
theorem Kv.bin {μ : mm_M} {t hl hi ht : Nat} {lo : Nat → Nat} {nl nb nc : Nat} (I : Kv μ t hl hi ht lo nl nb nc) : JB t nb (μ 28) (μ 30) (μ 31) (μ 33) (μ 34) (μ 15) := I.2.2.2.2.2.2.2.2.2.2.2.2.2.2.2.1
theorem Kv.bkg {μ : mm_M} {t hl hi ht : Nat} {lo : Nat → Nat} {nl nb nc : Nat} (I : Kv μ t hl hi ht lo nl nb nc) : μ 5 8 = su (μ 34) (nb * 60) := I.2.2.2.2.2.2.2.2.2.2.2.2.2.2.2.2.1
theorem Kv.cnr {μ : mm_M} {t hl hi ht : Nat} {lo : Nat → Nat} {nl nb nc : Nat} (I : Kv μ t hl hi ht lo nl nb nc) : μ 6 7 = nI nc ∧ μ 48 27 = nI nc ∧ nc ≤ 20 := I.2.2.2.2.2.2.2.2.2.2.2.2.2.2.2.2.2.1
theorem Kv.crr {μ : mm_M} {t hl hi ht : Nat} {lo : Nat → Nat} {nl nb nc : Nat} (I : Kv μ t hl hi ht lo nl nb nc) : μ 69 = μ 35 ∧ μ 70 = μ 36 ∧ μ 71 = μ 37 ∧ μ 72 = μ 38 ∧ μ 73 = μ 39 ∧ μ 74 = μ 40 := I.2.2.2.2.2.2.2.2.2.2.2.2.2.2.2.2.2.2.1
theorem Kv.cin {μ : mm_M} {t hl hi ht : Nat} {lo : Nat → Nat} {nl nb nc : Nat} (I : Kv μ t hl hi ht lo nl nb nc) : JT ht nc (μ 36) (μ 37) (μ 38) (μ 39) (μ 40) (μ 41) (μ 15) := I.2.2.2.2.2.2.2.2.2.2.2.2.2.2.2.2.2.2.2.1
theorem Kv.pla {μ : mm_M} {t hl hi ht : Nat} {lo : Nat → Nat} {nl nb nc : Nat} (I : Kv μ t hl hi ht lo nl nb nc) : JP μ := I.2.2.2.2.2.2.2.2.2.2.2.2.2.2.2.2.2.2.2.2
theorem Iv_Kv {μ : mm_M} {h nl nb nc : Nat} : Iv μ h nl nb nc = Kv μ h h (h + 5) h (fun _ => h + 1) nl nb nc := rfl
section HR
variable {μ : mm_M} {t hl hi ht h nl nb nc : Nat} {lo : Nat → Nat}
theorem k_hr (I : Iv μ h nl nb nc) (hh : h + 1 ≤ 5000) : Kv (hrN (hrM μ)) (h + 1) h (h + 5) h (fun _ => h + 1) nl nb nc := by
  unfold hrN hrM
  have e : nI h + 1 = nI (h + 1) := by
    rw [← i_addN]
    rfl
  refine ⟨?_, ?_, ?_, ?_, ?_, ?_, ?_, ?_, ?_, ?_, ?_, ?_, ?_, ?_, ?_, ?_, ?_, ?_, ?_, ?_, ?_⟩ <;> (try simp only [hs_s, hs_n, ne_eq, Nat.reduceEqDiff, not_false_eq_true, upd_s, upd_n])
  · rw [I.now.1, I.now.2.1, e]
    exact ⟨rfl, rfl, hh⟩
  · exact I.ice
  · decide
  · exact I.mea
  · exact I.coi
  · exact I.fin
  · exact I.sau
  · exact I.lot
  · exact I.lrw
  · exact I.lin
  · exact I.knd
  · exact I.crw
  · exact I.coo
  · exact I.bnr
  · exact I.brw
  · obtain ⟨a1, a2⟩ := I.bin
    refine ⟨fun b hb => ?_, a2⟩
    obtain ⟨b1, b2, ⟨d, hd, ed⟩, b4⟩ := a1 b hb
    exact ⟨b1, b2, ⟨d, by omega, ed⟩, b4⟩
  · exact I.bkg
  · exact I.cnr
  · exact I.crr
  · exact I.cin
  · exact JP_of (by simp only [hs_n, ne_eq, Nat.reduceEqDiff, not_false_eq_true]) (by simp only [hs_n, ne_eq, Nat.reduceEqDiff, not_false_eq_true]) (by simp only [hs_n, ne_eq, Nat.reduceEqDiff, not_false_eq_true]) (by simp only [hs_n, ne_eq, Nat.reduceEqDiff, not_false_eq_true]) (by simp only [hs_n, ne_eq, Nat.reduceEqDiff, not_false_eq_true]) (by simp only [hs_n, ne_eq, Nat.reduceEqDiff, not_false_eq_true]) (by simp only [hs_n, ne_eq, Nat.reduceEqDiff, not_false_eq_true]) (by simp only [hs_n, ne_eq, Nat.reduceEqDiff, not_false_eq_true]) (by simp only [hs_n, ne_eq, Nat.reduceEqDiff, not_false_eq_true]) (by simp only [hs_n, ne_eq, Nat.reduceEqDiff, not_false_eq_true]) (by simp only [hs_n, ne_eq, Nat.reduceEqDiff, not_false_eq_true]) I.pla
theorem k_sp (I : Kv μ t hl hi ht lo nl nb nc) (hlt : hl ≤ t) : Kv (spN (spM μ nl) nl) t t hi ht lo nl nb nc := by
  obtain ⟨l1, l2, l3, l4, l5⟩ := I.lrw
  obtain ⟨a1, a2, a3, a4, a5, a6⟩ := I.lin
  unfold spN spM
  refine ⟨?_, ?_, ?_, ?_, ?_, ?_, ?_, ?_, ?_, ?_, ?_, ?_, ?_, ?_, ?_, ?_, ?_, ?_, ?_, ?_, ?_⟩ <;> (try simp only [hs_s, hs_n, ne_eq, Nat.reduceEqDiff, not_false_eq_true, upd_s, upd_n])
  · exact I.now
  · exact I.ice
  · exact I.pck
  · rw [l2, l3, l4, I.now.1, I.now.2.1, I.mea]
  · exact I.coi
  · exact I.fin
  · exact I.sau
  · exact I.lot
  · rw [l2, l3, l4, I.now.1, I.now.2.1]
    exact ⟨l1, rfl, rfl, rfl, l5⟩
  · rw [I.now.1]
    refine ⟨a1, fun j hj => ?_, fun j hj => ⟨(a3 j hj).1, by have := (a3 j hj).2; omega⟩, fun j hj w => if_pos ⟨hj, by rw [w]; rfl⟩, a5, a6⟩
    show ∃ f, f ≤ 5000 ∧ (if j < nl ∧ (!frB (μ 11) (μ 12) (nI t) j) = true then 0 else μ 10 j) = nI f
    by_cases g : j < nl ∧ (!frB (μ 11) (μ 12) (nI t) j) = true
    · rw [if_pos g]
      exact ⟨0, by omega, rfl⟩
    · rw [if_neg g]
      exact a2 j hj
  · exact I.knd
  · exact I.crw
  · exact I.coo
  · exact I.bnr
  · exact I.brw
  · exact I.bin
  · exact I.bkg
  · exact I.cnr
  · exact I.crr
  · exact I.cin
  · exact JP_of (by simp only [hs_n, ne_eq, Nat.reduceEqDiff, not_false_eq_true]) (by simp only [hs_n, ne_eq, Nat.reduceEqDiff, not_false_eq_true]) (by simp only [hs_n, ne_eq, Nat.reduceEqDiff, not_false_eq_true]) (by simp only [hs_n, ne_eq, Nat.reduceEqDiff, not_false_eq_true]) (by simp only [hs_n, ne_eq, Nat.reduceEqDiff, not_false_eq_true]) (by simp only [hs_n, ne_eq, Nat.reduceEqDiff, not_false_eq_true]) (by simp only [hs_n, ne_eq, Nat.reduceEqDiff, not_false_eq_true]) (by simp only [hs_n, ne_eq, Nat.reduceEqDiff, not_false_eq_true]) (by simp only [hs_n, ne_eq, Nat.reduceEqDiff, not_false_eq_true]) (by simp only [hs_n, ne_eq, Nat.reduceEqDiff, not_false_eq_true]) (by simp only [hs_n, ne_eq, Nat.reduceEqDiff, not_false_eq_true]) I.pla
theorem k_cl (I : Kv μ (h + 1) hl hi h lo nl nb nc) : Kv (cnG nc (clG nc μ)) (h + 1) hl hi (h + 1) lo nl nb nc := by
  have hh := I.now.2.2
  obtain ⟨l1, l2, l3, l4, l5, l6⟩ := I.crr
  obtain ⟨a1, a2, a3⟩ := I.cin
  have hn := I.cnr.2.2
  have eq : nI (h + 1) / 168 = nI ((h + 1) / 168) := div_i (d := 168) (by omega) (by omega) (by omega)
  have em : nI (h + 1) - nI (h + 1) / 168 * 168 = 0 ↔ (h + 1) % 168 = 0 := by
    rw [eq, show (168 : Int32) = nI 168 from rfl, i_mulN, sub_nI (by omega)]
    constructor
    · intro z
      have := nI_inj2 (a := h + 1 - (h + 1) / 168 * 168) (b := 0) (by omega) (by omega) z
      omega
    · intro z
      rw [show h + 1 - (h + 1) / 168 * 168 = 0 by omega]
      rfl
  by_cases g : (h + 1) % 168 = 0
  · have e1 : clG nc μ = clM μ nc := by
      unfold clG
      rw [I.now.1]
      exact if_pos (em.mpr g)
    have e2 : (clM μ nc) 48 0 = nI (h + 1) := by
      unfold clM
      simp only [hs_n, ne_eq, Nat.reduceEqDiff, not_false_eq_true]
      exact I.now.2.1
    have e3 : cnG nc (clM μ nc) = clN (clM μ nc) nc := by
      unfold cnG
      rw [e2]
      exact if_pos (em.mpr g)
    rw [e1, e3]
    have ew : nI (h + 1) / 168 - 1 = nI ((h + 1) / 168 - 1) := by
      rw [eq, show (1 : Int32) = nI 1 from rfl, sub_nI (by omega)]
    have eb : ∀ j, j < nc → cmB (μ 38) (μ 40) (nI (h + 1) / 168) j = clB (μ 38) (μ 40) (nI (h + 1) / 168 - 1) j := fun j hj => by
      obtain ⟨-, -, W, hW, eW, hv⟩ := a1 j hj
      rw [ew, eq]
      unfold cmB clB
      rw [eW]
      by_cases o : μ 40 j = 0
      · have := hv o
        have k : nI W < nI ((h + 1) / 168) ↔ nI W = nI ((h + 1) / 168 - 1) := by
          rw [i_lt, i_nI (by omega), i_nI (by omega)]
          constructor
          · intro z
            rw [show W = (h + 1) / 168 - 1 by omega]
          · intro z
            have := nI_inj2 (by omega) (by omega) z
            omega
        simp only [k, o, decide_true, Bool.true_and, Bool.and_true]
      · simp only [o, decide_false, Bool.false_and, Bool.and_false]
    have ef : (fun j => if j < nc ∧ cmB (μ 38) (μ 40) (nI (h + 1) / 168) j = true then 1 else μ 40 j) = (fun j => if j < nc ∧ clB (μ 38) (μ 40) (nI (h + 1) / 168 - 1) j = true then 1 else μ 40 j) := by
      funext j
      by_cases hj : j < nc
      · rw [eb j hj]
      · rw [if_neg (fun z => hj z.1), if_neg (fun z => hj z.1)]
    have es : su (fun j => if cmB (μ 38) (μ 40) (nI (h + 1) / 168) j = true then 2 * μ 55 (μ 36 j).toNatClampNeg * (μ 37 j - μ 39 j) else 0) nc = su (fun j => if clB (μ 38) (μ 40) (nI (h + 1) / 168 - 1) j = true then (μ 37 j - μ 39 j) * 2 * μ 20 (μ 36 j).toNatClampNeg else 0) nc := su_congr (fun j hj => by
      rw [eb j hj]
      obtain ⟨⟨k, hk, ek, kn⟩, -⟩ := a1 j hj
      have ep : μ 55 k = μ 20 k := by
        rcases I.knd k hk with ⟨z, -⟩ | ⟨-, -, -, -, -, -, -, z⟩
        · exact absurd z kn
        · exact z
      rw [ek, nI_cl (by omega), ep, Int32.mul_comm (2 * μ 20 k), Int32.mul_assoc])
    unfold clN clM
    refine ⟨?_, ?_, ?_, ?_, ?_, ?_, ?_, ?_, ?_, ?_, ?_, ?_, ?_, ?_, ?_, ?_, ?_, ?_, ?_, ?_, ?_⟩ <;> (try simp only [hs_s, hs_n, ne_eq, Nat.reduceEqDiff, not_false_eq_true, upd_s, upd_n])
    · exact I.now
    · exact I.ice
    · exact I.pck
    · exact I.mea
    · exact I.coi
    · rw [l2, l3, l4, l5, l6, I.now.1, I.now.2.1, I.fin, es]
    · exact I.sau
    · exact I.lot
    · exact I.lrw
    · exact I.lin
    · exact I.knd
    · exact I.crw
    · exact I.coo
    · exact I.bnr
    · exact I.brw
    · exact I.bin
    · exact I.bkg
    · exact I.cnr
    · rw [l4, l6, I.now.1, I.now.2.1, ef]
      exact ⟨l1, l2, l3, rfl, l5, rfl⟩
    · rw [I.now.1]
      refine ⟨fun j hj => ?_, fun j hj => ⟨(a2 j hj).1, (if_neg (fun z => by omega)).trans (a2 j hj).2⟩, a3⟩
      obtain ⟨b1, b2, W, hW, eW, hv⟩ := a1 j hj
      refine ⟨b1, b2, W, hW, eW, fun z => ?_⟩
      change (if j < nc ∧ clB (μ 38) (μ 40) (nI (h + 1) / 168 - 1) j = true then (1 : Int32) else μ 40 j) = 0 at z
      by_cases c : clB (μ 38) (μ 40) (nI (h + 1) / 168 - 1) j = true
      · rw [if_pos ⟨hj, c⟩] at z
        exact absurd z (by decide)
      · rw [if_neg (fun q => c q.2)] at z
        have := hv z
        have nw : ¬ W = (h + 1) / 168 - 1 := fun q => c (by
          unfold clB
          rw [eW, z, ew, q]
          simp only [decide_true, Bool.and_self])
        omega
    · exact JP_of (by simp only [hs_n, ne_eq, Nat.reduceEqDiff, not_false_eq_true]) (by simp only [hs_n, ne_eq, Nat.reduceEqDiff, not_false_eq_true]) (by simp only [hs_n, ne_eq, Nat.reduceEqDiff, not_false_eq_true]) (by simp only [hs_n, ne_eq, Nat.reduceEqDiff, not_false_eq_true]) (by simp only [hs_n, ne_eq, Nat.reduceEqDiff, not_false_eq_true]) (by simp only [hs_n, ne_eq, Nat.reduceEqDiff, not_false_eq_true]) (by simp only [hs_n, ne_eq, Nat.reduceEqDiff, not_false_eq_true]) (by simp only [hs_n, ne_eq, Nat.reduceEqDiff, not_false_eq_true]) (by simp only [hs_n, ne_eq, Nat.reduceEqDiff, not_false_eq_true]) (by simp only [hs_n, ne_eq, Nat.reduceEqDiff, not_false_eq_true]) (by simp only [hs_n, ne_eq, Nat.reduceEqDiff, not_false_eq_true]) I.pla
  · have e1 : clG nc μ = μ := by
      unfold clG
      rw [I.now.1]
      exact if_neg (fun z => g (em.mp z))
    have e3 : cnG nc μ = μ := by
      unfold cnG
      rw [I.now.2.1]
      exact if_neg (fun z => g (em.mp z))
    rw [e1, e3]
    refine ⟨I.now, I.ice, I.pck, I.mea, I.coi, I.fin, I.sau, I.lot, I.lrw, I.lin, I.knd, I.crw, I.coo, I.bnr, I.brw, I.bin, I.bkg, I.cnr, I.crr, ⟨fun j hj => ?_, a2, a3⟩, I.pla⟩
    obtain ⟨b1, b2, W, hW, eW, hv⟩ := a1 j hj
    exact ⟨b1, b2, W, hW, eW, fun z => by have := hv z; omega⟩
theorem k_lo {hi2 : Nat} {lo2 : Nat → Nat} (I : Kv μ t hl hi ht lo nl nb nc) (hl2 : ∀ c, c < 3 → lo2 c ≤ lo c) (hh : hi ≤ hi2) : Kv μ t hl hi2 ht lo2 nl nb nc := by
  refine ⟨I.now, I.ice, I.pck, I.mea, I.coi, I.fin, I.sau, I.lot, I.lrw, I.lin, I.knd, I.crw, fun c hc => ?_, I.bnr, I.brw, I.bin, I.bkg, I.cnr, I.crr, I.cin, I.pla⟩
  obtain ⟨a, b⟩ := I.coo c hc
  refine ⟨a, ?_⟩
  rcases b with b | ⟨k, hk, b1, b2, b3, b4, b5, ⟨d, d1, d2, d3⟩, b7⟩
  · exact Or.inl b
  · have := hl2 c hc
    exact Or.inr ⟨k, hk, b1, b2, b3, b4, b5, ⟨d, by omega, by omega, d3⟩, b7⟩
end HR
