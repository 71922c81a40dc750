/-! sauce, call -/
section SC
variable {μ : mm_M} {h nl nb nc : Nat}
theorem b_sauce {a b : Int32} (I : Iv μ h nl nb nc) : Both 45 81 [.int a, .int b] μ (fun ξ => ∃ h nl nb nc, Iv ξ h nl nb nc) := by
  refine c_sauce (fun v => r_sauce (fun w => ⟨rfl, _, _, _, _, I⟩) (fun j hj ej w => absurd (by rw [← I.sau.1]; exact w) v)) (fun j hj ej v => ?_)
  have e : (hs μ 8 (upd (μ 8) j (μ 8 j + b))) 56 = μ 8 := by
    rw [hs_n (by decide)]
    exact I.sau.1
  refine r_sauce (fun w => absurd (by rw [e]; exact v) w) (fun i hi ei w => ?_)
  have : i = j := nI_inj2 (by omega) (by omega) (ei.symm.trans ej)
  subst this
  rw [e]
  refine ⟨rfl, h, nl, nb, nc, ?_⟩
  have v2 : ∃ y, y ≤ 100000 ∧ μ 8 i + b = nI y := by
    obtain ⟨⟨k, hk, ek, v1⟩, v2, v3⟩ := v
    have : i = k := nI_inj2 (by omega) (by omega) (ei.symm.trans ek)
    subst this
    obtain ⟨x, hx, ex⟩ := I.sau.2 i hi
    rw [i_le] at v1 v2 v3
    rw [i_1] at v2
    rw [show (10000 : Int32).toInt = 10000 by decide] at v3
    have eb : (μ 8 i + b).toInt = x + b.toInt := by
      rw [ex, i_add (by rw [i_nI (by omega)]; omega) (by rw [i_nI (by omega)]; omega), i_nI (by omega)]
    rw [eb, show (100000 : Int32).toInt = 100000 by decide] at v1
    refine ⟨(μ 8 i + b).toInt.toNat, by omega, i_of (by omega)⟩
  refine ⟨?_, ?_, ?_, ?_, ?_, ?_, ?_, ?_, ?_, ?_, ?_, ?_, ?_, ?_, ?_, ?_, ?_, ?_, ?_, ?_, ?_⟩ <;> (try simp only [hs_s, hs_n, ne_eq, Nat.reduceEqDiff, not_false_eq_true, upd_s, upd_n])
  · exact I.now
  · exact I.ice
  · exact I.pck
  · exact I.mea
  · exact I.coi
  · exact I.fin
  · refine ⟨by trivial, fun s hs => ?_⟩
    by_cases e : s = i
    · subst e
      rw [upd_s]
      exact v2
    · rw [upd_n e]
      exact I.sau.2 s hs
  · exact I.lot
  · exact I.lrw
  · exact I.lin
  · exact I.knd
  · exact I.crw
  · exact I.coo
  · exact I.bnr
  · exact I.brw
  · exact I.bin
  · exact I.bkg
  · exact I.cnr
  · exact I.crr
  · exact I.cin
  · exact JP_of (by simp only [hs_n, ne_eq, Nat.reduceEqDiff, not_false_eq_true]) (by simp only [hs_n, ne_eq, Nat.reduceEqDiff, not_false_eq_true]) (by simp only [hs_n, ne_eq, Nat.reduceEqDiff, not_false_eq_true]) (by simp only [hs_n, ne_eq, Nat.reduceEqDiff, not_false_eq_true]) (by simp only [hs_n, ne_eq, Nat.reduceEqDiff, not_false_eq_true]) (by simp only [hs_n, ne_eq, Nat.reduceEqDiff, not_false_eq_true]) (by simp only [hs_n, ne_eq, Nat.reduceEqDiff, not_false_eq_true]) (by simp only [hs_n, ne_eq, Nat.reduceEqDiff, not_false_eq_true]) (by simp only [hs_n, ne_eq, Nat.reduceEqDiff, not_false_eq_true]) (by simp only [hs_n, ne_eq, Nat.reduceEqDiff, not_false_eq_true]) (by simp only [hs_n, ne_eq, Nat.reduceEqDiff, not_false_eq_true]) I.pla
end SC
