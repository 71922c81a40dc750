/-! lacks -/
section RD3
variable {μ : mm_M} {h nl nb nc : Nat}
/-- what is in stock is not below nothing -/
theorem stk_b {kd ba lf : Nat → Int32} {k : Int32} : ∀ n, n ≤ 100 → (∀ b, b < n → ∃ x, x ≤ 50 ∧ lf b = nI x) → 0 ≤ (stk kd ba lf k n).toInt ∧ (stk kd ba lf k n).toInt ≤ n * 50
  | 0, _, _ => ⟨(by decide : (0 : Int) ≤ (0 : Int32).toInt), (by decide : (0 : Int32).toInt ≤ ((0 : Nat) : Int) * 50)⟩
  | n + 1, hn, hl => by
    have ih := stk_b (kd := kd) (ba := ba) (k := k) n (by omega) (fun b hb => hl b (by omega))
    obtain ⟨x, hx, ex⟩ := hl n (by omega)
    have e : stk kd ba lf k (n + 1) = stk kd ba lf k n + (if fsB kd ba k n = true then lf n else 0) := rfl
    rw [e]
    by_cases c : fsB kd ba k n = true
    · rw [if_pos c, ex, i_add (by rw [i_nI (by omega)]; omega) (by rw [i_nI (by omega)]; omega), i_nI (by omega)]
      omega
    · rw [if_neg c, Int32.add_zero]
      omega
theorem b_lacks {x : Int32} (I : Iv μ h nl nb nc) : Both 54 101 [.int x] μ (fun ξ => ∃ h nl nb nc, Iv ξ h nl nb nc) := by
  have hn := I.cnr.2.2
  have hb := I.bnr.2.2.2
  have ho : ∀ i, i < nc → ∃ j, j < 20 ∧ μ 41 i = nI j := fun i hi => by
    obtain ⟨o, h1, h2⟩ := I.cin.2.2
    exact ⟨o i, by have := h2.1 i hi; omega, h1 i hi⟩
  have ov : μ 74 = μ 40 := I.crr.2.2.2.2.2
  refine c_lacks I.bnr.1 hb I.cnr.1 hn ho (fun e => r_lacks I.bnr.2.1 hb I.cnr.2.1 hn (fun _ => ⟨rfl, _, _, _, _, I⟩) (fun j hj ej z => absurd (by rw [← ov]; exact z) (e j hj ej))) (fun j hj e z => ?_)
  obtain ⟨q, q1, q2, q3, q4⟩ := lk_all (ov := μ 40) (kd := μ 36) (show nc ≤ 60 by omega) I.cin.2.2 hj (fun c hc => (I.cin.1 c hc).2.1)
  refine ⟨q, q1, q2, q3, fun r hr => r_lacks I.bnr.2.1 hb I.cnr.2.1 hn (fun e2 => absurd (by rw [ov]; exact z) (e2 j hj e)) (fun i hi ei _ T B w hT hB hw => ⟨?_, _, _, _, _, I⟩)⟩
  have : i = j := nI_inj2 (by omega) (by omega) (ei.symm.trans e)
  subst this
  rw [I.brw.1, I.brw.2.2.2.2.1, I.brw.2.1, I.crr.2.1] at hT
  rw [I.crr.2.2.2.1, ov, I.crr.2.1, I.crr.2.2.1, I.crr.2.2.2.2.1] at hB
  rw [I.crr.2.2.1, I.crr.2.2.2.2.1] at hw
  have tb := stk_b (kd := μ 28) (ba := μ 33) (k := μ 36 i) nb hb (fun b hb => (I.bin.1 b hb).2.1)
  rw [← hT] at tb hr
  have r0 : 0 ≤ r.toInt := by
    rw [hr]
    exact (q4 T tb.1 B hB).2
  rw [(q4 T tb.1 B hB).1] at hr
  have cb := (I.cin.1 i hi).2.1
  have wb : w.toInt = (μ 37 i).toInt - (μ 39 i).toInt := by
    rw [hw]
    exact i_sub (by omega) (by omega)
  rw [← hw, ← hr]
  have es : (w - r).toInt = w.toInt - r.toInt := by
    have := i_hi r
    exact i_sub (by omega) (by omega)
  by_cases c : w ≤ r
  · rw [if_pos c, if_neg (by rw [i_lt, i_0, es]; rw [i_le] at c; omega)]
  · rw [if_neg c, if_pos (by rw [i_lt, i_0, es]; rw [i_le] at c; omega)]
end RD3
