/-! the calls that only read: batch, count, lacks -/
section RD2
variable {μ : mm_M} {h nl nb nc : Nat}
theorem Iv.pr (I : Iv μ h nl nb nc) {k : Nat} (hk : k < 4) : μ 55 k = μ 20 k := by
  rcases I.knd k hk with ⟨-, -, -, -, -, a, -, b⟩ | ⟨-, -, -, -, -, -, -, b⟩
  · rw [a, b]
  · exact b
theorem b_batch {x w : Int32} (I : Iv μ h nl nb nc) : Both 57 104 [.int x, .int w] μ (fun ξ => ∃ h nl nb nc, Iv ξ h nl nb nc) := by
  have hn := I.bnr.2.2.2
  have hk1 : ∀ b, b < nb → ∃ k, k < 4 ∧ μ 28 b = nI k := fun b hb => by
    obtain ⟨k, h1, h2, -⟩ := (I.bin.1 b hb).1
    exact ⟨k, h1, h2⟩
  have hk2 : ∀ b, b < nb → ∃ k, k < 4 ∧ μ 62 b = nI k := by
    rw [I.brw.1]
    exact hk1
  refine c_batch I.bnr.1 hn hk1 (fun e => r_batch I.bnr.2.1 hn hk2 (fun _ => ⟨rfl, _, _, _, _, I⟩) (fun j k hj ej _ _ => absurd ej (e j hj))) (fun j k hj e hk ek => r_batch I.bnr.2.1 hn hk2 (fun e2 => absurd e (e2 j hj)) (fun i k' hi ei hk' ek' => ⟨?_, _, _, _, _, I⟩))
  have : i = j := nI_inj2 (by omega) (by omega) (ei.symm.trans e)
  subst this
  rw [I.brw.1, ek] at ek'
  have : k = k' := nI_inj2 (by omega) (by omega) ek'
  subst this
  rw [I.brw.1, I.brw.2.1, I.brw.2.2.1, I.brw.2.2.2.1, I.brw.2.2.2.2.1, I.pr hk, I.now.1, I.now.2.1]
theorem b_count {w : Int32} (I : Iv μ h nl nb nc) : Both 61 108 [.int w] μ (fun ξ => ∃ h nl nb nc, Iv ξ h nl nb nc) := by
  refine c_count I.lot.1 I.lot.2.2 (r_count I.lot.2.1 I.lot.2.2 I.bnr.2.1 I.bnr.2.2.2 ⟨?_, _, _, _, _, I⟩)
  have e1 : su (fun c => if μ 58 c = -1 then 0 else su (fun l => μ 61 (c * 60 + l)) 60) 3 = su (μ 26) 3 := su_congr (fun c hc => by
    obtain ⟨h1, h2⟩ := I.coo c hc
    show (if μ 58 c = -1 then 0 else su (fun l => μ 61 (c * 60 + l)) 60) = _
    rw [h1]
    rcases h2 with ⟨a, -, -, d, -⟩ | ⟨k, hk, a, -, -, -, -, -, d, f⟩
    · rw [if_pos a, d]
    · rw [if_neg (by rw [a, i_eq, i_nI (by omega), i_m1]; omega), d]
      exact su_congr (fun l hl => (f l hl).1))
  have e2 : su (fun j => if tmB (μ 57) (μ 48 0) j = true then 1 else 0) 3 = su (fun j => if thB (μ 21) (μ 22) (μ 0 8) j = true then 1 else 0) 3 := su_congr (fun j hj => by
    show (if tmB (μ 57) (μ 48 0) j = true then (1 : Int32) else 0) = if thB (μ 21) (μ 22) (μ 0 8) j = true then 1 else 0
    rw [I.now.1, I.now.2.1, th_iff I.now.2.2 (I.crw j hj)])
  rw [e1, e2, I.now.1, I.now.2.1, I.lot.1, I.lot.2.1, I.lrw.2.1, I.brw.2.2.2.2.2.2, I.bkg, I.mea, I.bnr.1, I.bnr.2.1, I.pck.1, I.coi, I.fin, I.ice, I.sau.1]
end RD2
