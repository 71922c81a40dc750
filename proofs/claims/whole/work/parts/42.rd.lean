/-! the calls that only read -/
section RD
variable {μ : mm_M} {h nl nb nc : Nat}
theorem b_lot {x w : Int32} (I : Iv μ h nl nb nc) : Both 56 103 [.int x, .int w] μ (fun ξ => ∃ h nl nb nc, Iv ξ h nl nb nc) := by
  have hn := I.lot.2.2
  refine c_lot I.lot.1 hn (fun e => r_lot I.lot.2.1 hn (fun _ => ⟨rfl, _, _, _, _, I⟩) (fun j hj ej => absurd ej (e j hj))) (fun j hj e => r_lot I.lot.2.1 hn (fun e2 => absurd e (e2 j hj)) (fun i hi ei => ⟨?_, _, _, _, _, I⟩))
  have : i = j := nI_inj2 (by omega) (by omega) (ei.symm.trans e)
  subst this
  rw [I.lrw.1, I.lrw.2.1, I.lrw.2.2.1, I.lrw.2.2.2.1, I.lrw.2.2.2.2]
theorem b_of {x y : Int32} (I : Iv μ h nl nb nc) : Both 58 105 [.int x, .int y] μ (fun ξ => ∃ h nl nb nc, Iv ξ h nl nb nc) := by
  have hn := I.lot.2.2
  have hb := I.bnr.2.2.2
  refine c_of I.lot.1 hn I.bnr.1 hb (fun e => r_of I.lot.2.1 hn I.bnr.2.1 hb (fun _ => ⟨rfl, _, _, _, _, I⟩) (fun b j h1 h2 h3 h4 => absurd h4 (e b j h1 h2 h3))) (fun b j h1 h2 h3 h4 => r_of I.lot.2.1 hn I.bnr.2.1 hb (fun e2 => absurd h4 (e2 b j h1 h2 h3)) (fun b' j' g1 g2 g3 g4 => ⟨?_, _, _, _, _, I⟩))
  have e1 : b' = b := nI_inj2 (by omega) (by omega) (g3.symm.trans h3)
  have e2 : j' = j := nI_inj2 (by omega) (by omega) (g4.symm.trans h4)
  subst e1
  subst e2
  rw [I.brw.2.2.2.2.2.2]
theorem b_told {x w : Int32} (I : Iv μ h nl nb nc) : Both 60 107 [.int x, .int w] μ (fun ξ => ∃ h nl nb nc, Iv ξ h nl nb nc) := by
  have hn := I.cnr.2.2
  refine c_told I.cnr.1 hn (fun e => r_told I.cnr.2.1 hn (fun _ => ⟨rfl, _, _, _, _, I⟩) (fun j hj ej => absurd ej (e j hj))) (fun j hj e => r_told I.cnr.2.1 hn (fun e2 => absurd e (e2 j hj)) (fun i hi ei => ⟨?_, _, _, _, _, I⟩))
  have : i = j := nI_inj2 (by omega) (by omega) (ei.symm.trans e)
  subst this
  rw [I.crr.1, I.crr.2.1, I.crr.2.2.1, I.crr.2.2.2.1, I.crr.2.2.2.2.1, I.crr.2.2.2.2.2]
theorem b_cooker {x w : Int32} (I : Iv μ h nl nb nc) : Both 59 106 [.int x, .int w] μ (fun ξ => ∃ h nl nb nc, Iv ξ h nl nb nc) := by
  refine c_cooker (fun e => r_cooker (fun _ => ⟨rfl, _, _, _, _, I⟩) (fun j hj ej => absurd ej (e j hj))) (fun j hj e => r_cooker (fun e2 => absurd e (e2 j hj)) (fun i hi ei => ⟨?_, _, _, _, _, I⟩))
  have : i = j := nI_inj2 (by omega) (by omega) (ei.symm.trans e)
  subst this
  obtain ⟨h1, h2⟩ := I.coo i hi
  rcases h2 with ⟨a, b, c, d, -⟩ | ⟨k, hk, a, hkn, b, c, -⟩
  · rw [h1, if_pos a, if_pos a, b, c]
  · have ne : ¬ μ 23 i = -1 := by
      rw [a, i_eq, i_nI (by omega), i_m1]
      omega
    rw [h1, if_neg ne, if_neg ne, b, c]
end RD
