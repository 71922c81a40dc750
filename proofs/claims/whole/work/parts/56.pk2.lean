/-! pack, both -/
section PK2
variable {μ : mm_M} {h nl nb nc : Nat}
theorem VPm_pk {n c k s n' c' k' s' : Nat} {x x' : Int32} : VPm (pkM μ n c k s x) n' c' k' s' x' ↔ VPm μ n' c' k' s' x' := by
  unfold VPm cdB pkM
  simp only [hs_n, ne_eq, Nat.reduceEqDiff, not_false_eq_true]
theorem pmS_pk {n c k s n' c' k' : Nat} {x : Int32} : pmS (pkM μ n c k s x) n' c' k' = pmS μ n' c' k' := by
  unfold pmS pmF cdB pkM
  simp only [hs_s, hs_n, ne_eq, Nat.reduceEqDiff, not_false_eq_true]
theorem pmF_pk {n c k s n' k' : Nat} {x : Int32} : pmF (pkM μ n c k s x) n' k' = pmF μ n' k' := by
  unfold pmF cdB pkM
  simp only [hs_s, hs_n, ne_eq, Nat.reduceEqDiff, not_false_eq_true]
theorem b_pack {a b x : Int32} (I : Iv μ h nl nb nc) : Both 47 87 [.int a, .int b, .int x] μ (fun ξ => ∃ h nl nb nc, Iv ξ h nl nb nc) := by
  have hn := I.lot.2.2
  have hh := I.now.2.2
  have ho : ∀ i, i < nl → ∃ j, j < 60 ∧ μ 14 i = nI j := fun i hi => by
    obtain ⟨o, h1, h2⟩ := I.lin.2.2.2.2.2
    exact ⟨o i, by have := h2.1 i hi; omega, h1 i hi⟩
  have hsk : ∀ k, k < 4 → ∃ s, s < 2 ∧ μ 17 k = nI s := fun k hk => (I.kdn hk).1
  have hsm : ∀ k, k < 4 → ∃ s, s < 2 ∧ μ 54 k / 100 - μ 54 k / 100 / 10 * 10 = nI s := fun k hk => by
    rw [← (I.kds hk).2.1]
    exact hsk k hk
  refine c_pack I.lot.1 hn ho hsk (fun v => r_pack I.lot.2.1 hn hsm (fun w => ⟨rfl, _, _, _, _, I⟩) (fun c k s hc hk hs2 ec ek es w => absurd ((VP_iff I hc hk hs2).mpr w) (v c k s hc hk hs2 ec ek ((I.kds hk).2.1.trans es)))) (fun c k s hc hk hs2 ec ek es v => ?_)
  have hN : pkM μ nl c k s x 48 1 = nI nl := by
    unfold pkM
    simp only [hs_n, ne_eq, Nat.reduceEqDiff, not_false_eq_true]
    exact I.lot.2.1
  have ekk : pkM μ nl c k s x 54 = μ 54 := by
    unfold pkM
    simp only [hs_n, ne_eq, Nat.reduceEqDiff, not_false_eq_true]
  have elf : pkM μ nl c k s x 50 = μ 50 := by
    unfold pkM
    simp only [hs_n, ne_eq, Nat.reduceEqDiff, not_false_eq_true]
  have eco : pkM μ nl c k s x 61 = μ 61 := by
    unfold pkM
    simp only [hs_n, ne_eq, Nat.reduceEqDiff, not_false_eq_true]
  refine r_pack hN hn (by rw [ekk]; exact hsm) (fun w => absurd (VPm_pk.mpr ((VP_iff I hc hk hs2).mp v)) (w c k s hc hk hs2 ec ek (by rw [ekk, ← (I.kds hk).2.1]; exact es))) (fun c' k' s' hc' hk' hs2' ec' ek' es' w => ?_)
  have q1 : c' = c := nI_inj2 (by omega) (by omega) (ec'.symm.trans ec)
  have q2 : k' = k := nI_inj2 (by omega) (by omega) (ek'.symm.trans ek)
  subst q1
  subst q2
  have q3 : s' = s := by
    rw [ekk, ← (I.kds hk).2.1, es] at es'
    exact nI_inj2 (by omega) (by omega) es'.symm
  subst q3
  rw [pmS_pk, pmF_pk, ekk, elf, eco]
  obtain ⟨k1, k2, k3, k4⟩ := I.kds hk
  obtain ⟨l1, l2, l3, l4, l5⟩ := I.lrw
  obtain ⟨a1, a2, a3, a4, a5, a6⟩ := I.lin
  obtain ⟨v1, v2, v3, v4, v5, v6, v7⟩ := v
  obtain ⟨⟨f, f1, f2, ef⟩, ⟨hr, r1, r2, ehr⟩, -⟩ := (I.kdn hk).2 v2
  obtain ⟨y, y1, y2, ey⟩ := i_rg (a := 1) (b := 50) v3.1 v3.2 (by decide) (by decide)
  have yf : y * f ≤ 50 * 9 := Nat.mul_le_mul y2 f2
  have ekg : x * μ 18 k' = nI (y * f) := by rw [ey, ef, i_mulN]
  have hl0 : ∀ j, j < nl → 0 ≤ (μ 10 j).toInt := fun j hj => by
    obtain ⟨z, hz, ez⟩ := a2 j hj
    rw [ez, i_nI (by omega)]
    omega
  rw [← k3]
  have hcd : ∀ (lf : Nat → Int32) j, cdB (hs μ 50 lf) k' j = true ↔ (frB (μ 11) (μ 12) (nI h) j = true ∧ ¬ lf j ≤ 0 ∧ usB (μ 13) (μ 9) (μ 16 k') j = true) := fun lf j => by
    unfold cdB fmB
    simp only [hs_s, hs_n, ne_eq, Nat.reduceEqDiff, not_false_eq_true]
    rw [l1, l3, l4, l5, I.now.2.1, ← k1, Bool.and_eq_true, Bool.and_eq_true, decide_eq_true_eq, and_assoc]
  have kg0 : 0 ≤ (x * μ 18 k').toInt := by
    rw [ekg, i_nI (by omega)]
    omega
  obtain ⟨N, t1, t2, t3⟩ := tk_pm (ca := μ 11) (od := μ 14) (re := μ 13) (sz := μ 9) (lf := μ 10) (rw := rw0 (μ 61) c' 60) (t := μ 16 k') (x := x * μ 18 k') (cd := fun lf => cdB (hs μ 50 lf) k') (fr := fun j => frB (μ 11) (μ 12) (nI h) j) (f0 := c' * 60) hn a6 hcd (fun j hj => ⟨hl0 j hj, a4 j hj⟩) (fun j hj => rw0_z (by omega)) kg0 (by rw [i_lt] at v6; omega)
  have em : pmS μ nl c' k' = pmG (μ 11) (fun lf => cdB (hs μ 50 lf) k') nl (c' * 60) := by
    rw [pmG_ok, l3]
  have ef2 : ∀ lf, pmF μ nl k' lf = fo (fiS (μ 11) (cdB (hs μ 50 lf) k')) nl (-1) := fun lf => by
    unfold pmF
    rw [l3]
  refine ⟨N, ?_, ?_, ?_⟩
  · rw [em, l2]
    exact t2
  · intro i hi
    rw [em, l2, ef2]
    exact t3 i hi
  · rw [em, l2, t1]
    have R := tk_row (od := μ 14) (re := μ 13) (sz := μ 9) (lf := μ 10) (rw := μ 27) (rw' := rw0 (μ 61) c' 60) (t := μ 16 k') (x := x * μ 18 k') (f0 := c' * 60) nl
    rw [t1] at t2
    have fz : ∀ l, l < 60 → μ 27 (c' * 60 + l) = 0 := by
      rcases (I.coo c' hc).2 with ⟨-, -, -, -, z⟩ | ⟨q, hq, z, -⟩
      · exact z
      · rw [v1] at z
        rw [i_eq, i_m1, i_nI (by omega)] at z
        omega
    obtain ⟨o, hod, hS⟩ := a6
    have J := TkJ_all (re := μ 13) (sz := μ 9) (t := μ 16 k') hn hod hS hl0 fz kg0 nl (Nat.le_refl nl)
    have J2 := TkJ_all (re := μ 13) (sz := μ 9) (t := μ 16 k') hn hod hS hl0 (fun l hl => rw0_z (f := μ 61) (c := c') hl) kg0 nl (Nat.le_refl nl)
    unfold pkM pnM
    simp only [hs_n, ne_eq, Nat.reduceEqDiff, not_false_eq_true]
    rw [← k3] at *
    revert R J J2 t2
    generalize fo (tkS (μ 14) (μ 13) (μ 9) (μ 16 k') (c' * 60)) nl (x * μ 18 k', μ 10, μ 27) = A
    generalize fo (tkS (μ 14) (μ 13) (μ 9) (μ 16 k') (c' * 60)) nl (x * μ 18 k', μ 10, rw0 (μ 61) c' 60) = B
    rintro t2 ⟨R1, R2, R3⟩ ⟨⟨J1, -⟩, J2, -, J4, J5, J6⟩ ⟨-, -, -, -, K5, -⟩
    have A0 : A.1 = 0 := by
      rw [← R1, i_le, i_0] at t2
      rw [i_eq, i_0]
      omega
    rw [A0, Int32.zero_add] at J6
    have rowc : ∀ l, l < 60 → A.2.2 (c' * 60 + l) = B.2.2 (c' * 60 + l) := fun l hl => R3 _ (by rw [fz l hl, rw0_z hl])
    have rown : ∀ c, c ≠ c' → ∀ l, l < 60 → A.2.2 (c * 60 + l) = μ 27 (c * 60 + l) := fun c e l hl => J5 _ (fun j hj => by omega)
    have rowm : ∀ c, c ≠ c' → ∀ l, l < 60 → B.2.2 (c * 60 + l) = μ 61 (c * 60 + l) := fun c e l hl => by
      rw [K5 _ (fun j hj => by omega), rw0_n e hl]
    rw [← R2]
    obtain ⟨r, hr3, er⟩ := p_n (thB (μ 21) (μ 22) (μ 0 8))
    have pk := I.pck
    have pe := i_of pk.2.1
    have p3 := pk.2.2
    rw [er, ekg] at v7
    obtain ⟨m, hm, em⟩ := I.sau.2 s' hs2
    have pkk : μ 0 10 + nI (y * f) = nI ((μ 0 10).toInt.toNat + y * f) ∧ (μ 0 10).toInt.toNat + y * f ≤ 300 := by
      generalize ep : (μ 0 10).toInt.toNat = p at pe
      rw [pe, i_nI (by omega)] at p3
      refine ⟨by rw [pe, i_addN], ?_⟩
      rw [pe, show (100 : Int32) = nI 100 from rfl, i_mulN, i_lt, i_sub (by rw [i_nI (by omega), i_nI (by omega)]; omega) (by rw [i_nI (by omega), i_nI (by omega)]; omega), i_nI (by omega), i_nI (by omega), i_nI (by omega)] at v7
      omega
    refine ⟨by trivial, h, nl, nb, nc, ?_⟩
    refine ⟨?_, ?_, ?_, ?_, ?_, ?_, ?_, ?_, ?_, ?_, ?_, ?_, ?_, ?_, ?_, ?_, ?_, ?_, ?_, ?_, ?_⟩ <;> (try simp only [hs_s, hs_n, ne_eq, Nat.reduceEqDiff, not_false_eq_true, upd_s, upd_n])
    · exact I.now
    · exact I.ice
    · rw [I.pck.1, ekg, pkk.1, i_nI (by omega)]
      exact ⟨rfl, by omega, by omega⟩
    · exact I.mea
    · exact I.coi
    · exact I.fin
    · rw [I.sau.1]
      refine ⟨rfl, fun t ht => ?_⟩
      by_cases e : t = s'
      · subst e
        rw [upd_s, em, ey]
        rw [em, ey, i_lt, i_nI (by omega), i_nI (by omega)] at v5
        rw [sub_nI (by omega)]
        exact ⟨_, by omega, rfl⟩
      · rw [upd_n e]
        exact I.sau.2 t ht
    · exact I.lot
    · exact ⟨l1, by trivial, l3, l4, l5⟩
    · refine ⟨a1, fun j hj => ?_, a3, fun j hj w => ?_, a5, ⟨o, hod, hS⟩⟩
      · obtain ⟨z, hz, ez⟩ := a2 j hj
        have := J2 j hj
        rw [ez, i_nI (by omega)] at this
        exact ⟨(A.2.1 j).toInt.toNat, by omega, i_of (by omega)⟩
      · have := J2 j hj
        rw [a4 j hj w, i_0] at this
        rw [i_eq, i_0]
        omega
    · exact I.knd
    · exact I.crw
    · intro c hc2
      by_cases e : c = c'
      · subst e
        refine ⟨by rw [upd_s, upd_s], Or.inr ⟨k', hk, upd_s, v2, by rw [upd_s, upd_s], ?_, ⟨y, y1, y2, by rw [upd_s]; exact ey⟩, ⟨h + hr, by omega, by omega, ?_⟩, ?_, fun l hl => ⟨(rowc l hl).symm, ?_, fun w => ?_⟩⟩⟩
        · rw [upd_s, upd_s, I.now.1, I.now.2.1, k4]
        · rw [upd_s, I.now.1, ehr, i_addN]
        · rw [upd_s]
          exact J6.symm
        · by_cases g : l < nl
          · exact J4 l g
          · rw [J5 _ (fun j hj => by omega), fz l hl, i_0]
            omega
        · rw [J5 _ (fun j hj => by omega), fz l hl]
      · exact JC_ext (I.coo c hc2) (upd_n e) (upd_n e) (upd_n e) (upd_n e) (rown c e) (upd_n e) (upd_n e) (upd_n e) (rowm c e)
    · refine ⟨I.bnr.1, I.bnr.2.1, ?_, I.bnr.2.2.2⟩
      rw [ch_upd hc, v1, if_pos rfl, if_neg (fun z => by rw [i_eq, i_m1, i_nI (by omega)] at z; omega)]
      obtain ⟨r, hr, er⟩ := ch_n (μ 23)
      have hb := I.bnr.2.2.2
      rw [I.bnr.1, er, Int32.not_le, i_addN, i_lt, i_nI (by omega), show (100 : Int32).toInt = 100 by decide] at v4
      rw [er, Int32.sub_zero, show (1 : Int32) = nI 1 from rfl, i_addN, i_addN, i_nI (by omega)]
      omega
    · exact I.brw
    · exact I.bin
    · exact I.bkg
    · exact I.cnr
    · exact I.crr
    · exact I.cin
    · exact JP_of (by simp only [hs_n, ne_eq, Nat.reduceEqDiff, not_false_eq_true]) (by simp only [hs_n, ne_eq, Nat.reduceEqDiff, not_false_eq_true]) (by simp only [hs_n, ne_eq, Nat.reduceEqDiff, not_false_eq_true]) (by simp only [hs_n, ne_eq, Nat.reduceEqDiff, not_false_eq_true]) (by simp only [hs_n, ne_eq, Nat.reduceEqDiff, not_false_eq_true]) (by simp only [hs_n, ne_eq, Nat.reduceEqDiff, not_false_eq_true]) (by simp only [hs_n, ne_eq, Nat.reduceEqDiff, not_false_eq_true]) (by simp only [hs_n, ne_eq, Nat.reduceEqDiff, not_false_eq_true]) (by simp only [hs_n, ne_eq, Nat.reduceEqDiff, not_false_eq_true]) (by simp only [hs_n, ne_eq, Nat.reduceEqDiff, not_false_eq_true]) (by simp only [hs_n, ne_eq, Nat.reduceEqDiff, not_false_eq_true]) I.pla
end PK2
