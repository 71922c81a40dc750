/-! plan, worth -/
section PLN
theorem uM_c {S S' n : Nat → Nat} {s : Nat} : ∀ j, (∀ k, k < j → S k = S' k) → uM S n s j = uM S' n s j
  | 0, _ => rfl
  | j + 1, h => by
    show uM S n s j + (if S j = s then n j else 0) = uM S' n s j + (if S' j = s then n j else 0)
    rw [uM_c j (fun k hk => h k (by omega)), h j (by omega)]
theorem uR_c {F F' T T' n : Nat → Nat} {a : Nat} : ∀ j, (∀ k, k < j → F k = F' k) → (∀ k, k < j → T k = T' k) → uR F T n a j = uR F' T' n a j
  | 0, _, _ => rfl
  | j + 1, h, g => by
    show uR F T n a j + (if sup a (T j) = true then n j * F j else 0) = uR F' T' n a j + (if sup a (T' j) = true then n j * F' j else 0)
    rw [uR_c j (fun k hk => h k (by omega)) (fun k hk => g k (by omega)), h j (by omega), g j (by omega)]
theorem wo_c {P P' n : Nat → Nat} : ∀ j, (∀ k, k < j → P k = P' k) → wo P n j = wo P' n j
  | 0, _ => rfl
  | j + 1, h => by
    show wo P n j + n j * P j = wo P' n j + n j * P' j
    rw [wo_c j (fun k hk => h k (by omega)), h j (by omega)]
theorem pf_c {F F' T T' S S' M R n : Nat → Nat} (hF : ∀ k, k < 4 → F k = F' k) (hT : ∀ k, k < 4 → T k = T' k) (hS : ∀ k, k < 4 → S k = S' k) (h : pf F T S M R 4 n) : pf F' T' S' M R 4 n :=
  ⟨fun k hk => ⟨(h.1 k hk).1, fun z => (h.1 k hk).2 ((hF k hk).trans z)⟩, fun s hs => by rw [← uM_c 4 hS]; exact h.2.1 s hs, fun a h1 h2 => by rw [← uR_c 4 hF hT]; exact h.2.2 a h1 h2⟩
theorem Opt_c {P P' F F' T T' S S' M R b : Nat → Nat} {w : Nat} (hP : ∀ k, k < 4 → P k = P' k) (hF : ∀ k, k < 4 → F k = F' k) (hT : ∀ k, k < 4 → T k = T' k) (hS : ∀ k, k < 4 → S k = S' k) (h : Opt P F T S M R b w) : Opt P' F' T' S' M R b w := by
  refine ⟨pf_c hF hT hS h.1, by rw [← wo_c 4 hP]; exact h.2.1, fun n hn => ?_⟩
  rw [← wo_c 4 hP]
  exact h.2.2 n (pf_c (fun k hk => (hF k hk).symm) (fun k hk => (hT k hk).symm) (fun k hk => (hS k hk).symm) hn)
variable {μ : mm_M} {h nl nb nc : Nat}
theorem Iv.kdm (I : Iv μ h nl nb nc) : ∃ P F T S, KD μ P F T S ∧ KM μ P F T S := by
  have key : ∀ k, k < 4 → (∃ P F T S : Nat, (μ 20 k = nI P ∧ μ 18 k = nI F ∧ μ 16 k = nI T ∧ μ 17 k = nI S) ∧ (P ≤ 99 ∧ F ≤ 9 ∧ T ≤ 7 ∧ S < 2) ∧ μ 55 k = nI P ∧ ((1 ≤ F ∧ 1 ≤ P ∧ 1 ≤ T) ∨ (F = 0 ∧ P = 0))) := fun k hk => by
    obtain ⟨⟨s, hs, es⟩, hd⟩ := I.kdn hk
    by_cases z : μ 15 k = 0
    · rcases I.knd k hk with ⟨-, a1, a2, a3, -, a5, -, a7⟩ | ⟨z1, -⟩
      · exact ⟨0, 0, 0, 0, ⟨a5, a3, a1, a2⟩, by omega, a7, Or.inr ⟨rfl, rfl⟩⟩
      · rw [z1] at z
        exact absurd z (by decide)
    · obtain ⟨⟨f, f1, f2, ef⟩, -, ⟨t, t1, t2, et⟩, p, p1, p2, ep⟩ := hd z
      rcases I.knd k hk with ⟨z1, -⟩ | ⟨-, -, -, -, -, -, -, a7⟩
      · exact absurd z1 z
      · exact ⟨p, f, t, s, ⟨ep, ef, et, es⟩, by omega, a7.trans ep, Or.inl (by omega)⟩
  have tn : ∀ {x : Int32} {n : Nat}, n < 2147483648 → x = nI n → x.toInt.toNat = n := fun hn e => by
    rw [e, i_nI hn]
    exact Int.toNat_natCast _
  refine ⟨fun k => (μ 20 k).toInt.toNat, fun k => (μ 18 k).toInt.toNat, fun k => (μ 16 k).toInt.toNat, fun k => (μ 17 k).toInt.toNat, fun k hk => ?_, fun k hk => ?_⟩
  · obtain ⟨P, F, T, S, ⟨e1, e2, e3, e4⟩, b, -, c⟩ := key k hk
    simp only [tn (show P < 2147483648 by omega) e1, tn (show F < 2147483648 by omega) e2, tn (show T < 2147483648 by omega) e3, tn (show S < 2147483648 by omega) e4]
    exact ⟨e1, e2, e3, e4, b.1, b.2.1, b.2.2.1, b.2.2.2, by omega⟩
  · obtain ⟨P, F, T, S, ⟨e1, e2, e3, e4⟩, b, m, c⟩ := key k hk
    obtain ⟨k1, k2, k3, k4⟩ := I.kds hk
    unfold fsh at k3
    simp only [tn (show P < 2147483648 by omega) e1, tn (show F < 2147483648 by omega) e2, tn (show T < 2147483648 by omega) e3, tn (show S < 2147483648 by omega) e4]
    exact ⟨m, k1.symm.trans e3, k2.symm.trans e4, k3.symm.trans e2, b.1, b.2.1, b.2.2.1, b.2.2.2, by omega⟩
theorem su_bd {g : Nat → Int32} : ∀ n, n ≤ 60 → (∀ j, j < n → ∃ f, f ≤ 5000 ∧ g j = nI f) → ∃ z, z ≤ n * 5000 ∧ su g n = nI z
  | 0, _, _ => ⟨0, by omega, rfl⟩
  | n + 1, hn, hg => by
    obtain ⟨z, hz, ez⟩ := su_bd n (by omega) (fun j hj => hg j (by omega))
    obtain ⟨f, hf, ef⟩ := hg n (by omega)
    refine ⟨z + f, by omega, ?_⟩
    show su g n + g n = _
    rw [ez, ef, i_addN]
theorem Iv.zs (I : Iv μ h nl nb nc) : ∃ Z : Nat → Nat, (∀ z, z < 3 → uzI μ nl z = nI (Z z) ∧ Z z ≤ 300000) ∧ ∀ z, z < 3 → skI μ nl z = nI (Z z) ∧ Z z ≤ 300000 := by
  have hn := I.lot.2.2
  obtain ⟨a1, a2, a3, a4, a5, a6⟩ := I.lin
  obtain ⟨l1, l2, l3, l4, l5⟩ := I.lrw
  have key : ∀ z, uzI μ nl z = nI (uzI μ nl z).toInt.toNat ∧ (uzI μ nl z).toInt.toNat ≤ 300000 := fun z => by
    obtain ⟨y, hy, ey⟩ := su_bd (g := fun j => if usB (μ 13) (μ 9) (1 <<< (nI z &&& 31)) j = true then μ 10 j else 0) nl hn (fun j hj => by
      by_cases u : usB (μ 13) (μ 9) (1 <<< (nI z &&& 31)) j = true
      · simp only [if_pos u]
        exact a2 j hj
      · simp only [if_neg u]
        exact ⟨0, by omega, rfl⟩)
    have e : uzI μ nl z = nI y := ey
    rw [e, i_nI (by omega), Int.toNat_natCast]
    exact ⟨rfl, by omega⟩
  refine ⟨fun z => (uzI μ nl z).toInt.toNat, fun z _ => key z, fun z hz => ?_⟩
  have e : skI μ nl z = uzI μ nl z := by
    unfold skI uzI
    rw [l1, l2, l3, l4, l5, I.now.2.1]
    exact (uz_sk hz a1 (fun j hj => by obtain ⟨f, hf, ef⟩ := a2 j hj; rw [ef, i_nI (by omega)]; omega) a4).symm
  rw [e]
  exact key z
theorem Iv_of {ξ : mm_M} (I : Iv μ h nl nb nc) (H : ∀ c, c ≠ 7 → (c < 42 ∨ 47 < c) → c ≠ 48 → (c < 75 ∨ 77 < c) → ξ c = μ c) (H2 : ∀ i, i ≠ 38 → ξ 48 i = μ 48 i) (hP : JP ξ) : Iv ξ h nl nb nc := by
  refine ⟨?_, ?_, ?_, ?_, ?_, ?_, ?_, ?_, ?_, ?_, ?_, ?_, ?_, ?_, ?_, ?_, ?_, ?_, ?_, ?_, hP⟩ <;> simp only [H 0 (by decide) (by decide) (by decide) (by decide), H 1 (by decide) (by decide) (by decide) (by decide), H 2 (by decide) (by decide) (by decide) (by decide), H 3 (by decide) (by decide) (by decide) (by decide), H 4 (by decide) (by decide) (by decide) (by decide), H 5 (by decide) (by decide) (by decide) (by decide), H 6 (by decide) (by decide) (by decide) (by decide), H 8 (by decide) (by decide) (by decide) (by decide), H 9 (by decide) (by decide) (by decide) (by decide), H 10 (by decide) (by decide) (by decide) (by decide), H 11 (by decide) (by decide) (by decide) (by decide), H 12 (by decide) (by decide) (by decide) (by decide), H 13 (by decide) (by decide) (by decide) (by decide), H 14 (by decide) (by decide) (by decide) (by decide), H 15 (by decide) (by decide) (by decide) (by decide), H 16 (by decide) (by decide) (by decide) (by decide), H 17 (by decide) (by decide) (by decide) (by decide), H 18 (by decide) (by decide) (by decide) (by decide), H 19 (by decide) (by decide) (by decide) (by decide), H 20 (by decide) (by decide) (by decide) (by decide), H 21 (by decide) (by decide) (by decide) (by decide), H 22 (by decide) (by decide) (by decide) (by decide), H 23 (by decide) (by decide) (by decide) (by decide), H 24 (by decide) (by decide) (by decide) (by decide), H 25 (by decide) (by decide) (by decide) (by decide), H 26 (by decide) (by decide) (by decide) (by decide), H 27 (by decide) (by decide) (by decide) (by decide), H 28 (by decide) (by decide) (by decide) (by decide), H 29 (by decide) (by decide) (by decide) (by decide), H 30 (by decide) (by decide) (by decide) (by decide), H 31 (by decide) (by decide) (by decide) (by decide), H 32 (by decide) (by decide) (by decide) (by decide), H 33 (by decide) (by decide) (by decide) (by decide), H 34 (by decide) (by decide) (by decide) (by decide), H 35 (by decide) (by decide) (by decide) (by decide), H 36 (by decide) (by decide) (by decide) (by decide), H 37 (by decide) (by decide) (by decide) (by decide), H 38 (by decide) (by decide) (by decide) (by decide), H 39 (by decide) (by decide) (by decide) (by decide), H 40 (by decide) (by decide) (by decide) (by decide), H 41 (by decide) (by decide) (by decide) (by decide), H 49 (by decide) (by decide) (by decide) (by decide), H 50 (by decide) (by decide) (by decide) (by decide), H 51 (by decide) (by decide) (by decide) (by decide), H 52 (by decide) (by decide) (by decide) (by decide), H 53 (by decide) (by decide) (by decide) (by decide), H 54 (by decide) (by decide) (by decide) (by decide), H 55 (by decide) (by decide) (by decide) (by decide), H 56 (by decide) (by decide) (by decide) (by decide), H 57 (by decide) (by decide) (by decide) (by decide), H 58 (by decide) (by decide) (by decide) (by decide), H 59 (by decide) (by decide) (by decide) (by decide), H 60 (by decide) (by decide) (by decide) (by decide), H 61 (by decide) (by decide) (by decide) (by decide), H 62 (by decide) (by decide) (by decide) (by decide), H 63 (by decide) (by decide) (by decide) (by decide), H 64 (by decide) (by decide) (by decide) (by decide), H 65 (by decide) (by decide) (by decide) (by decide), H 66 (by decide) (by decide) (by decide) (by decide), H 67 (by decide) (by decide) (by decide) (by decide), H 68 (by decide) (by decide) (by decide) (by decide), H 69 (by decide) (by decide) (by decide) (by decide), H 70 (by decide) (by decide) (by decide) (by decide), H 71 (by decide) (by decide) (by decide) (by decide), H 72 (by decide) (by decide) (by decide) (by decide), H 73 (by decide) (by decide) (by decide) (by decide), H 74 (by decide) (by decide) (by decide) (by decide), H2, ne_eq, Nat.reduceEqDiff, not_false_eq_true]
  · exact I.now
  · exact I.ice
  · exact I.pck
  · exact I.mea
  · exact I.coi
  · exact I.fin
  · exact I.sau
  · exact I.lot
  · exact I.lrw
  · exact I.lin
  · exact I.knd
  · exact I.crw
  · exact I.coo
  · exact I.bnr
  · exact I.brw
  · exact I.bin
  · exact I.bkg
  · exact I.cnr
  · exact I.crr
  · exact I.cin
theorem JP_pl {ν ξ : mm_M} {P F T S M Z : Nat → Nat} (I : Iv μ h nl nb nc) (hK : KD μ P F T S) (hS : SZ ν M Z) (h4 : ν 45 4 = 0) (hO : Ob ν P F T S M Z) (hkn : ν 7 6 = μ 2 6) (hl : Pl μ ν) (hx : ∀ c, c < 48 → ξ c = ν c) : JP ξ := by
  have lo : ∀ c, c ≠ 7 → c < 42 → ξ c = μ c := fun c h1 h2 => (hx c (by omega)).trans (hl c h1 (Or.inl h2))
  obtain ⟨p1, ⟨x, y, hx1, hy, p2, p3, p4⟩, p5⟩ := I.pla
  refine ⟨by rw [hx _ (by decide)]; exact h4, ⟨y, y, Nat.le_refl y, hy, ?_, ?_, ?_⟩, fun _ P' F' T' S' M' Z' hK' hS' => ?_⟩
  · rw [hx _ (by decide), hkn]
    exact p3
  · rw [lo _ (by decide) (by decide)]
    exact p3
  · rw [lo _ (by decide) (by decide), lo _ (by decide) (by decide)]
    exact p4
  · have hS2 : SZ ν M' Z' := by
      unfold SZ at hS' ⊢
      rw [hx _ (by decide), hx _ (by decide)] at hS'
      exact hS'
    have hK2 : KD μ P' F' T' S' := by
      unfold KD at hK' ⊢
      rw [lo _ (by decide) (by decide), lo _ (by decide) (by decide), lo _ (by decide) (by decide), lo _ (by decide) (by decide)] at hK'
      exact hK'
    obtain ⟨uM, uZ⟩ := SZ_u hS hS2
    obtain ⟨b, w, o1, o2, o3, o4⟩ := Ob_congr uM uZ hO
    refine ⟨b, w, Opt_c ?_ ?_ ?_ ?_ o1, ?_, ?_, o4⟩
    · intro k hk
      have q := hK k hk
      have r := hK2 k hk
      exact nI_inj2 (by omega) (by omega) (q.1.symm.trans r.1)
    · intro k hk
      have q := hK k hk
      have r := hK2 k hk
      exact nI_inj2 (by omega) (by omega) (q.2.1.symm.trans r.2.1)
    · intro k hk
      have q := hK k hk
      have r := hK2 k hk
      exact nI_inj2 (by omega) (by omega) (q.2.2.1.symm.trans r.2.2.1)
    · intro k hk
      have q := hK k hk
      have r := hK2 k hk
      exact nI_inj2 (by omega) (by omega) (q.2.2.2.1.symm.trans r.2.2.2.1)
    · rw [hx _ (by decide)]
      exact o2
    · rw [hx _ (by decide)]
      exact o3
theorem Iv.ms (I : Iv μ h nl nb nc) : ∃ M : Nat → Nat, (∀ s, s < 2 → μ 8 s = nI (M s) ∧ M s ≤ 1000000) ∧ ∀ s, s < 2 → μ 56 s = nI (M s) ∧ M s ≤ 1000000 := by
  have key : ∀ s, s < 2 → μ 8 s = nI (μ 8 s).toInt.toNat ∧ (μ 8 s).toInt.toNat ≤ 1000000 := fun s hs => by
    obtain ⟨x, hx, ex⟩ := I.sau.2 s hs
    rw [ex, i_nI (by omega), Int.toNat_natCast]
    exact ⟨rfl, by omega⟩
  refine ⟨fun s => (μ 8 s).toInt.toNat, key, fun s hs => ?_⟩
  rw [I.sau.1]
  exact key s hs
theorem KM_pl {ν : mm_M} {P F T S : Nat → Nat} (hl : Pl μ ν) (h : KM μ P F T S) : KM ν P F T S := by
  unfold KM at h ⊢
  rw [hl _ (by decide) (by decide), hl _ (by decide) (by decide)]
  exact h
theorem skI_pl {ν : mm_M} {n z : Nat} (hl : Pl μ ν) : skI ν n z = skI μ n z := by
  unfold skI
  simp only [hl 51 (by decide) (by decide), hl 52 (by decide) (by decide), hl 50 (by decide) (by decide), hl 48 (by decide) (by decide), hl 53 (by decide) (by decide), hl 49 (by decide) (by decide)]
theorem Iv_pl {ν ξ : mm_M} {P F T S M Z : Nat → Nat} (I : Iv μ h nl nb nc) (hK : KD μ P F T S) (hS : SZ ν M Z) (h4 : ν 45 4 = 0) (hO : Ob ν P F T S M Z) (hkn : ν 7 6 = μ 2 6) (hl : Pl μ ν) (hm : Pm ν ξ) : Iv ξ h nl nb nc := by
  refine Iv_of I (fun c h1 h2 h3 h5 => (hm.1 c h3 h5).trans (hl c h1 h2)) (fun i hi => (hm.2 i hi).trans (by rw [hl _ (by decide) (by decide)])) (JP_pl I hK hS h4 hO hkn hl (fun c hc => hm.1 c (by omega) (Or.inl (by omega))))
theorem b_plan {x : Int32} (I : Iv μ h nl nb nc) : Both 50 95 [.int x] μ (fun ξ => ∃ h nl nb nc, Iv ξ h nl nb nc) := by
  obtain ⟨P, F, T, S, hK, hKM⟩ := I.kdm
  obtain ⟨Z, hZ, hZM⟩ := I.zs
  obtain ⟨M, hM, hMM⟩ := I.ms
  have hn := I.lot.2.2
  have hsz : ∀ j, j < nl → ∃ z, z < 3 ∧ μ 49 j = nI z := by
    rw [I.lrw.1]
    exact I.lin.1
  refine c_plan I.lot.1 hn hK I.pla.1 hZ hM (fun e hS => I.pla.2.2 e P F T S M Z hK hS) (fun v => r_plan I.lot.2.1 hn hsz hKM hMM hZM (fun w => ⟨rfl, _, _, _, _, I⟩) (fun j hj ej w => absurd (v j hj ej) ((I.told hj).mpr w))) (fun j hj ej v ν hl hkn hS h4 hO => ?_)
  refine r_plan (n := nl) (P := P) (F := F) (T := T) (S := S) (M := M) (Z := Z) ?_ hn ?_ (KM_pl hl hKM) ?_ ?_ (fun w => ?_) (fun i hi ei w ξ b wo hm hOp => ?_)
  · rw [hl _ (by decide) (by decide)]
    exact I.lot.2.1
  · rw [hl _ (by decide) (by decide)]
    exact hsz
  · rw [hl _ (by decide) (by decide)]
    exact hMM
  · intro z hz
    rw [skI_pl hl]
    exact hZM z hz
  · have := w j hj ej
    rw [hl _ (by decide) (by decide)] at this
    exact absurd this ((I.told hj).mp v)
  · have : i = j := nI_inj2 (by omega) (by omega) (ei.symm.trans ej)
    subst this
    refine ⟨?_, h, nl, nb, nc, Iv_pl I hK hS h4 hO hkn hl hm⟩
    obtain ⟨b', w', o1, o2, o3, o4⟩ := hO
    rw [o2 i hi, (hOp.uniq o1).2 i hi]
theorem b_worth (I : Iv μ h nl nb nc) : Both 51 96 [] μ (fun ξ => ∃ h nl nb nc, Iv ξ h nl nb nc) := by
  obtain ⟨P, F, T, S, hK, hKM⟩ := I.kdm
  obtain ⟨Z, hZ, hZM⟩ := I.zs
  obtain ⟨M, hM, hMM⟩ := I.ms
  have hn := I.lot.2.2
  have hsz : ∀ j, j < nl → ∃ z, z < 3 ∧ μ 49 j = nI z := by
    rw [I.lrw.1]
    exact I.lin.1
  refine c_worth I.lot.1 hn hK I.pla.1 hZ hM (fun e hS => I.pla.2.2 e P F T S M Z hK hS) (fun ν hl hkn hS h4 hO => ?_)
  refine r_worth (n := nl) (P := P) (F := F) (T := T) (S := S) (M := M) (Z := Z) ?_ hn ?_ (KM_pl hl hKM) ?_ ?_ (fun ξ b wo hm hOp => ?_)
  · rw [hl _ (by decide) (by decide)]
    exact I.lot.2.1
  · rw [hl _ (by decide) (by decide)]
    exact hsz
  · rw [hl _ (by decide) (by decide)]
    exact hMM
  · intro z hz
    rw [skI_pl hl]
    exact hZM z hz
  · refine ⟨?_, h, nl, nb, nc, Iv_pl I hK hS h4 hO hkn hl hm⟩
    obtain ⟨b', w', o1, o2, o3, o4⟩ := hO
    rw [o3, (hOp.uniq o1).1]
end PLN
