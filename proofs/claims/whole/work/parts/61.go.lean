/-! go -/
section GO
variable {A B α β : mm_M} {μ : mm_M} {h nl nb nc : Nat} {RI : Int32 → mm_M → Prop} {RV : mm_M → Prop}
theorem k_nb {t hl hi ht : Nat} {lo : Nat → Nat} (I : Kv μ t hl hi ht lo nl nb nc) {c : Nat} (hc : c < 3) (g : ¬ μ 23 c = -1) : ∃ n, n < 100 ∧ μ 5 7 = nI n ∧ μ 48 18 = nI n := by
  obtain ⟨n1, n2, n3, n4⟩ := I.bnr
  have hch := ch_dn hc n4 g n3
  obtain ⟨r, hr, er⟩ := ch_n (upd (μ 23) c (-1))
  rw [er, i_addN, i_nI (by omega)] at hch
  exact ⟨nb, by omega, n1, n2⟩
theorem k_all (I : Iv (jn A B) h nl nb nc) (hh : h + 1 ≤ 5000) : (∃ lo n, Kv (jn (hrM A) (hrN B)) (h + 1) h (h + 5) h lo nl n nc) ∧ (∃ lo n, Kv (jn (fcG nl 0 (hrM A)) (dnG 0 (hrN B))) (h + 1) h (h + 5) h lo nl n nc) ∧ (∃ lo n, Kv (jn (fcG nl 1 (fcG nl 0 (hrM A))) (dnG 1 (dnG 0 (hrN B)))) (h + 1) h (h + 5) h lo nl n nc) ∧ (∃ lo n, Kv (jn (fcG nl 2 (fcG nl 1 (fcG nl 0 (hrM A)))) (dnG 2 (dnG 1 (dnG 0 (hrN B))))) (h + 1) h (h + 5) h lo nl n nc) ∧ ∃ n, Iv (jn (hC nl nc A) (hF nl nc B)) (h + 1) nl n nc := by
  have K0 := k_hr I hh
  rw [hrM_j, hrN_j] at K0
  obtain ⟨n1, K1⟩ := k_ck (c := 0) (h := h) (lo := fun _ => h + 1) (by omega) rfl (show h + 5 ≤ 10000 by omega) K0
  rw [fcG_j, dnG_j] at K1
  obtain ⟨n2, K2⟩ := k_ck (c := 1) (h := h) (lo := fun j => if j = 0 then h + 2 else h + 1) (by omega) rfl (show h + 5 ≤ 10000 by omega) K1
  rw [fcG_j, dnG_j] at K2
  obtain ⟨n3, K3⟩ := k_ck (c := 2) (h := h) (lo := fun j => if j = 1 then h + 2 else if j = 0 then h + 2 else h + 1) (by omega) rfl (show h + 5 ≤ 10000 by omega) K2
  rw [fcG_j, dnG_j] at K3
  have K4 := k_cl (k_sp K3 (by omega))
  rw [spM_j, spN_j, clG_j, cnG_j] at K4
  refine ⟨⟨_, _, K0⟩, ⟨_, _, K1⟩, ⟨_, _, K2⟩, ⟨_, _, K3⟩, n3, ?_⟩
  rw [Iv_Kv]
  refine k_lo K4 (fun c hc => ?_) (by omega)
  have : c = 0 ∨ c = 1 ∨ c = 2 := by omega
  rcases this with rfl | rfl | rfl <;> simp
theorem c_hour (I : Iv (jn A B) h nl nb nc) (hh : h + 1 ≤ 5000) (k : RV (jn (hC nl nc A) β)) : mm_Cs hh_S 63 [.ref 0] (jn A β) RI RV := by
  obtain ⟨⟨lo0, n0, K0⟩, ⟨lo1, n1, K1⟩, ⟨lo2, n2, K2⟩, ⟨lo3, n3, K3⟩, -⟩ := k_all I hh
  refine c_passHour (nl := nl) (nc := nc) I.lot.2.2 I.cnr.2.2 ?_
  rw [hrM_j]
  refine c_finish I.lot.2.2 ⟨fun m => m = jn (hrM A) β, fun m => m = jn (fcG nl 0 (hrM A)) β, fun m => m = jn (fcG nl 1 (fcG nl 0 (hrM A))) β, rfl, ?_, ?_, ?_⟩
  · rintro m rfl
    refine ⟨K0.lot.1, fun g _ => ?_, fun ν hν => ?_⟩
    · obtain ⟨n, hn, en, -⟩ := k_nb K0 (c := 0) (by omega) g
      exact ⟨n, hn, en⟩
    · rw [fcR_G hν, fcG_j]
  · rintro m rfl
    refine ⟨K1.lot.1, fun g _ => ?_, fun ν hν => ?_⟩
    · obtain ⟨n, hn, en, -⟩ := k_nb K1 (c := 1) (by omega) g
      exact ⟨n, hn, en⟩
    · rw [fcR_G hν, fcG_j]
  · rintro m rfl
    refine ⟨K2.lot.1, fun g _ => ?_, fun ν hν => ?_⟩
    · obtain ⟨n, hn, en, -⟩ := k_nb K2 (c := 2) (by omega) g
      exact ⟨n, hn, en⟩
    · have e := fcR_G hν
      rw [fcG_j] at e
      rw [e]
      have key : clG nc (spM (jn (fcG nl 2 (fcG nl 1 (fcG nl 0 (hrM A)))) β) nl) = jn (hC nl nc A) β := by
        rw [spM_j, clG_j]
        rfl
      have en : (spM (jn (fcG nl 2 (fcG nl 1 (fcG nl 0 (hrM A)))) β) nl) 0 8 = (jn (fcG nl 2 (fcG nl 1 (fcG nl 0 (hrM A)))) β) 0 8 := by
        unfold spM
        simp only [hs_s, hs_n, ne_eq, Nat.reduceEqDiff, not_false_eq_true, upd_n]
      unfold clG at key
      rw [en] at key
      refine ⟨K3.lot.1, K3.cnr.1, fun i hi => ?_, fun z => ?_, fun z => ?_⟩
      · obtain ⟨⟨q, hq, eq, -⟩, -⟩ := K3.cin.1 i hi
        exact ⟨q, hq, eq⟩
      · rw [if_neg z] at key
        rw [key]
        exact k
      · rw [if_pos z] at key
        rw [key]
        exact k
theorem r_hourJ (I : Iv (jn A B) h nl nb nc) (hh : h + 1 ≤ 5000) (k : RV (jn α (hF nl nc B))) : mm_Cs hh_S 92 [.ref 48] (jn α B) RI RV := by
  obtain ⟨⟨lo0, n0, K0⟩, ⟨lo1, n1, K1⟩, ⟨lo2, n2, K2⟩, ⟨lo3, n3, K3⟩, -⟩ := k_all I hh
  refine r_hour (nl := nl) (nc := nc) I.lot.2.2 I.cnr.2.2 ?_
  rw [hrN_j]
  refine ⟨fun m => m = jn α (hrN B), fun m => m = jn α (dnG 0 (hrN B)), fun m => m = jn α (dnG 1 (dnG 0 (hrN B))), rfl, ?_, ?_, ?_⟩
  · rintro m rfl
    refine ⟨fun g _ => ?_, fun ν hν => ?_⟩
    · obtain ⟨n, hn, -, en⟩ := k_nb K0 (c := 0) (by omega) (fun z => g ((K0.coo 0 (by omega)).1.trans z))
      exact ⟨n, hn, en⟩
    · rw [dnR_G hν, dnG_j]
  · rintro m rfl
    refine ⟨fun g _ => ?_, fun ν hν => ?_⟩
    · obtain ⟨n, hn, -, en⟩ := k_nb K1 (c := 1) (by omega) (fun z => g ((K1.coo 1 (by omega)).1.trans z))
      exact ⟨n, hn, en⟩
    · rw [dnR_G hν, dnG_j]
  · rintro m rfl
    refine ⟨fun g _ => ?_, fun ν hν => ?_⟩
    · obtain ⟨n, hn, -, en⟩ := k_nb K2 (c := 2) (by omega) (fun z => g ((K2.coo 2 (by omega)).1.trans z))
      exact ⟨n, hn, en⟩
    · have e := dnR_G hν
      rw [dnG_j] at e
      rw [e]
      have key : cnG nc (spN (jn α (dnG 2 (dnG 1 (dnG 0 (hrN B))))) nl) = jn α (hF nl nc B) := by
        rw [spN_j, cnG_j]
        rfl
      have en : (spN (jn α (dnG 2 (dnG 1 (dnG 0 (hrN B))))) nl) 48 0 = (jn α (dnG 2 (dnG 1 (dnG 0 (hrN B))))) 48 0 := by
        unfold spN
        simp only [hs_s, hs_n, ne_eq, Nat.reduceEqDiff, not_false_eq_true, upd_n]
      unfold cnG at key
      rw [en] at key
      refine ⟨K3.lot.2.1, K3.cnr.2.1, fun i hi => ?_, fun z => ?_, fun z => ?_⟩
      · obtain ⟨⟨q, hq, eq, -⟩, -⟩ := K3.cin.1 i hi
        rw [← K3.crr.2.1] at eq
        exact ⟨q, hq, eq⟩
      · rw [if_neg z] at key
        rw [key]
        exact k
      · rw [if_pos z] at key
        rw [key]
        exact k
def itr (f : mm_M → mm_M) : Nat → mm_M → mm_M
  | 0, μ => μ
  | i + 1, μ => f (itr f i μ)
theorem k_itr (I : Iv μ h nl nb nc) : ∀ i, h + i ≤ 5000 → ∃ n, Iv (jn (itr (hC nl nc) i μ) (itr (hF nl nc) i μ)) (h + i) nl n nc
  | 0, _ => ⟨nb, by
    show Iv (jn μ μ) h nl nb nc
    rw [jn_id]
    exact I⟩
  | i + 1, hi => by
    obtain ⟨n, K⟩ := k_itr I i (by omega)
    exact (k_all K (by omega)).2.2.2.2
theorem b_go {x : Int32} (I : Iv μ h nl nb nc) : Both 49 91 [.int x] μ (fun ξ => ∃ h nl nb nc, Iv ξ h nl nb nc) := by
  have hh := I.now.2.2
  have e5 : ∀ n, n ≤ 5000 → (5000 ≤ nI n ↔ n = 5000) := fun n hn => by
    rw [i_le, show (5000 : Int32).toInt = 5000 by decide, i_nI (by omega)]
    omega
  refine c_go (fun v => r_go (fun _ => ⟨rfl, _, _, _, _, I⟩) (fun m hm em => absurd ?_ v)) (fun m hm em => ⟨fun i ν => ν = jn (itr (hC nl nc) i μ) μ ∧ h + i ≤ 5000, ⟨jn_id.symm, by omega⟩, ?_, ?_⟩)
  · rw [em, i_le, i_le, i_nI (by omega), show (400 : Int32).toInt = 400 by decide, i_0]
    omega
  · rintro i ν hi ⟨rfl, hb⟩ w
    obtain ⟨n, K⟩ := k_itr I i hb
    have en : (jn (itr (hC nl nc) i μ) μ) 0 8 = nI (h + i) := K.now.1
    rw [en, e5 _ hb] at w
    exact c_hour K (by omega) ⟨rfl, by omega⟩
  · rintro i ν ⟨rfl, hb⟩ w
    obtain ⟨n, K⟩ := k_itr I i hb
    have en : (jn (itr (hC nl nc) i μ) μ) 0 8 = nI (h + i) := K.now.1
    rw [en, e5 _ hb] at w
    rw [en]
    refine r_go (fun v => absurd ?_ v) (fun m' hm' em' => ⟨fun j ξ => ξ = jn (itr (hC nl nc) i μ) (itr (hF nl nc) j μ) ∧ h + j ≤ 5000, ⟨rfl, by omega⟩, ?_, ?_⟩)
    · rw [em, i_le, i_le, i_nI (by omega), show (400 : Int32).toInt = 400 by decide, i_0]
      omega
    · rintro j ξ hj ⟨rfl, hb2⟩ w2
      obtain ⟨n2, K2⟩ := k_itr I j hb2
      have en2 : (jn (itr (hC nl nc) i μ) (itr (hF nl nc) j μ)) 48 0 = nI (h + j) := K2.now.2.1
      rw [en2, e5 _ hb2] at w2
      exact r_hourJ K2 (by omega) ⟨rfl, by omega⟩
    · rintro j ξ ⟨rfl, hb2⟩ w2
      obtain ⟨n2, K2⟩ := k_itr I j hb2
      have en2 : (jn (itr (hC nl nc) i μ) (itr (hF nl nc) j μ)) 48 0 = nI (h + j) := K2.now.2.1
      rw [en2, e5 _ hb2] at w2
      have emm : m' = m := nI_inj2 (by omega) (by omega) (em'.symm.trans em)
      have : j = i := by omega
      subst this
      rw [en2]
      exact ⟨rfl, _, _, _, _, K2⟩
end GO
