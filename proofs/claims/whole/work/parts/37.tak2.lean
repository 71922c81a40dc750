/-! fish taken, the whole -/
theorem tk_pm {ca od re sz lf rw : Nat → Int32} {t x : Int32} {cd : (Nat → Int32) → Nat → Bool} {fr : Nat → Bool} {f0 n : Nat} (hn : n ≤ 60) (hO : OrdI ca od n) (hcd : ∀ lf j, cd lf j = true ↔ (fr j = true ∧ ¬ lf j ≤ 0 ∧ usB re sz t j = true)) (hl : ∀ j, j < n → 0 ≤ (lf j).toInt ∧ (fr j = false → lf j = 0)) (hr : ∀ j, j < n → rw (f0 + j) = 0) (hx : 0 ≤ x.toInt) (hsu : x.toInt ≤ (su (fun j => if usB re sz t j = true then lf j else 0) n).toInt) : ∃ N, fo (pmG ca cd n f0) N (x, lf, rw) = fo (tkS od re sz t f0) n (x, lf, rw) ∧ (fo (pmG ca cd n f0) N (x, lf, rw)).1 ≤ 0 ∧ ∀ m, m < N → ¬ (fo (pmG ca cd n f0) m (x, lf, rw)).1 ≤ 0 → ∃ j, j < n ∧ fo (fiS ca (cd (fo (pmG ca cd n f0) m (x, lf, rw)).2.1)) n (-1) = nI j := by
  obtain ⟨o, hod, hS⟩ := hO
  have lp : ∀ i, i ≤ n → ∃ N, fo (pmG ca cd n f0) N (x, lf, rw) = fo (tkS od re sz t f0) i (x, lf, rw) ∧ (∀ m, m < N → ∃ j, j < n ∧ fo (fiS ca (cd (fo (pmG ca cd n f0) m (x, lf, rw)).2.1)) n (-1) = nI j) ∧ TkI (usB re sz t) fr o f0 n i (x - su (fun j => if usB re sz t j = true then lf j else 0) n) (fo (tkS od re sz t f0) i (x, lf, rw)) := by
    intro i
    induction i with
    | zero => exact fun _ => ⟨0, rfl, fun m hm => by omega, hl, fun i' h1 h2 => hr _ (hS.1 i' h2), Or.inr (fun i' h1 => by omega), rfl⟩
    | succ i ih =>
      intro hi
      obtain ⟨N, h1, h2, h3⟩ := ih (by omega)
      obtain ⟨g1, g2⟩ := TkI_step (m := N) hn hod hS hcd (show i < n by omega) h3
      have e : fo (tkS od re sz t f0) (i + 1) (x, lf, rw) = tkS od re sz t f0 i (fo (tkS od re sz t f0) i (x, lf, rw)) := rfl
      rcases g2 with g2 | ⟨g2, g3⟩
      · refine ⟨N, ?_, h2, ?_⟩
        · rw [e, g2, h1]
        · rw [e]; exact g1
      · refine ⟨N + 1, ?_, fun m hm => ?_, ?_⟩
        · rw [e, g2, ← h1]
          rfl
        · by_cases em : m = N
          · subst em
            rw [h1]
            exact g3
          · exact h2 m (by omega)
        · rw [e]; exact g1
  obtain ⟨N, h1, h2, h3, h4, h5, h6⟩ := lp n (Nat.le_refl n)
  refine ⟨N, h1, ?_, fun m hm _ => h2 m hm⟩
  rw [h1]
  rcases h5 with h5 | h5
  · exact h5
  · have z : su (fun j => if usB re sz t j = true then (fo (tkS od re sz t f0) n (x, lf, rw)).2.1 j else 0) n = 0 := su_0 n (fun j hj => by
      obtain ⟨p, hp, ep⟩ := hS.2.2 j hj
      subst ep
      by_cases u : usB re sz t (o p) = true
      · rw [if_pos u]; exact h5 p hp u
      · rw [if_neg u])
    rw [z, Int32.sub_zero] at h6
    rw [h6, i_le, i_0]
    have a := i_lo (su (fun j => if usB re sz t j = true then lf j else 0) n)
    have b := i_hi (su (fun j => if usB re sz t j = true then lf j else 0) n)
    have c := i_hi x
    rw [i_sub (by omega) (by omega)]
    omega
