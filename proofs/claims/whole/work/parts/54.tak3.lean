/-! fish taken: the sum, the bounds, two rows -/
def TkJ (f0 n i : Nat) (o : Nat → Nat) (x : Int32) (lf rw : Nat → Int32) (s : tkT) : Prop := (0 ≤ s.1.toInt ∧ s.1.toInt ≤ x.toInt) ∧ (∀ j, j < n → 0 ≤ (s.2.1 j).toInt ∧ (s.2.1 j).toInt ≤ (lf j).toInt) ∧ (∀ i', i ≤ i' → i' < n → s.2.2 (f0 + o i') = 0) ∧ (∀ j, j < n → 0 ≤ (s.2.2 (f0 + j)).toInt) ∧ (∀ k, (∀ j, j < n → k ≠ f0 + j) → s.2.2 k = rw k) ∧ s.1 + su (fun l => s.2.2 (f0 + l)) 60 = x
theorem TkJ_all {od re sz lf rw : Nat → Int32} {t x : Int32} {o : Nat → Nat} {ky : Nat → Int32} {f0 n : Nat} (hn : n ≤ 60) (hod : ∀ i, i < n → od i = nI (o i)) (hS : Srt ky n o) (hl : ∀ j, j < n → 0 ≤ (lf j).toInt) (hr : ∀ j, j < 60 → rw (f0 + j) = 0) (hx : 0 ≤ x.toInt) : ∀ i, i ≤ n → TkJ f0 n i o x lf rw (fo (tkS od re sz t f0) i (x, lf, rw)) := by
  intro i
  induction i with
  | zero =>
    intro _
    refine ⟨⟨hx, Int.le_refl _⟩, fun j hj => ⟨hl j hj, Int.le_refl _⟩, fun i' _ h2 => hr _ (by have := hS.1 i' h2; omega), fun j hj => ?_, fun k _ => rfl, ?_⟩
    · show 0 ≤ (rw (f0 + j)).toInt
      rw [hr j (by omega), i_0]
      omega
    · show x + su (fun l => rw (f0 + l)) 60 = x
      rw [su_0 60 hr, Int32.add_zero]
  | succ i ih =>
    intro hi
    have H := ih (by omega)
    show TkJ f0 n (i + 1) o x lf rw (tkS od re sz t f0 i (fo (tkS od re sz t f0) i (x, lf, rw)))
    revert H
    generalize fo (tkS od re sz t f0) i (x, lf, rw) = s
    rintro ⟨⟨a0, a1⟩, a2, a3, a4, a5, a6⟩
    have hoi := hS.1 i (by omega)
    unfold tkS
    rw [hod i (by omega), nI_cl (by omega)]
    by_cases c1 : s.1 ≤ 0
    · rw [if_pos c1]
      exact ⟨⟨a0, a1⟩, a2, fun i' h1 h2 => a3 i' (by omega) h2, a4, a5, a6⟩
    · rw [if_neg c1]
      by_cases c2 : usB re sz t (o i) = true
      · rw [if_pos c2]
        have l0 := a2 (o i) hoi
        have hq : ∃ q : Int32, q = (if s.1 < s.2.1 (o i) then s.1 else s.2.1 (o i)) ∧ 0 ≤ q.toInt ∧ q.toInt ≤ s.1.toInt ∧ q.toInt ≤ (s.2.1 (o i)).toInt := by
          by_cases g : s.1 < s.2.1 (o i)
          · rw [if_pos g]
            rw [i_lt] at g
            exact ⟨_, rfl, by omega, by omega, by omega⟩
          · rw [if_neg g]
            rw [i_lt] at g
            exact ⟨_, rfl, by omega, by omega, by omega⟩
        obtain ⟨q, eq, q0, q1, q2⟩ := hq
        rw [← eq]
        have b1 := i_hi s.1
        have b2 := i_hi (s.2.1 (o i))
        have es : (s.1 - q).toInt = s.1.toInt - q.toInt := i_sub (by omega) (by omega)
        have el : (s.2.1 (o i) - q).toInt = (s.2.1 (o i)).toInt - q.toInt := i_sub (by omega) (by omega)
        refine ⟨⟨?_, ?_⟩, fun j hj => ?_, fun i' h1 h2 => ?_, fun j hj => ?_, fun k hk => ?_, ?_⟩
        · show 0 ≤ (s.1 - q).toInt
          omega
        · show (s.1 - q).toInt ≤ x.toInt
          omega
        · show 0 ≤ (upd s.2.1 (o i) (s.2.1 (o i) - q) j).toInt ∧ (upd s.2.1 (o i) (s.2.1 (o i) - q) j).toInt ≤ (lf j).toInt
          by_cases e : j = o i
          · subst e
            rw [upd_s]
            omega
          · rw [upd_n e]
            exact a2 j hj
        · show upd s.2.2 (f0 + o i) q (f0 + o i') = 0
          have ne : o i' ≠ o i := by
            have := hS.2.1 i i' (by omega) h2
            intro e
            rw [e, i_lt, i_eq] at this
            omega
          rw [upd_n (by omega)]
          exact a3 i' (by omega) h2
        · show 0 ≤ (upd s.2.2 (f0 + o i) q (f0 + j)).toInt
          by_cases e : j = o i
          · subst e
            rw [upd_s]
            exact q0
          · rw [upd_n (by omega)]
            exact a4 j hj
        · show upd s.2.2 (f0 + o i) q k = rw k
          rw [upd_n (hk (o i) hoi)]
          exact a5 k hk
        · show (s.1 - q) + su (fun l => upd s.2.2 (f0 + o i) q (f0 + l)) 60 = x
          have ef : (fun l => upd s.2.2 (f0 + o i) q (f0 + l)) = upd (fun l => s.2.2 (f0 + l)) (o i) q := by
            funext l
            by_cases e : l = o i
            · subst e
              rw [upd_s, upd_s]
            · rw [upd_n e, upd_n (by omega)]
          have z : s.2.2 (f0 + o i) = 0 := a3 i (Nat.le_refl i) (by omega)
          rw [ef, su_upd, if_pos (show o i < 60 by omega), z, Int32.sub_zero, Int32.add_comm (su _ _) q, ← Int32.add_assoc, Int32.sub_add_cancel]
          exact a6
      · rw [if_neg c2]
        exact ⟨⟨a0, a1⟩, a2, fun i' h1 h2 => a3 i' (by omega) h2, a4, a5, a6⟩
/-- the same over two rows -/
theorem tk_row {od re sz lf rw rw' : Nat → Int32} {t x : Int32} {f0 : Nat} : ∀ i, (fo (tkS od re sz t f0) i (x, lf, rw)).1 = (fo (tkS od re sz t f0) i (x, lf, rw')).1 ∧ (fo (tkS od re sz t f0) i (x, lf, rw)).2.1 = (fo (tkS od re sz t f0) i (x, lf, rw')).2.1 ∧ ∀ k, rw k = rw' k → (fo (tkS od re sz t f0) i (x, lf, rw)).2.2 k = (fo (tkS od re sz t f0) i (x, lf, rw')).2.2 k
  | 0 => ⟨rfl, rfl, fun k hk => hk⟩
  | i + 1 => by
    have H := tk_row (od := od) (re := re) (sz := sz) (lf := lf) (rw := rw) (rw' := rw') (t := t) (x := x) (f0 := f0) i
    show (tkS od re sz t f0 i (fo (tkS od re sz t f0) i (x, lf, rw))).1 = (tkS od re sz t f0 i (fo (tkS od re sz t f0) i (x, lf, rw'))).1 ∧ (tkS od re sz t f0 i (fo (tkS od re sz t f0) i (x, lf, rw))).2.1 = (tkS od re sz t f0 i (fo (tkS od re sz t f0) i (x, lf, rw'))).2.1 ∧ ∀ k, rw k = rw' k → (tkS od re sz t f0 i (fo (tkS od re sz t f0) i (x, lf, rw))).2.2 k = (tkS od re sz t f0 i (fo (tkS od re sz t f0) i (x, lf, rw'))).2.2 k
    revert H
    generalize fo (tkS od re sz t f0) i (x, lf, rw) = s
    generalize fo (tkS od re sz t f0) i (x, lf, rw') = r
    obtain ⟨s1, s2, s3⟩ := s
    obtain ⟨r1, r2, r3⟩ := r
    rintro ⟨h1, h2, h3⟩
    cases h1
    cases h2
    unfold tkS
    by_cases c1 : s1 ≤ 0
    · simp only [if_pos c1]
      exact ⟨by trivial, by trivial, h3⟩
    · simp only [if_neg c1]
      by_cases c2 : usB re sz t (od i).toNatClampNeg = true
      · simp only [if_pos c2]
        refine ⟨by trivial, by trivial, fun k hk => ?_⟩
        unfold upd
        split
        · rfl
        · exact h3 k hk
      · simp only [if_neg c2]
        exact ⟨by trivial, by trivial, h3⟩
