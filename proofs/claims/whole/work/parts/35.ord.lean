/-! an order of lots or contracts, and a new one put in -/
def Srt (ky : Nat → Int32) (n : Nat) (o : Nat → Nat) : Prop := (∀ i, i < n → o i < n) ∧ (∀ i i', i < i' → i' < n → ky (o i) < ky (o i') ∨ (ky (o i) = ky (o i') ∧ o i < o i')) ∧ ∀ j, j < n → ∃ i, i < n ∧ o i = j
def OrdI (ky od : Nat → Int32) (n : Nat) : Prop := ∃ o, (∀ i, i < n → od i = nI (o i)) ∧ Srt ky n o
/-- where the new one goes -/
def ins (o : Nat → Int32) (nw : Int32) (p a : Nat) : Nat → Int32 := fun i => if i < p then o i else if i = p then nw else if i ≤ a then o (i - 1) else o i
theorem pin_ins {ky : Nat → Int32} {nw : Int32} : ∀ (a : Nat) (o : Nat → Int32), ∃ p, p ≤ a ∧ pin ky nw a o = ins o nw p a ∧ (∀ i, p ≤ i → i < a → ky nw.toNatClampNeg < ky (o i).toNatClampNeg) ∧ (0 < p → ¬ ky nw.toNatClampNeg < ky (o (p - 1)).toNatClampNeg)
  | 0, o => by
    refine ⟨0, Nat.le_refl 0, ?_, fun i h1 h2 => by omega, fun h => by omega⟩
    funext i
    show upd o 0 nw i = ins o nw 0 0 i
    unfold ins upd
    by_cases e : i = 0
    · rw [if_pos e, if_neg (show ¬ i < 0 by omega), if_pos e]
    · rw [if_neg e, if_neg (show ¬ i < 0 by omega), if_neg e, if_neg (show ¬ i ≤ 0 by omega)]
  | a + 1, o => by
    unfold pin
    by_cases t : ky nw.toNatClampNeg < ky (o a).toNatClampNeg
    · rw [if_pos t]
      obtain ⟨p, h1, h2, h3, h4⟩ := pin_ins (ky := ky) (nw := nw) a (upd o (a + 1) (o a))
      refine ⟨p, by omega, ?_, fun i g1 g2 => ?_, fun g => ?_⟩
      · rw [h2]
        funext i
        unfold ins
        by_cases e1 : i < p
        · rw [if_pos e1, if_pos e1, upd_n (by omega)]
        · rw [if_neg e1, if_neg e1]
          by_cases e2 : i = p
          · rw [if_pos e2, if_pos e2]
          · rw [if_neg e2, if_neg e2]
            by_cases e3 : i ≤ a
            · rw [if_pos e3, if_pos (by omega), upd_n (by omega)]
            · rw [if_neg e3]
              by_cases e4 : i = a + 1
              · subst e4
                rw [upd_s, if_pos (by omega)]
                rfl
              · rw [upd_n e4, if_neg (by omega)]
      · by_cases e : i = a
        · subst e
          exact t
        · have := h3 i g1 (by omega)
          rw [upd_n (by omega)] at this
          exact this
      · have := h4 g
        rw [upd_n (by omega)] at this
        exact this
    · rw [if_neg t]
      refine ⟨a + 1, Nat.le_refl _, ?_, fun i g1 g2 => by omega, fun _ => t⟩
      funext i
      unfold ins upd
      by_cases e1 : i < a + 1
      · rw [if_pos e1, if_neg (by omega)]
      · rw [if_neg e1]
        by_cases e2 : i = a + 1
        · rw [if_pos e2, if_pos e2]
        · rw [if_neg e2, if_neg e2, if_neg (by omega)]
theorem lt_tr {a b c : Int32} (h1 : ¬ c < b) (h2 : a < b ∨ a = b) : a < c ∨ a = c := by
  rw [i_lt] at *
  rcases h2 with h2 | h2
  · rw [i_eq]; omega
  · subst h2
    rw [i_eq]; omega
theorem pin_ord {ky od : Nat → Int32} {n : Nat} (hn : n < 2147483648) (x : Int32) (h : OrdI ky od n) : OrdI (upd ky n x) (pin (upd ky n x) (nI n) n od) (n + 1) := by
  obtain ⟨o, h1, h2, h3, h4⟩ := h
  obtain ⟨p, p1, p2, p3, p4⟩ := pin_ins (ky := upd ky n x) (nw := nI n) n od
  rw [nI_cl hn, upd_s] at p3 p4
  rw [p2]
  have kO : ∀ i, i < n → upd ky n x (o i) = ky (o i) := fun i hi => upd_n (by have := h2 i hi; omega)
  have p3' : ∀ i, p ≤ i → i < n → x < ky (o i) := fun i g1 g2 => by
    have := p3 i g1 g2
    have b := h2 i g2
    rw [h1 i g2, nI_cl (by omega), kO i g2] at this
    exact this
  have p4' : ∀ i, i < p → ky (o i) < x ∨ ky (o i) = x := fun i g => by
    have := p4 (by omega)
    have b := h2 (p - 1) (by omega)
    rw [h1 (p - 1) (by omega), nI_cl (by omega), kO (p - 1) (by omega)] at this
    refine lt_tr this ?_
    by_cases e : i = p - 1
    · rw [e]; exact Or.inr rfl
    · rcases h3 i (p - 1) (by omega) (by omega) with w | w
      · exact Or.inl w
      · exact Or.inr w.1
  have q1 : ∀ i, i < p → (fun i => if i < p then o i else if i = p then n else o (i - 1)) i = o i := fun i g => if_pos g
  have q2 : (fun i => if i < p then o i else if i = p then n else o (i - 1)) p = n := by
    show (if p < p then o p else if p = p then n else o (p - 1)) = n
    rw [if_neg (by omega), if_pos rfl]
  have q3 : ∀ i, p < i → (fun i => if i < p then o i else if i = p then n else o (i - 1)) i = o (i - 1) := fun i g => by
    show (if i < p then o i else if i = p then n else o (i - 1)) = _
    rw [if_neg (by omega), if_neg (by omega)]
  refine ⟨fun i => if i < p then o i else if i = p then n else o (i - 1), fun i hi => ?_, fun i hi => ?_, fun i i' g1 g2 => ?_, fun j hj => ?_⟩
  · unfold ins
    by_cases e1 : i < p
    · rw [if_pos e1, q1 i e1, h1 i (by omega)]
    · rw [if_neg e1]
      by_cases e2 : i = p
      · rw [if_pos e2, e2, q2]
      · rw [if_neg e2, q3 i (by omega), if_pos (by omega), h1 (i - 1) (by omega)]
  · rcases Nat.lt_trichotomy i p with e | e | e
    · rw [q1 i e]
      have := h2 i (by omega)
      omega
    · rw [e, q2]
      omega
    · rw [q3 i e]
      have := h2 (i - 1) (by omega)
      omega
  · rcases Nat.lt_trichotomy i p with e | e | e
    · rw [q1 i e, kO i (by omega)]
      rcases Nat.lt_trichotomy i' p with e' | e' | e'
      · rw [q1 i' e', kO i' (by omega)]
        exact h3 i i' g1 (by omega)
      · rw [e', q2, upd_s]
        rcases p4' i e with w | w
        · exact Or.inl w
        · exact Or.inr ⟨w, h2 i (by omega)⟩
      · rw [q3 i' e', kO (i' - 1) (by omega)]
        exact h3 i (i' - 1) (by omega) (by omega)
    · rw [e, q2, upd_s, q3 i' (by omega), kO (i' - 1) (by omega)]
      exact Or.inl (p3' (i' - 1) (by omega) (by omega))
    · rw [q3 i e, q3 i' (by omega), kO (i - 1) (by omega), kO (i' - 1) (by omega)]
      exact h3 (i - 1) (i' - 1) (by omega) (by omega)
  · by_cases e : j = n
    · exact ⟨p, by omega, by rw [q2, e]⟩
    · obtain ⟨i, hi, ei⟩ := h4 j (by omega)
      by_cases e1 : i < p
      · exact ⟨i, by omega, by rw [q1 i e1, ei]⟩
      · exact ⟨i + 1, by omega, by rw [q3 (i + 1) (by omega), Nat.add_sub_cancel, ei]⟩
