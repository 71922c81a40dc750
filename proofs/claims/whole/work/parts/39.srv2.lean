/-! contracts served, the whole; what a contract lacks -/
/-- what is kept while contracts are served -/
def SvI (wa : Nat → Int32) (n : Nat) (s : svT) : Prop := 0 ≤ s.1.toInt ∧ ∀ q, q < n → 0 ≤ (s.2 q).toInt ∧ (s.2 q).toInt ≤ (wa q).toInt
theorem sv_step {od ov cu kd wa : Nat → Int32} {o : Nat → Nat} {a b : Int32} {n i : Nat} {s : svT} (hn : n ≤ 60) (hi : i < n) (ho : o i < n) (hod : od i = nI (o i)) (h : SvI wa n s) : svS od ov cu kd wa a b i s = sv1 ov cu kd wa a b (o i) s ∧ SvI wa n (sv1 ov cu kd wa a b (o i) s) := by
  obtain ⟨h1, h2⟩ := h
  have hq := h2 (o i) ho
  have hb := i_hi (wa (o i))
  have ed : (wa (o i) - s.2 (o i)).toInt = (wa (o i)).toInt - (s.2 (o i)).toInt := i_sub (by omega) (by omega)
  unfold svS sv1
  rw [hod, nI_cl (by omega)]
  by_cases c : svC ov cu kd a b (o i) = true
  · rw [if_pos c, if_pos c]
    have eq : (if s.1 ≤ wa (o i) - s.2 (o i) then s.1 else wa (o i) - s.2 (o i)) = (if s.1 < wa (o i) - s.2 (o i) then s.1 else wa (o i) - s.2 (o i)) := by
      by_cases g : s.1 < wa (o i) - s.2 (o i)
      · rw [if_pos g, if_pos (by rw [i_le]; rw [i_lt] at g; omega)]
      · rw [if_neg g]
        by_cases g2 : s.1 ≤ wa (o i) - s.2 (o i)
        · rw [if_pos g2, i_eq]
          rw [i_le] at g2
          rw [i_lt] at g
          omega
        · rw [if_neg g2]
    rw [eq]
    generalize hqq : (if s.1 < wa (o i) - s.2 (o i) then s.1 else wa (o i) - s.2 (o i)) = q
    have hq2 : 0 ≤ q.toInt ∧ q.toInt ≤ s.1.toInt ∧ q.toInt ≤ (wa (o i)).toInt - (s.2 (o i)).toInt := by
      by_cases g : s.1 < wa (o i) - s.2 (o i)
      · rw [if_pos g] at hqq
        rw [i_lt, ed] at g
        rw [← hqq]
        omega
      · rw [if_neg g] at hqq
        rw [i_lt, ed] at g
        rw [← hqq, ed]
        omega
    have hs1 := i_hi s.1
    refine ⟨?_, ?_, fun k hk => ?_⟩
    · by_cases c1 : s.1 ≤ 0
      · rw [if_pos c1]
        rw [i_le, i_0] at c1
        have q0 : q = 0 := by
          rw [i_eq, i_0]
          omega
        rw [q0, Int32.sub_zero, Int32.add_zero, upd_id]
      · rw [if_neg c1]
    · show 0 ≤ (s.1 - q).toInt
      rw [i_sub (by omega) (by omega)]
      omega
    · show 0 ≤ (upd s.2 (o i) (s.2 (o i) + q) k).toInt ∧ (upd s.2 (o i) (s.2 (o i) + q) k).toInt ≤ (wa k).toInt
      by_cases e : k = o i
      · subst e
        rw [upd_s, i_add (by omega) (by omega)]
        omega
      · rw [upd_n e]
        exact h2 k hk
  · rw [if_neg c, if_neg c]
    exact ⟨by split <;> rfl, h1, h2⟩
theorem sv_all {wk od ov cu kd wa ha : Nat → Int32} {W : Nat → Nat} {a b m : Int32} {n : Nat} (hn : n ≤ 60) (hO : OrdI wk od n) (hW : ∀ j, j < n → wk j = nI (W j) ∧ W j < 30) (h : SvI wa n (m, ha)) : fo (svS od ov cu kd wa a b) n (m, ha) = fo (fun w s => fo (svM wk ov cu kd wa a b w) n s) 30 (m, ha) ∧ SvI wa n (fo (svS od ov cu kd wa a b) n (m, ha)) := by
  obtain ⟨o, hod, hS⟩ := hO
  have lp : ∀ i, i ≤ n → fo (svS od ov cu kd wa a b) i (m, ha) = fo (fun i s => sv1 ov cu kd wa a b (o i) s) i (m, ha) ∧ SvI wa n (fo (fun i s => sv1 ov cu kd wa a b (o i) s) i (m, ha)) := by
    intro i
    induction i with
    | zero => exact fun _ => ⟨rfl, h⟩
    | succ i ih =>
      intro hi
      obtain ⟨e, g⟩ := ih (by omega)
      have := sv_step (od := od) (ov := ov) (cu := cu) (kd := kd) (a := a) (b := b) hn (show i < n by omega) (hS.1 i (by omega)) (hod i (by omega)) g
      refine ⟨?_, this.2⟩
      show svS od ov cu kd wa a b i (fo (svS od ov cu kd wa a b) i (m, ha)) = _
      rw [e]
      exact this.1
  have e1 := lp n (Nat.le_refl n)
  have e2 := nest_fold hW hS (sv1 ov cu kd wa a b) (m, ha)
  have e3 : fo (fun w s => fo (svM wk ov cu kd wa a b w) n s) 30 (m, ha) = fo (fun w s => fo (fun c s => if W c = w then sv1 ov cu kd wa a b c s else s) n s) 30 (m, ha) := fo_congr 30 (fun w s hw => fo_congr n (fun c s hc => svM_1 hw (hW c hc)))
  rw [e3, e2, e1.1]
  exact ⟨rfl, e1.2⟩
