/-! contracts served by the order of weeks, and week by week -/
theorem nest_fold {X : Type} {wk : Nat → Int32} {W o : Nat → Nat} {n : Nat} (hW : ∀ j, j < n → wk j = nI (W j) ∧ W j < 30) (hS : Srt wk n o) (g : Nat → X → X) (s0 : X) : fo (fun w s => fo (fun c s => if W c = w then g c s else s) n s) 30 s0 = fo (fun i s => g (o i) s) n s0 := by
  have lt : ∀ i i', i < i' → i' < n → W (o i) < W (o i') ∨ (W (o i) = W (o i') ∧ o i < o i') := fun i i' h1 h2 => by
    have a := hW (o i) (hS.1 i (by omega))
    have b := hW (o i') (hS.1 i' h2)
    have := hS.2.1 i i' h1 h2
    rw [a.1, b.1, i_lt, i_eq, i_nI (by omega), i_nI (by omega)] at this
    omega
  have inner : ∀ w p0, p0 ≤ n → (∀ i, i < p0 → W (o i) < w) → (∀ i, p0 ≤ i → i < n → ¬ W (o i) < w) → ∀ c, c ≤ n → ∃ p, p ≤ n ∧ fo (fun c s => if W c = w then g c s else s) c (fo (fun i s => g (o i) s) p0 s0) = fo (fun i s => g (o i) s) p s0 ∧ (∀ i, i < p → W (o i) < w ∨ (W (o i) = w ∧ o i < c)) ∧ (∀ i, p ≤ i → i < n → ¬ (W (o i) < w ∨ (W (o i) = w ∧ o i < c))) := by
    intro w p0 hp0 a1 a2 c
    induction c with
    | zero => exact fun _ => ⟨p0, hp0, rfl, fun i hi => Or.inl (a1 i hi), fun i h1 h2 z => by have := a2 i h1 h2; omega⟩
    | succ c ih =>
      intro hc
      obtain ⟨p, h1, h2, h3, h4⟩ := ih (by omega)
      have e : fo (fun c s => if W c = w then g c s else s) (c + 1) (fo (fun i s => g (o i) s) p0 s0) = if W c = w then g c (fo (fun c s => if W c = w then g c s else s) c (fo (fun i s => g (o i) s) p0 s0)) else fo (fun c s => if W c = w then g c s else s) c (fo (fun i s => g (o i) s) p0 s0) := rfl
      rw [e, h2]
      by_cases ew : W c = w
      · rw [if_pos ew]
        obtain ⟨i, hi, ei⟩ := hS.2.2 c (by omega)
        have ip : i = p := by
          rcases Nat.lt_trichotomy i p with q | q | q
          · have := h3 i q
            rw [ei] at this
            omega
          · exact q
          · have u := lt p i q hi
            have v := h4 p (Nat.le_refl p) (by omega)
            rw [ei] at u
            omega
        subst ip
        refine ⟨i + 1, by omega, ?_, fun k hk => ?_, fun k hk1 hk2 => ?_⟩
        · show g c _ = g (o i) _
          rw [ei]
        · by_cases ek : k = i
          · subst ek
            rw [ei]
            omega
          · have := h3 k (by omega)
            omega
        · have u := lt i k (by omega) hk2
          rw [ei] at u
          omega
      · rw [if_neg ew]
        refine ⟨p, h1, rfl, fun k hk => ?_, fun k hk1 hk2 z => ?_⟩
        · have := h3 k hk
          omega
        · have u := h4 k hk1 hk2
          by_cases ek : o k = c
          · rw [ek] at z
            rw [ek] at u
            omega
          · omega
  have outer : ∀ w, w ≤ 30 → ∃ p, p ≤ n ∧ fo (fun w s => fo (fun c s => if W c = w then g c s else s) n s) w s0 = fo (fun i s => g (o i) s) p s0 ∧ (∀ i, i < p → W (o i) < w) ∧ (∀ i, p ≤ i → i < n → ¬ W (o i) < w) := by
    intro w
    induction w with
    | zero => exact fun _ => ⟨0, Nat.zero_le _, rfl, fun i hi => by omega, fun i _ _ => by omega⟩
    | succ w ih =>
      intro hw
      obtain ⟨p0, h1, h2, h3, h4⟩ := ih (by omega)
      obtain ⟨p, g1, g2, g3, g4⟩ := inner w p0 h1 h3 h4 n (Nat.le_refl n)
      refine ⟨p, g1, ?_, fun i hi => ?_, fun i hi1 hi2 => ?_⟩
      · show fo (fun c s => if W c = w then g c s else s) n (fo (fun w s => fo (fun c s => if W c = w then g c s else s) n s) w s0) = _
        rw [h2, g2]
      · have := g3 i hi
        omega
      · have := g4 i hi1 hi2
        have := hS.1 i hi2
        omega
  obtain ⟨p, h1, h2, h3, h4⟩ := outer 30 (Nat.le_refl 30)
  have ep : p = n := by
    by_cases q : p < n
    · have := h4 p (Nat.le_refl p) q
      have := (hW (o p) (hS.1 p q)).2
      omega
    · omega
  rw [h2, ep]
theorem fo_congr {X : Type} {f g : Nat → X → X} {s : X} : ∀ n, (∀ i s, i < n → f i s = g i s) → fo f n s = fo g n s
  | 0, _ => rfl
  | n + 1, h => by
    show f n (fo f n s) = g n (fo g n s)
    rw [fo_congr n (fun i s hi => h i s (by omega)), h n _ (by omega)]
/-- one contract served -/
def sv1 (ov cu kd wa : Nat → Int32) (a b : Int32) (c : Nat) (s : svT) : svT := if svC ov cu kd a b c = true then (s.1 - (if s.1 ≤ wa c - s.2 c then s.1 else wa c - s.2 c), upd s.2 c (s.2 c + (if s.1 ≤ wa c - s.2 c then s.1 else wa c - s.2 c))) else s
theorem svM_1 {wk ov cu kd wa : Nat → Int32} {W : Nat → Nat} {a b : Int32} {w c : Nat} {s : svT} (hw : w < 30) (hW : wk c = nI (W c) ∧ W c < 30) : svM wk ov cu kd wa a b w c s = if W c = w then sv1 ov cu kd wa a b c s else s := by
  unfold svM sv1
  have e : wk c = nI w ↔ W c = w := by
    rw [hW.1]
    exact ⟨fun z => nI_inj2 (by omega) (by omega) z, fun z => by rw [z]⟩
  have e2 : svC ov cu kd a b c = true ↔ (ov c = 0 ∧ cu c = a ∧ kd c = b) := by
    unfold svC
    rw [Bool.and_eq_true, Bool.and_eq_true, decide_eq_true_eq, decide_eq_true_eq, decide_eq_true_eq, and_assoc]
  by_cases g : W c = w
  · rw [if_pos g]
    by_cases g2 : svC ov cu kd a b c = true
    · have := e2.mp g2
      rw [if_pos ⟨this.1, e.mpr g, this.2.1, this.2.2⟩, if_pos g2]
    · rw [if_neg g2, if_neg (fun z => g2 (e2.mpr ⟨z.1, z.2.2.1, z.2.2.2⟩))]
  · rw [if_neg g, if_neg (fun z => g (e.mp z.2.1))]
