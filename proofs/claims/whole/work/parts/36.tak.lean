/-! fish taken by order of catch, and by the first lot again and again -/
/-- the earlier of two lots -/
def erl (ca : Nat → Int32) (a b : Nat) : Prop := ca a < ca b ∨ (ca a = ca b ∧ a ≤ b)
theorem fi_min {ca : Nat → Int32} {cand : Nat → Bool} : ∀ n, n ≤ 60 → (fo (fiS ca cand) n (-1) = -1 ∧ ∀ j, j < n → ¬ cand j = true) ∨ ∃ b, b < n ∧ fo (fiS ca cand) n (-1) = nI b ∧ cand b = true ∧ ∀ j, j < n → cand j = true → erl ca b j
  | 0, _ => Or.inl ⟨rfl, fun j hj => by omega⟩
  | n + 1, hn => by
    have ih := fi_min (ca := ca) (cand := cand) n (by omega)
    have e : fo (fiS ca cand) (n + 1) (-1) = fiS ca cand n (fo (fiS ca cand) n (-1)) := rfl
    rw [e]
    clear e
    generalize fo (fiS ca cand) n (-1) = r at ih ⊢
    unfold fiS
    by_cases c : cand n = true
    · rw [if_pos c]
      rcases ih with ⟨h1, h2⟩ | ⟨b, h1, h2, h3, h4⟩
      · rw [h1, if_pos rfl]
        refine Or.inr ⟨n, by omega, rfl, c, fun j hj hc => ?_⟩
        by_cases e : j = n
        · subst e
          exact Or.inr ⟨rfl, Nat.le_refl _⟩
        · exact absurd hc (h2 j (by omega))
      · have nb : ¬ nI b = -1 := by
          rw [i_eq, i_nI (by omega), i_m1]
          omega
        rw [h2, if_neg nb, nI_cl (by omega)]
        by_cases q : ca b ≤ ca n
        · rw [if_pos q]
          refine Or.inr ⟨b, by omega, rfl, h3, fun j hj hc => ?_⟩
          by_cases e : j = n
          · subst e
            unfold erl
            rw [i_lt, i_eq]
            rw [i_le] at q
            omega
          · exact h4 j (by omega) hc
        · rw [if_neg q]
          refine Or.inr ⟨n, by omega, rfl, c, fun j hj hc => ?_⟩
          by_cases e : j = n
          · subst e
            exact Or.inr ⟨rfl, Nat.le_refl _⟩
          · have := h4 j (by omega) hc
            unfold erl at this ⊢
            rw [i_lt, i_eq] at this ⊢
            rw [i_le] at q
            omega
    · rw [if_neg c]
      rcases ih with ⟨h1, h2⟩ | ⟨b, h1, h2, h3, h4⟩
      · refine Or.inl ⟨h1, fun j hj => ?_⟩
        by_cases e : j = n
        · subst e
          exact c
        · exact h2 j (by omega)
      · refine Or.inr ⟨b, by omega, h2, h3, fun j hj hc => ?_⟩
        by_cases e : j = n
        · subst e
          exact absurd hc c
        · exact h4 j (by omega) hc
theorem fi_is {ca : Nat → Int32} {cand : Nat → Bool} {n j : Nat} (hn : n ≤ 60) (hj : j < n) (hc : cand j = true) (hm : ∀ i, i < n → cand i = true → erl ca j i) : fo (fiS ca cand) n (-1) = nI j := by
  rcases fi_min (ca := ca) (cand := cand) n hn with ⟨-, h2⟩ | ⟨b, h1, h2, h3, h4⟩
  · exact absurd hc (h2 j hj)
  · have a := hm b h1 h3
    have c := h4 j hj hc
    unfold erl at a c
    rw [i_lt, i_eq] at a c
    rw [h2]
    congr 1
    omega
theorem su_upd {f : Nat → Int32} {j : Nat} {x : Int32} : ∀ n, su (upd f j x) n = if j < n then su f n + (x - f j) else su f n
  | 0 => by rw [if_neg (by omega)]; rfl
  | n + 1 => by
    have ih := su_upd (f := f) (j := j) (x := x) n
    show su (upd f j x) n + upd f j x n = if j < n + 1 then su f n + f n + (x - f j) else su f n + f n
    rw [ih]
    by_cases e : j = n
    · subst e
      rw [if_neg (by omega), if_pos (by omega), upd_s, Int32.add_assoc]
      congr 1
      rw [Int32.add_comm, Int32.sub_add_cancel]
    · rw [upd_n (fun z => e z.symm)]
      by_cases g : j < n
      · rw [if_pos g, if_pos (by omega), Int32.add_assoc, Int32.add_assoc]
        congr 1
        exact Int32.add_comm _ _
      · rw [if_neg g, if_neg (by omega)]
theorem su_0 {f : Nat → Int32} : ∀ n, (∀ j, j < n → f j = 0) → su f n = 0
  | 0, _ => rfl
  | n + 1, h => by
    show su f n + f n = 0
    rw [su_0 n (fun j hj => h j (by omega)), h n (by omega)]
    rfl
/-- the reference's step, over rows -/
def pmG (ca : Nat → Int32) (cd : (Nat → Int32) → Nat → Bool) (n f0 : Nat) (_ : Nat) (s : pmT) : pmT :=
  if s.1 ≤ 0 then s else
    (s.1 - (if s.1 ≤ s.2.1 (fo (fiS ca (cd s.2.1)) n (-1)).toNatClampNeg then s.1 else s.2.1 (fo (fiS ca (cd s.2.1)) n (-1)).toNatClampNeg), upd s.2.1 (fo (fiS ca (cd s.2.1)) n (-1)).toNatClampNeg (s.2.1 (fo (fiS ca (cd s.2.1)) n (-1)).toNatClampNeg - (if s.1 ≤ s.2.1 (fo (fiS ca (cd s.2.1)) n (-1)).toNatClampNeg then s.1 else s.2.1 (fo (fiS ca (cd s.2.1)) n (-1)).toNatClampNeg)), upd s.2.2 (f0 + (fo (fiS ca (cd s.2.1)) n (-1)).toNatClampNeg) (s.2.2 (f0 + (fo (fiS ca (cd s.2.1)) n (-1)).toNatClampNeg) + (if s.1 ≤ s.2.1 (fo (fiS ca (cd s.2.1)) n (-1)).toNatClampNeg then s.1 else s.2.1 (fo (fiS ca (cd s.2.1)) n (-1)).toNatClampNeg)))
theorem pmG_ok {μ : mm_M} {n c k : Nat} : pmS μ n c k = pmG (μ 51) (fun lf => cdB (hs μ 50 lf) k) n (c * 60) := rfl
/-- what holds behind the first i lots -/
def TkI (us fr : Nat → Bool) (o : Nat → Nat) (f0 n i : Nat) (d : Int32) (s : pmT) : Prop := (∀ j, j < n → 0 ≤ (s.2.1 j).toInt ∧ (fr j = false → s.2.1 j = 0)) ∧ (∀ i', i ≤ i' → i' < n → s.2.2 (f0 + o i') = 0) ∧ (s.1 ≤ 0 ∨ ∀ i', i' < i → us (o i') = true → s.2.1 (o i') = 0) ∧ s.1 - su (fun j => if us j = true then s.2.1 j else 0) n = d
theorem TkI_step {ca od re sz : Nat → Int32} {t d : Int32} {cd : (Nat → Int32) → Nat → Bool} {fr : Nat → Bool} {o : Nat → Nat} {f0 n i m : Nat} {s : pmT} (hn : n ≤ 60) (hod : ∀ i, i < n → od i = nI (o i)) (hS : Srt ca n o) (hcd : ∀ lf j, cd lf j = true ↔ (fr j = true ∧ ¬ lf j ≤ 0 ∧ usB re sz t j = true)) (hi : i < n) (h : TkI (usB re sz t) fr o f0 n i d s) : TkI (usB re sz t) fr o f0 n (i + 1) d (tkS od re sz t f0 i s) ∧ (tkS od re sz t f0 i s = s ∨ (tkS od re sz t f0 i s = pmG ca cd n f0 m s ∧ ∃ j, j < n ∧ fo (fiS ca (cd s.2.1)) n (-1) = nI j)) := by
  obtain ⟨a1, a2, a3, a4⟩ := h
  have hoi := hS.1 i hi
  unfold tkS
  rw [hod i hi, nI_cl (by omega)]
  by_cases c1 : s.1 ≤ 0
  · rw [if_pos c1]
    exact ⟨⟨a1, fun i' h1 h2 => a2 i' (by omega) h2, Or.inl c1, a4⟩, Or.inl rfl⟩
  · rw [if_neg c1]
    have a3 : ∀ i', i' < i → usB re sz t (o i') = true → s.2.1 (o i') = 0 := a3.resolve_left c1
    have c1' : 0 < s.1.toInt := by
      rw [i_le, i_0] at c1
      omega
    by_cases c2 : usB re sz t (o i) = true
    · rw [if_pos c2]
      have l0 := a1 (o i) hoi
      by_cases c3 : s.2.1 (o i) = 0
      · have e1 : (if s.1 < s.2.1 (o i) then s.1 else s.2.1 (o i)) = 0 := by
          rw [c3, if_neg (by rw [i_lt, i_0]; omega)]
        have e2 : upd s.2.2 (f0 + o i) 0 = s.2.2 := by
          have := a2 i (Nat.le_refl i) hi
          rw [← this, upd_id]
        have e3 : upd s.2.1 (o i) (s.2.1 (o i) - 0) = s.2.1 := by
          rw [Int32.sub_zero, upd_id]
        have e4 : ((s.1 - (0 : Int32), upd s.2.1 (o i) (s.2.1 (o i) - 0), upd s.2.2 (f0 + o i) 0) : pmT) = s := by
          rw [e2, e3, Int32.sub_zero]
        rw [e1, e4]
        refine ⟨⟨a1, fun i' h1 h2 => a2 i' (by omega) h2, Or.inr (fun i' h1 h2 => ?_), a4⟩, Or.inl rfl⟩
        by_cases e : i' = i
        · subst e
          exact c3
        · exact a3 i' (by omega) h2
      · have lp : 0 < (s.2.1 (o i)).toInt := by
          have : ¬ (s.2.1 (o i)).toInt = 0 := fun z => c3 (by rw [i_eq, i_0]; exact z)
          have := l0.1
          omega
        have f1 : fr (o i) = true := by
          cases z : fr (o i)
          · exact absurd (l0.2 z) c3
          · rfl
        have fst : fo (fiS ca (cd s.2.1)) n (-1) = nI (o i) := by
          refine fi_is hn hoi ((hcd _ _).mpr ⟨f1, by rw [i_le, i_0]; omega, c2⟩) (fun j hj hc => ?_)
          obtain ⟨b1, b2, b3⟩ := (hcd _ _).mp hc
          obtain ⟨p, hp, ep⟩ := hS.2.2 j hj
          subst ep
          rcases Nat.lt_trichotomy p i with g | g | g
          · exact absurd (by rw [a3 p g b3]; decide) b2
          · subst g
            exact Or.inr ⟨rfl, Nat.le_refl _⟩
          · rcases hS.2.1 i p g hp with w | w
            · exact Or.inl w
            · exact Or.inr ⟨w.1, by omega⟩
        have eq : (if s.1 ≤ s.2.1 (o i) then s.1 else s.2.1 (o i)) = (if s.1 < s.2.1 (o i) then s.1 else s.2.1 (o i)) := by
          by_cases g : s.1 < s.2.1 (o i)
          · rw [if_pos g, if_pos (by rw [i_le]; rw [i_lt] at g; omega)]
          · rw [if_neg g]
            by_cases g2 : s.1 ≤ s.2.1 (o i)
            · rw [if_pos g2, i_eq]
              rw [i_le] at g2
              rw [i_lt] at g
              omega
            · rw [if_neg g2]
        refine ⟨?_, Or.inr ⟨?_, o i, hoi, fst⟩⟩
        · generalize hq : (if s.1 < s.2.1 (o i) then s.1 else s.2.1 (o i)) = q
          have hq2 : (q = s.1 ∧ s.1 < s.2.1 (o i)) ∨ q = s.2.1 (o i) := by
            by_cases g : s.1 < s.2.1 (o i)
            · rw [if_pos g] at hq; exact Or.inl ⟨hq.symm, g⟩
            · rw [if_neg g] at hq; exact Or.inr hq.symm
          refine ⟨fun j hj => ?_, fun i' h1 h2 => ?_, ?_, ?_⟩
          · show 0 ≤ (upd s.2.1 (o i) (s.2.1 (o i) - q) j).toInt ∧ (fr j = false → upd s.2.1 (o i) (s.2.1 (o i) - q) j = 0)
            by_cases e : j = o i
            · subst e
              rw [upd_s]
              refine ⟨?_, fun z => by rw [f1] at z; exact absurd z (by decide)⟩
              rcases hq2 with ⟨w, v⟩ | w
              · rw [i_lt] at v
                have := i_hi (s.2.1 (o i))
                rw [w, i_sub (by omega) (by omega)]
                omega
              · rw [w, Int32.sub_self]
                decide
            · rw [upd_n e]
              exact a1 j hj
          · show upd s.2.2 (f0 + o i) q (f0 + o i') = 0
            have ne : ¬ o i' = o i := fun z => by
              rcases hS.2.1 i i' (by omega) h2 with w | w
              · rw [z, i_lt] at w; omega
              · omega
            rw [upd_n (by omega)]
            exact a2 i' (by omega) h2
          · show s.1 - q ≤ 0 ∨ ∀ i', i' < i + 1 → usB re sz t (o i') = true → upd s.2.1 (o i) (s.2.1 (o i) - q) (o i') = 0
            rcases hq2 with ⟨w, v⟩ | w
            · left
              rw [w, Int32.sub_self]
              decide
            · right
              intro i' h1 h2
              rw [w, Int32.sub_self]
              by_cases e : o i' = o i
              · rw [e, upd_s]
              · rw [upd_n e]
                by_cases e2 : i' = i
                · subst e2; exact absurd rfl e
                · exact a3 i' (by omega) h2
          · show s.1 - q - su (fun j => if usB re sz t j = true then upd s.2.1 (o i) (s.2.1 (o i) - q) j else 0) n = d
            have ef : (fun j => if usB re sz t j = true then upd s.2.1 (o i) (s.2.1 (o i) - q) j else 0) = upd (fun j => if usB re sz t j = true then s.2.1 j else 0) (o i) (s.2.1 (o i) - q) := by
              funext j
              by_cases e : j = o i
              · subst e
                rw [upd_s, upd_s, if_pos c2]
              · rw [upd_n e, upd_n e]
            rw [ef, su_upd, if_pos hoi, if_pos c2, ← a4]
            generalize su (fun j => if usB re sz t j = true then s.2.1 j else 0) n = G
            generalize s.2.1 (o i) = L
            generalize s.1 = A
            grind
        · unfold pmG
          rw [if_neg c1, fst, nI_cl (by omega), eq, a2 i (Nat.le_refl i) hi, Int32.zero_add]
    · rw [if_neg c2]
      refine ⟨⟨a1, fun i' h1 h2 => a2 i' (by omega) h2, Or.inr (fun i' h1 h2 => ?_), a4⟩, Or.inl rfl⟩
      by_cases e : i' = i
      · subst e
        exact absurd h2 c2
      · exact a3 i' (by omega) h2
