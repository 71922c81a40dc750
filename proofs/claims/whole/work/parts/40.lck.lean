/-! what a contract lacks -/
def zr (f : Nat → Int32) (o : Nat → Nat) : Nat → Nat → Int32
  | 0 => f
  | i + 1 => upd (zr f o i) (o i) 0
theorem zr_n {f : Nat → Int32} {o : Nat → Nat} {c : Nat} : ∀ i, (∀ k, k < i → ¬ o k = c) → zr f o i c = f c
  | 0, _ => rfl
  | i + 1, h => by
    show upd (zr f o i) (o i) 0 c = f c
    rw [upd_n (fun z => h i (by omega) z.symm), zr_n i (fun k hk => h k (by omega))]
theorem zr_0 {f : Nat → Int32} {o : Nat → Nat} {c : Nat} : ∀ i, (∃ k, k < i ∧ o k = c) → zr f o i c = 0
  | 0, h => by obtain ⟨k, hk, -⟩ := h; omega
  | i + 1, h => by
    show upd (zr f o i) (o i) 0 c = 0
    by_cases e : c = o i
    · rw [e, upd_s]
    · rw [upd_n e]
      obtain ⟨k, hk, ek⟩ := h
      refine zr_0 i ⟨k, ?_, ek⟩
      by_cases e2 : k = i
      · subst e2; exact absurd ek.symm e
      · omega
theorem Srt.ne {ky : Nat → Int32} {n : Nat} {o : Nat → Nat} (h : Srt ky n o) {i i' : Nat} (h1 : i < i') (h2 : i' < n) : ¬ o i = o i' := fun z => by
  rcases h.2.1 i i' h1 h2 with w | w
  · rw [z, i_lt] at w; omega
  · omega
/-- a sum in another order -/
theorem su_perm {ky f : Nat → Int32} {n : Nat} {o : Nat → Nat} (h : Srt ky n o) : su f n = su (fun i => f (o i)) n := by
  have lp : ∀ i, i ≤ n → su (zr f o i) n + su (fun i => f (o i)) i = su f n := by
    intro i
    induction i with
    | zero => exact fun _ => Int32.add_zero _
    | succ i ih =>
      intro hi
      have e := ih (by omega)
      show su (upd (zr f o i) (o i) 0) n + (su (fun i => f (o i)) i + f (o i)) = su f n
      rw [su_upd, if_pos (h.1 i (by omega)), zr_n i (fun k hk => h.ne hk (by omega)), ← e]
      generalize su (zr f o i) n = A
      generalize su (fun i => f (o i)) i = B
      generalize f (o i) = C
      grind
  have e := lp n (Nat.le_refl n)
  rw [su_0 n (fun j hj => zr_0 n (h.2.2 j hj)), Int32.zero_add] at e
  exact e.symm
theorem su_cut {f : Nat → Int32} {q : Nat} : ∀ n, q ≤ n → (∀ i, q ≤ i → i < n → f i = 0) → su f n = su f q
  | 0, h, _ => by rw [show q = 0 by omega]
  | n + 1, h, hz => by
    by_cases e : q = n + 1
    · rw [e]
    · show su f n + f n = su f q
      rw [hz n (by omega) (by omega), Int32.add_zero]
      exact su_cut n (by omega) (fun i h1 h2 => hz i h1 (by omega))
theorem lk_all {wk od ov kd wa ha : Nat → Int32} {n j : Nat} (hn : n ≤ 60) (hO : OrdI wk od n) (hj : j < n) (hb : ∀ c, c < n → 0 ≤ (ha c).toInt ∧ (ha c).toInt ≤ (wa c).toInt ∧ (wa c).toInt ≤ 500) : ∃ q, q < n ∧ od q = nI j ∧ (∀ i, i < q → ¬ od i = nI j) ∧ ∀ T : Int32, 0 ≤ T.toInt → ∀ B, B = su (fun c => if bfB wk ov kd j c = true then wa c - ha c else 0) n → fo (shS od ov kd wa ha (kd j)) q T = (if T ≤ B then 0 else T - B) ∧ 0 ≤ (fo (shS od ov kd wa ha (kd j)) q T).toInt := by
  obtain ⟨o, hod, hS⟩ := hO
  obtain ⟨q, hq, eq⟩ := hS.2.2 j hj
  refine ⟨q, hq, by rw [hod q hq, eq], fun i hi z => ?_, fun T hT B hB => ?_⟩
  · rw [hod i (by omega), ← eq] at z
    have := hS.1 i (by omega)
    have := hS.1 q hq
    exact hS.ne hi hq (nI_inj2 (by omega) (by omega) z)
  · have ah : ∀ i, i < n → (ahB wk j (o i) = true ↔ i < q) := fun i hi => by
      unfold ahB
      rw [Bool.or_eq_true, Bool.and_eq_true, decide_eq_true_eq, decide_eq_true_eq, decide_eq_true_eq, ← eq, i_lt, i_eq]
      rcases Nat.lt_trichotomy i q with g | g | g
      · have := hS.2.1 i q g hq
        rw [i_lt, i_eq] at this
        omega
      · subst g
        omega
      · have := hS.2.1 q i g hi
        rw [i_lt, i_eq] at this
        omega
    have bf : ∀ i, i < n → (bfB wk ov kd j (o i) = true ↔ (ov (o i) = 0 ∧ kd (o i) = kd j) ∧ i < q) := fun i hi => by
      unfold bfB
      rw [Bool.and_eq_true, Bool.and_eq_true, decide_eq_true_eq, decide_eq_true_eq, ah i hi]
    rw [su_perm hS, su_cut (q := q) n (by omega) (fun i h1 h2 => if_neg (fun z => by have := ((bf i h2).mp z).2; omega))] at hB
    have lp : ∀ i, i ≤ q → 0 ≤ (su (fun i => if bfB wk ov kd j (o i) = true then wa (o i) - ha (o i) else 0) i).toInt ∧ (su (fun i => if bfB wk ov kd j (o i) = true then wa (o i) - ha (o i) else 0) i).toInt ≤ i * 500 ∧ (fo (shS od ov kd wa ha (kd j)) i T).toInt = max 0 (T.toInt - (su (fun i => if bfB wk ov kd j (o i) = true then wa (o i) - ha (o i) else 0) i).toInt) := by
      intro i
      induction i with
      | zero =>
        intro _
        refine ⟨(by decide : (0 : Int) ≤ (0 : Int32).toInt), (by decide : (0 : Int32).toInt ≤ ((0 : Nat) : Int) * 500), ?_⟩
        show T.toInt = max 0 (T.toInt - (0 : Int32).toInt)
        rw [i_0]
        omega
      | succ i ih =>
        intro hi
        obtain ⟨g1, g2, g3⟩ := ih (by omega)
        have hbi := hb (o i) (hS.1 i (by omega))
        have oi := hS.1 i (by omega)
        have ed : (wa (o i) - ha (o i)).toInt = (wa (o i)).toInt - (ha (o i)).toInt := i_sub (by omega) (by omega)
        have e1 : su (fun i => if bfB wk ov kd j (o i) = true then wa (o i) - ha (o i) else 0) (i + 1) = su (fun i => if bfB wk ov kd j (o i) = true then wa (o i) - ha (o i) else 0) i + (if bfB wk ov kd j (o i) = true then wa (o i) - ha (o i) else 0) := rfl
        have e2 : fo (shS od ov kd wa ha (kd j)) (i + 1) T = shS od ov kd wa ha (kd j) i (fo (shS od ov kd wa ha (kd j)) i T) := rfl
        rw [e1, e2]
        generalize su (fun i => if bfB wk ov kd j (o i) = true then wa (o i) - ha (o i) else 0) i = G at *
        generalize fo (shS od ov kd wa ha (kd j)) i T = r at *
        have Th := i_hi T
        unfold shS
        rw [hod i (by omega), nI_cl (by omega)]
        by_cases c : ov (o i) = 0 ∧ kd (o i) = kd j
        · rw [if_pos c, if_pos ((bf i (by omega)).mpr ⟨c, by omega⟩)]
          have ea : (G + (wa (o i) - ha (o i))).toInt = G.toInt + ((wa (o i)).toInt - (ha (o i)).toInt) := by
            rw [i_add (by omega) (by omega), ed]
          refine ⟨by omega, by omega, ?_⟩
          rw [ea]
          by_cases g : r < wa (o i) - ha (o i)
          · rw [if_pos g, Int32.sub_self, i_0]
            rw [i_lt, ed] at g
            omega
          · rw [if_neg g]
            rw [i_lt, ed] at g
            rw [i_sub (by omega) (by omega), ed]
            omega
        · rw [if_neg c, if_neg (fun z => c ((bf i (by omega)).mp z).1), Int32.add_zero]
          exact ⟨g1, by omega, g3⟩
    obtain ⟨g1, g2, g3⟩ := lp q (Nat.le_refl q)
    rw [← hB] at g1 g2 g3
    have Th := i_hi T
    refine ⟨?_, by rw [g3]; omega⟩
    rw [i_eq, g3]
    by_cases c : T ≤ B
    · rw [if_pos c, i_0]
      rw [i_le] at c
      omega
    · rw [if_neg c]
      rw [i_le] at c
      rw [i_sub (by omega) (by omega)]
      omega
