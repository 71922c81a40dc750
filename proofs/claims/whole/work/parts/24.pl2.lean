/-! the plan, as numbers -/
/-- what the first j kinds of a plan take of a sauce, of a set of sizes, and are worth -/
def uM (S n : Nat → Nat) (s : Nat) : Nat → Nat
  | 0 => 0
  | j + 1 => uM S n s j + (if S j = s then n j else 0)
def uR (F T n : Nat → Nat) (a : Nat) : Nat → Nat
  | 0 => 0
  | j + 1 => uR F T n a j + (if sup a (T j) = true then n j * F j else 0)
def wo (P n : Nat → Nat) : Nat → Nat
  | 0 => 0
  | j + 1 => wo P n j + n j * P j
def cod (n : Nat → Nat) : Nat := n 0 * 9261 + n 1 * 441 + n 2 * 21 + n 3
/-- the first j kinds of a plan can be -/
def pf (F T S M R : Nat → Nat) (j : Nat) (t : Nat → Nat) : Prop := (∀ k, k < j → t k ≤ 20 ∧ (F k = 0 → t k = 0)) ∧ (∀ s, s < 2 → uM S t s j ≤ M s) ∧ ∀ a, 1 ≤ a → a ≤ 7 → uR F T t a j ≤ R a
def Ext (j : Nat) (t n : Nat → Nat) : Prop := ∀ k, k < j → n k = t k
def Gt (j : Nat) (t n : Nat → Nat) : Prop := ∃ i, i < j ∧ (∀ k, k < i → n k = t k) ∧ t i < n i
/-- what is known of the best plan so far, of those in V -/
def St (P F T S M R : Nat → Nat) (V : (Nat → Nat) → Prop) (b : Nat → Nat) (w : Nat) : Prop :=
  (∀ n, pf F T S M R 4 n → V n → wo P n 4 < w ∨ (wo P n 4 = w ∧ cod b ≤ cod n ∧ pf F T S M R 4 b ∧ wo P b 4 = w)) ∧ (w = 0 ∨ (pf F T S M R 4 b ∧ wo P b 4 = w))
def Opt (P F T S M R : Nat → Nat) (b : Nat → Nat) (w : Nat) : Prop := pf F T S M R 4 b ∧ wo P b 4 = w ∧ ∀ n, pf F T S M R 4 n → wo P n 4 < w ∨ (wo P n 4 = w ∧ cod b ≤ cod n)
section PL2
variable {P F T S M R : Nat → Nat}
theorem uM_ext {S t n : Nat → Nat} {s : Nat} : ∀ j, Ext j t n → uM S n s j = uM S t s j
  | 0, _ => rfl
  | j + 1, h => by
    unfold uM
    rw [uM_ext j (fun k hk => h k (by omega)), h j (by omega)]
theorem uR_ext {F T t n : Nat → Nat} {a : Nat} : ∀ j, Ext j t n → uR F T n a j = uR F T t a j
  | 0, _ => rfl
  | j + 1, h => by
    unfold uR
    rw [uR_ext j (fun k hk => h k (by omega)), h j (by omega)]
theorem wo_ext {P t n : Nat → Nat} : ∀ j, Ext j t n → wo P n j = wo P t j
  | 0, _ => rfl
  | j + 1, h => by
    unfold wo
    rw [wo_ext j (fun k hk => h k (by omega)), h j (by omega)]
theorem uM_mono {S n : Nat → Nat} {s : Nat} : ∀ {i j}, i ≤ j → uM S n s i ≤ uM S n s j := by
  intro i j h
  induction j with
  | zero => rw [show i = 0 by omega]; exact Nat.le_refl _
  | succ j ih =>
    by_cases e : i = j + 1
    · rw [e]; exact Nat.le_refl _
    · have := ih (by omega)
      have e2 : uM S n s (j + 1) = uM S n s j + (if S j = s then n j else 0) := rfl
      omega
theorem uR_mono {F T n : Nat → Nat} {a : Nat} : ∀ {i j}, i ≤ j → uR F T n a i ≤ uR F T n a j := by
  intro i j h
  induction j with
  | zero => rw [show i = 0 by omega]; exact Nat.le_refl _
  | succ j ih =>
    by_cases e : i = j + 1
    · rw [e]; exact Nat.le_refl _
    · have := ih (by omega)
      have e2 : uR F T n a (j + 1) = uR F T n a j + (if sup a (T j) = true then n j * F j else 0) := rfl
      omega
theorem pf_sub {i j : Nat} {n : Nat → Nat} (h : i ≤ j) (hp : pf F T S M R j n) : pf F T S M R i n := ⟨fun k hk => hp.1 k (by omega), fun s hs => Nat.le_trans (uM_mono h) (hp.2.1 s hs), fun a h1 h2 => Nat.le_trans (uR_mono h) (hp.2.2 a h1 h2)⟩
/-- a prefix with one kind more -/
def ux (t : Nat → Nat) (j x : Nat) : Nat → Nat := fun k => if k = j then x else t k
theorem ux_ext {t : Nat → Nat} {j x : Nat} : Ext j t (ux t j x) := fun k hk => if_neg (by omega)
theorem ux_s {t : Nat → Nat} {j x : Nat} : ux t j x j = x := if_pos rfl
theorem gt_ux {t n : Nat → Nat} {j x : Nat} : Gt (j + 1) (ux t j x) n ↔ Gt j t n ∨ (Ext j t n ∧ x < n j) := by
  constructor
  · rintro ⟨i, hi, h1, h2⟩
    by_cases e : i = j
    · subst e
      rw [ux_s] at h2
      exact Or.inr ⟨fun k hk => by rw [h1 k hk]; exact ux_ext k hk, h2⟩
    · refine Or.inl ⟨i, by omega, fun k hk => ?_, ?_⟩
      · rw [h1 k hk]; exact ux_ext k (by omega)
      · have := ux_ext (t := t) (x := x) i (show i < j by omega)
        rw [this] at h2; exact h2
  · rintro (⟨i, hi, h1, h2⟩ | ⟨h1, h2⟩)
    · refine ⟨i, by omega, fun k hk => ?_, ?_⟩
      · rw [h1 k hk]; exact (ux_ext k (by omega)).symm
      · have := ux_ext (t := t) (x := x) i (show i < j by omega)
        rw [this]; exact h2
    · refine ⟨j, by omega, fun k hk => ?_, ?_⟩
      · rw [h1 k hk]; exact (ux_ext k hk).symm
      · rw [ux_s]; exact h2
theorem ext_ux {t n : Nat → Nat} {j x : Nat} : Ext (j + 1) (ux t j x) n ↔ Ext j t n ∧ n j = x := by
  constructor
  · intro h
    refine ⟨fun k hk => ?_, ?_⟩
    · rw [h k (by omega)]; exact ux_ext k hk
    · rw [h j (by omega), ux_s]
  · rintro ⟨h1, h2⟩ k hk
    by_cases e : k = j
    · subst e; rw [ux_s, h2]
    · rw [h1 k (by omega)]; exact (ux_ext k (by omega)).symm
theorem St.mono {V V' : (Nat → Nat) → Prop} {b : Nat → Nat} {w : Nat} (h : St P F T S M R V b w) (hV : ∀ n, pf F T S M R 4 n → V' n → V n ∨ wo P n 4 < w) : St P F T S M R V' b w := ⟨fun n hn hv => (hV n hn hv).elim (h.1 n hn) Or.inl, h.2⟩
/-- codes follow the order of plans -/
theorem gt_cod {t n : Nat → Nat} (ht : ∀ k, k < 4 → t k ≤ 20) (h : Gt 4 t n) : cod t ≤ cod n := by
  obtain ⟨i, hi, h1, h2⟩ := h
  have a0 := ht 0 (by omega)
  have a1 := ht 1 (by omega)
  have a2 := ht 2 (by omega)
  have a3 := ht 3 (by omega)
  unfold cod
  rcases (show i = 0 ∨ i = 1 ∨ i = 2 ∨ i = 3 by omega) with rfl | rfl | rfl | rfl
  · omega
  · have e0 := h1 0 (by omega)
    omega
  · have e0 := h1 0 (by omega)
    have e1 := h1 1 (by omega)
    omega
  · have e0 := h1 0 (by omega)
    have e1 := h1 1 (by omega)
    have e2 := h1 2 (by omega)
    omega
/-- a leaf that is not kept -/
theorem St.leaf0 {t b : Nat → Nat} {w : Nat} (h : St P F T S M R (Gt 4 t) b w) (hg : wo P t 4 < w) : St P F T S M R (fun n => Gt 4 t n ∨ Ext 4 t n) b w := h.mono (fun n _ hv => hv.elim Or.inl (fun e => Or.inr (by rw [wo_ext 4 e]; exact hg)))
/-- a leaf that is kept -/
theorem St.leaf1 {t b : Nat → Nat} {w : Nat} (ht : pf F T S M R 4 t) (h : St P F T S M R (Gt 4 t) b w) (hg : ¬ wo P t 4 < w) : St P F T S M R (fun n => Gt 4 t n ∨ Ext 4 t n) t (wo P t 4) := by
  refine ⟨fun n hn hv => ?_, Or.inr ⟨ht, rfl⟩⟩
  rcases hv with hv | hv
  · have hc := gt_cod (fun k hk => (ht.1 k hk).1) hv
    rcases h.1 n hn hv with h1 | ⟨h1, -⟩
    · exact Or.inl (by omega)
    · by_cases e : w = wo P t 4
      · exact Or.inr ⟨by omega, hc, ht, rfl⟩
      · exact Or.inl (by omega)
  · have ec : cod t = cod n := by
      unfold cod
      rw [hv 0 (by omega), hv 1 (by omega), hv 2 (by omega), hv 3 (by omega)]
    exact Or.inr ⟨wo_ext 4 hv, by omega, ht, rfl⟩
theorem St.opt {V : (Nat → Nat) → Prop} {b : Nat → Nat} {w : Nat} (h : St P F T S M R V b w) (hV : ∀ n, pf F T S M R 4 n → V n) : Opt P F T S M R b w := by
  have hz : pf F T S M R 4 (fun _ => 0) := by
    refine ⟨fun k _ => ⟨Nat.zero_le _, fun _ => rfl⟩, fun s _ => ?_, fun a _ _ => ?_⟩
    · have : ∀ j, uM S (fun _ => 0) s j = 0 := by
        intro j
        induction j with
        | zero => rfl
        | succ j ih => unfold uM; rw [ih]; split <;> rfl
      rw [this]; exact Nat.zero_le _
    · have : ∀ j, uR F T (fun _ => 0) a j = 0 := by
        intro j
        induction j with
        | zero => rfl
        | succ j ih => unfold uR; rw [ih]; split <;> simp
      rw [this]; exact Nat.zero_le _
  have h0 : pf F T S M R 4 b ∧ wo P b 4 = w := by
    rcases h.1 _ hz (hV _ hz) with h1 | ⟨-, -, h1⟩
    · rcases h.2 with h2 | h2
      · omega
      · exact h2
    · exact h1
  exact ⟨h0.1, h0.2, fun n hn => (h.1 n hn (hV n hn)).elim Or.inl (fun z => Or.inr ⟨z.1, z.2.1⟩)⟩
theorem Opt.uniq {b b' : Nat → Nat} {w w' : Nat} (h : Opt P F T S M R b w) (h' : Opt P F T S M R b' w') : w = w' ∧ ∀ k, k < 4 → b k = b' k := by
  have h1 := h.2.2 b' h'.1
  have h2 := h'.2.2 b h.1
  rw [h'.2.1] at h1
  rw [h.2.1] at h2
  have ew : w = w' := by omega
  have ec : cod b = cod b' := by
    rcases h1 with h1 | ⟨-, h1⟩
    · omega
    · rcases h2 with h2 | ⟨-, h2⟩
      · omega
      · omega
  refine ⟨ew, ?_⟩
  unfold cod at ec
  have a0 := (h.1.1 0 (by omega)).1
  have a1 := (h.1.1 1 (by omega)).1
  have a2 := (h.1.1 2 (by omega)).1
  have a3 := (h.1.1 3 (by omega)).1
  have c0 := (h'.1.1 0 (by omega)).1
  have c1 := (h'.1.1 1 (by omega)).1
  have c2 := (h'.1.1 2 (by omega)).1
  have c3 := (h'.1.1 3 (by omega)).1
  intro k hk
  rcases (show k = 0 ∨ k = 1 ∨ k = 2 ∨ k = 3 by omega) with rfl | rfl | rfl | rfl <;> omega
/-- the most of a kind behind a prefix -/
def mcP (F T S M R : Nat → Nat) (t : Nat → Nat) (j c : Nat) : Prop := (F j = 0 → c = 0) ∧ (1 ≤ F j → ∀ x, x ≤ c ↔ mcO (F j) (M (S j) - uM S t (S j) j) (fun a => R a - uR F T t a j) (T j) 8 x)
theorem mcP_le {t n : Nat → Nat} {j c : Nat} (hj : j < 4) (hS : S j < 2) (hT1 : 1 ≤ F j → 1 ≤ T j) (hT7 : T j ≤ 7) (hc : mcP F T S M R t j c) (hn : pf F T S M R 4 n) (he : Ext j t n) : n j ≤ c := by
  by_cases h0 : F j = 0
  · rw [(hn.1 j hj).2 h0]; exact Nat.zero_le _
  · have h1 : 1 ≤ F j := by omega
    rw [hc.2 h1]
    have hp := pf_sub (show j + 1 ≤ 4 by omega) hn
    refine ⟨(hn.1 j hj).1, ?_, fun a a1 a2 a3 => ?_⟩
    · have := hp.2.1 (S j) hS
      unfold uM at this
      rw [if_pos rfl, uM_ext j he] at this
      omega
    · have := hp.2.2 a (by have := hT1 h1; omega) (by omega)
      unfold uR at this
      rw [if_pos a3, uR_ext j he] at this
      show n j * F j ≤ R a - uR F T t a j
      omega
theorem mcP_pf {t : Nat → Nat} {j c x : Nat} (hj : j < 4) (hT7 : T j ≤ 7) (hc : mcP F T S M R t j c) (ht : pf F T S M R j t) (hx : x ≤ c) : pf F T S M R (j + 1) (ux t j x) := by
  have hmc : 1 ≤ F j → mcO (F j) (M (S j) - uM S t (S j) j) (fun a => R a - uR F T t a j) (T j) 8 x := fun h1 => (hc.2 h1 x).mp hx
  have hx0 : F j = 0 → x = 0 := fun h0 => by have := hc.1 h0; omega
  refine ⟨fun k hk => ?_, fun s hs => ?_, fun a a1 a2 => ?_⟩
  · by_cases e : k = j
    · subst e
      rw [ux_s]
      refine ⟨?_, hx0⟩
      by_cases h0 : F k = 0
      · rw [hx0 h0]; omega
      · exact (hmc (by omega)).1
    · rw [ux_ext k (by omega)]
      exact ht.1 k (by omega)
  · unfold uM
    rw [uM_ext j ux_ext, ux_s]
    have h2 := ht.2.1 s hs
    split
    · next e =>
      subst e
      by_cases h0 : F j = 0
      · rw [hx0 h0]; omega
      · have := (hmc (by omega)).2.1
        omega
    · omega
  · unfold uR
    rw [uR_ext j ux_ext, ux_s]
    have h2 := ht.2.2 a a1 a2
    split
    · next e =>
      by_cases h0 : F j = 0
      · rw [hx0 h0]; omega
      · have hTa : T j ≤ a := by
          have : a &&& T j = T j := of_decide_eq_true e
          have := Nat.and_le_left (n := a) (m := T j)
          omega
        have := (hmc (by omega)).2.2 a hTa (by omega) e
        have this : x * F j ≤ R a - uR F T t a j := this
        omega
    · omega
/-- what kinds from j on can be worth at most -/
theorem wo_hope {n hp c : Nat → Nat} (h4 : hp 4 = 0) (hh : ∀ k, k < 4 → hp k = hp (k + 1) + P k * c k) (hc : ∀ k, k < 4 → n k ≤ c k) : ∀ i j, j + i = 4 → wo P n 4 ≤ wo P n j + hp j
  | 0, j, h => by
    rw [show j = 4 by omega, h4]
    omega
  | i + 1, j, h => by
    have := wo_hope h4 hh hc i (j + 1) (by omega)
    have e := hh j (by omega)
    have hm : n j * P j ≤ P j * c j := by
      rw [Nat.mul_comm]
      exact Nat.mul_le_mul_left _ (hc j (by omega))
    have e2 : wo P n (j + 1) = wo P n j + n j * P j := rfl
    omega
end PL2
