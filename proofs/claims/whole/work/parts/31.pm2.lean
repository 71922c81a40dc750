/-! the reference's planner: codes of plans -/
def rq (P : Nat → Nat) (c : Nat) : Nat → Nat
  | 0 => c
  | m + 1 => if 1 ≤ P (3 - m) then rq P c m / 21 else rq P c m
def dig (P : Nat → Nat) (c k : Nat) : Nat := if 1 ≤ P k then rq P c (3 - k) % 21 else 0
def aL (P : Nat → Nat) : Nat → Nat
  | 0 => 1
  | k + 1 => aL P k * (if 1 ≤ P k then 21 else 1)
def en (P n : Nat → Nat) : Nat → Nat
  | 0 => 0
  | j + 1 => if 1 ≤ P j then en P n j * 21 + n j else en P n j
def cd (n : Nat → Nat) : Nat → Nat
  | 0 => 0
  | j + 1 => cd n j * 21 + n j
theorem cd_4 {n : Nat → Nat} : cd n 4 = cod n := by
  unfold cod
  show (((0 * 21 + n 0) * 21 + n 1) * 21 + n 2) * 21 + n 3 = _
  omega
/-- a plan that has a code -/
def Ok (P n : Nat → Nat) : Prop := ∀ k, k < 4 → n k ≤ 20 ∧ (P k = 0 → n k = 0)
section PM2
variable {P n n' : Nat → Nat}
theorem en_lt (h : Ok P n) : ∀ j, j ≤ 4 → en P n j < aL P j
  | 0, _ => by show 0 < 1; omega
  | j + 1, hj => by
    have ih := en_lt h j (by omega)
    have h1 := (h j (by omega)).1
    unfold en aL
    by_cases e : 1 ≤ P j
    · rw [if_pos e, if_pos e]
      omega
    · rw [if_neg e, if_neg e]
      omega
theorem en_cd (h : Ok P n) (h' : Ok P n') : ∀ j, j ≤ 4 → (en P n j < en P n' j → cd n j < cd n' j) ∧ (en P n j = en P n' j → cd n j = cd n' j)
  | 0, _ => ⟨fun h => absurd h (Nat.lt_irrefl _), fun _ => rfl⟩
  | j + 1, hj => by
    have ih := en_cd h h' j (by omega)
    have a := h j (by omega)
    have b := h' j (by omega)
    unfold en cd
    by_cases e : 1 ≤ P j
    · rw [if_pos e, if_pos e]
      rcases Nat.lt_trichotomy (en P n j) (en P n' j) with g | g | g
      · have := ih.1 g
        constructor <;> intro _ <;> omega
      · have := ih.2 g
        constructor <;> intro _ <;> omega
      · constructor <;> intro _ <;> omega
    · rw [if_neg e, if_neg e, a.2 (by omega), b.2 (by omega)]
      constructor
      · intro g
        have := ih.1 g
        omega
      · intro g
        have := ih.2 g
        omega
theorem rq_en (h : Ok P n) : ∀ m, m ≤ 4 → rq P (en P n 4) m = en P n (4 - m)
  | 0, _ => rfl
  | m + 1, hm => by
    have ih := rq_en h m (by omega)
    have h1 := (h (3 - m) (by omega)).1
    unfold rq
    rw [ih, show 4 - m = (3 - m) + 1 by omega, show 4 - (m + 1) = 3 - m by omega]
    rw [show en P n (3 - m + 1) = if 1 ≤ P (3 - m) then en P n (3 - m) * 21 + n (3 - m) else en P n (3 - m) from rfl]
    by_cases e : 1 ≤ P (3 - m)
    · rw [if_pos e, if_pos e]
      omega
    · rw [if_neg e, if_neg e]
theorem dig_en (h : Ok P n) {k : Nat} (hk : k < 4) : dig P (en P n 4) k = n k := by
  have h1 := h k hk
  unfold dig
  by_cases e : 1 ≤ P k
  · rw [if_pos e, rq_en h (3 - k) (by omega), show 4 - (3 - k) = k + 1 by omega]
    rw [show en P n (k + 1) = if 1 ≤ P k then en P n k * 21 + n k else en P n k from rfl, if_pos e]
    omega
  · rw [if_neg e, h1.2 (by omega)]
theorem dig_ok (c : Nat) : Ok P (dig P c) := fun k _ => by
  unfold dig
  by_cases e : 1 ≤ P k
  · rw [if_pos e]
    exact ⟨by omega, fun z => by omega⟩
  · rw [if_neg e]
    exact ⟨by omega, fun _ => rfl⟩
theorem en_ext (h : ∀ k, k < 4 → n k = n' k) : ∀ j, j ≤ 4 → en P n j = en P n' j
  | 0, _ => rfl
  | j + 1, hj => by
    unfold en
    rw [en_ext h j (by omega), h j (by omega)]
/-- a code is what its plan's code is -/
theorem en_dig : ∀ m, m ≤ 4 → ∀ c, c < aL P 4 → rq P c m < aL P (4 - m) ∧ (m = 4 → rq P c m = 0)
  | 0, _, c, hc => ⟨hc, fun z => by omega⟩
  | m + 1, hm, c, hc => by
    have ih := (en_dig m (by omega) c hc).1
    rw [show 4 - m = (3 - m) + 1 by omega, show aL P (3 - m + 1) = aL P (3 - m) * (if 1 ≤ P (3 - m) then 21 else 1) from rfl] at ih
    have key : rq P c (m + 1) < aL P (4 - (m + 1)) := by
      unfold rq
      rw [show 4 - (m + 1) = 3 - m by omega]
      by_cases e : 1 ≤ P (3 - m)
      · rw [if_pos e] at ih ⊢
        omega
      · rw [if_neg e] at ih ⊢
        omega
    refine ⟨key, fun z => ?_⟩
    have : m = 3 := by omega
    subst this
    have : rq P c 4 < 1 := key
    show rq P c 4 = 0
    omega
theorem en_rq {c : Nat} (hc : c < aL P 4) : ∀ j, j ≤ 4 → en P (dig P c) j = rq P c (4 - j)
  | 0, _ => ((en_dig 4 (Nat.le_refl 4) c hc).2 rfl).symm
  | j + 1, hj => by
    have ih := en_rq hc j (by omega)
    unfold en
    rw [ih, show 4 - j = (3 - j) + 1 by omega, show 4 - (j + 1) = 3 - j by omega]
    rw [show rq P c (3 - j + 1) = if 1 ≤ P (3 - (3 - j)) then rq P c (3 - j) / 21 else rq P c (3 - j) from rfl, show 3 - (3 - j) = j by omega]
    by_cases e : 1 ≤ P j
    · rw [if_pos e, if_pos e]
      unfold dig
      rw [if_pos e]
      omega
    · rw [if_neg e, if_neg e]
theorem dig_mono {c c' : Nat} (hc : c < aL P 4) (hc' : c' < aL P 4) (h : c ≤ c') : cod (dig P c) ≤ cod (dig P c') := by
  have k := en_cd (dig_ok (P := P) c) (dig_ok (P := P) c') 4 (Nat.le_refl 4)
  rw [en_rq hc 4 (Nat.le_refl 4), en_rq hc' 4 (Nat.le_refl 4), cd_4, cd_4] at k
  have k1 : c < c' → cod (dig P c) < cod (dig P c') := k.1
  by_cases e : c = c'
  · rw [e]; exact Nat.le_refl _
  · have := k1 (by omega)
    omega
theorem aL_le : ∀ j, 1 ≤ aL P j ∧ aL P j ≤ 21 ^ j
  | 0 => ⟨Nat.le_refl _, Nat.le_refl _⟩
  | j + 1 => by
    have ih := aL_le j
    unfold aL
    rw [Nat.pow_succ]
    by_cases e : 1 ≤ P j
    · rw [if_pos e]
      omega
    · rw [if_neg e]
      omega
/-- what the enumeration knows behind the first c codes -/
def EnI (P F T S M R : Nat → Nat) (c : Nat) (bw : Int32) (be : Nat → Int32) : Prop :=
  ((∀ d, d < c → ¬ pf F T S M R 4 (dig P d)) ∧ bw = -1) ∨ ∃ d, d < c ∧ d < aL P 4 ∧ bw = nI (wo P (dig P d) 4) ∧ (∀ k, k < 4 → be k = nI (dig P d k)) ∧ pf F T S M R 4 (dig P d) ∧ ∀ d', d' < c → pf F T S M R 4 (dig P d') → wo P (dig P d') 4 < wo P (dig P d) 4 ∨ (wo P (dig P d') 4 = wo P (dig P d) 4 ∧ d ≤ d')
theorem pf_dig {F T S M R : Nat → Nat} (hPF : ∀ k, k < 4 → (1 ≤ F k ↔ 1 ≤ P k)) {n : Nat → Nat} (h : pf F T S M R 4 n) : Ok P n := fun k hk => ⟨(h.1 k hk).1, fun z => (h.1 k hk).2 (by have := hPF k hk; omega)⟩
theorem pf_ext {F T S M R : Nat → Nat} {n n' : Nat → Nat} (e : Ext 4 n n') (h : pf F T S M R 4 n) : pf F T S M R 4 n' := ⟨fun k hk => by rw [e k hk]; exact h.1 k hk, fun s hs => by rw [uM_ext 4 e]; exact h.2.1 s hs, fun a h1 h2 => by rw [uR_ext 4 e]; exact h.2.2 a h1 h2⟩
theorem pf_0 {F T S M R : Nat → Nat} : pf F T S M R 4 (fun _ => 0) := by
  refine ⟨fun k _ => ⟨Nat.zero_le _, fun _ => rfl⟩, fun s _ => ?_, fun a _ _ => ?_⟩
  · have : ∀ j, uM S (fun _ => 0) s j = 0 := by
      intro j
      induction j with
      | zero => rfl
      | succ j ih => unfold uM; rw [ih]; split <;> rfl
    rw [this]; exact Nat.zero_le _
  · have : ∀ j, uR F T (fun _ => 0) a j = 0 := by
      intro j
      induction j with
      | zero => rfl
      | succ j ih => unfold uR; rw [ih]; split <;> simp
    rw [this]; exact Nat.zero_le _
theorem EnI_end {F T S M R : Nat → Nat} {bw : Int32} {be : Nat → Int32} (hPF : ∀ k, k < 4 → (1 ≤ F k ↔ 1 ≤ P k)) (h : EnI P F T S M R (aL P 4) bw be) : ∃ b w, Opt P F T S M R b w ∧ (∀ k, k < 4 → be k = nI (b k)) ∧ bw = nI w := by
  have cv : ∀ n, pf F T S M R 4 n → en P n 4 < aL P 4 ∧ Ext 4 n (dig P (en P n 4)) := fun n hn => ⟨en_lt (pf_dig hPF hn) 4 (Nat.le_refl 4), fun k hk => dig_en (pf_dig hPF hn) hk⟩
  rcases h with ⟨h, -⟩ | ⟨d, h1, h2, h3, h4, h5, h6⟩
  · have := cv _ pf_0
    exact absurd (pf_ext this.2 pf_0) (h _ this.1)
  · refine ⟨dig P d, wo P (dig P d) 4, ⟨h5, rfl, fun n hn => ?_⟩, h4, h3⟩
    have c1 := cv n hn
    have c2 := h6 _ c1.1 (pf_ext c1.2 hn)
    rw [wo_ext 4 c1.2] at c2
    rcases c2 with c2 | ⟨c2, c3⟩
    · exact Or.inl c2
    · refine Or.inr ⟨c2, ?_⟩
      have := dig_mono h2 c1.1 c3
      have e : cod (dig P (en P n 4)) = cod n := by
        unfold cod
        rw [c1.2 0 (by omega), c1.2 1 (by omega), c1.2 2 (by omega), c1.2 3 (by omega)]
      omega
end PM2
