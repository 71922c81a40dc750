/-! rows of memory, loops, numbers -/
/-- a whole row of the memory -/
def hs (μ : mm_M) (c : Nat) (r : Nat → Int32) : mm_M := fun k => if k = c then r else μ k
theorem hs_wr {μ : mm_M} {c i : Nat} {x : Int32} : mm_wr μ c i x = hs μ c (upd (μ c) i x) := by
  funext k
  rfl
theorem hs_cp {μ : mm_M} {a b sp dp n : Nat} : mm_cp μ a b sp dp n = hs μ b (va_cpy (μ a) (μ b) sp dp n) := by
  funext k
  rfl
theorem hs_s {μ : mm_M} {c : Nat} {r : Nat → Int32} : hs μ c r c = r := if_pos rfl
theorem hs_n {μ : mm_M} {c k : Nat} {r : Nat → Int32} (h : k ≠ c) : hs μ c r k = μ k := if_neg h
theorem hs_hs {μ : mm_M} {c : Nat} {r r' : Nat → Int32} : hs (hs μ c r) c r' = hs μ c r' := by
  funext k
  unfold hs
  split <;> rfl
theorem hs_id {μ : mm_M} {c : Nat} : hs μ c (μ c) = μ := by
  funext k
  unfold hs
  split
  · next h => rw [h]
  · rfl
theorem hs_sw {μ : mm_M} {c d : Nat} {r q : Nat → Int32} (h : c ≠ d) : hs (hs μ c r) d q = hs (hs μ d q) c r := by
  funext k
  unfold hs
  by_cases h1 : k = c
  · subst h1
    rw [if_neg h, if_pos rfl, if_pos rfl]
  · rw [if_neg h1, if_neg h1]
theorem upd_s {f : Nat → Int32} {k : Nat} {x : Int32} : upd f k x k = x := if_pos rfl
theorem upd_n {f : Nat → Int32} {k j : Nat} {x : Int32} (h : j ≠ k) : upd f k x j = f j := if_neg h
theorem upd_upd {f : Nat → Int32} {k : Nat} {x y : Int32} : upd (upd f k x) k y = upd f k y := by
  funext j
  unfold upd
  split <;> rfl
theorem upd_id {f : Nat → Int32} {k : Nat} : upd f k (f k) = f := by
  funext j
  unfold upd
  split
  · next h => rw [h]
  · rfl
theorem up_ind {n : Nat} {P : Nat → Prop} (h : ∀ i, i ≤ n → (∀ j, i < j → j ≤ n → P j) → P i) : ∀ i, i ≤ n → P i := by
  have key : ∀ m i, n - i = m → i ≤ n → P i := by
    intro m
    induction m using Nat.strongRecOn with
    | ind m ih =>
      intro i hm hi
      exact h i hi (fun j hj hjn => ih (n - j) (by omega) j rfl hjn)
  exact fun i hi => key _ i rfl hi
/-- a sum of a row -/
def su (f : Nat → Int32) : Nat → Int32
  | 0 => 0
  | n + 1 => su f n + f n
theorem su_congr {f g : Nat → Int32} : ∀ {n : Nat}, (∀ i, i < n → f i = g i) → su f n = su g n
  | 0, _ => rfl
  | n + 1, h => by
    unfold su
    rw [su_congr (fun i hi => h i (by omega)), h n (by omega)]
theorem i_lo (x : Int32) : -2147483648 ≤ x.toInt := by
  have := Int32.le_toInt x
  omega
theorem i_hi (x : Int32) : x.toInt < 2147483648 := by
  have := Int32.toInt_lt x
  omega
theorem i_le {a b : Int32} : a ≤ b ↔ a.toInt ≤ b.toInt := Int32.le_iff_toInt_le
theorem i_lt {a b : Int32} : a < b ↔ a.toInt < b.toInt := Int32.lt_iff_toInt_lt
theorem i_eq {a b : Int32} : a = b ↔ a.toInt = b.toInt := Int32.toInt_inj.symm
theorem i_add {a b : Int32} (h1 : -2147483648 ≤ a.toInt + b.toInt) (h2 : a.toInt + b.toInt < 2147483648) : (a + b).toInt = a.toInt + b.toInt := by
  rw [Int32.toInt_add]
  exact Int.bmod_eq_of_le (by omega) (by omega)
theorem i_sub {a b : Int32} (h1 : -2147483648 ≤ a.toInt - b.toInt) (h2 : a.toInt - b.toInt < 2147483648) : (a - b).toInt = a.toInt - b.toInt := by
  rw [Int32.toInt_sub]
  exact Int.bmod_eq_of_le (by omega) (by omega)
theorem i_mul {a b : Int32} (h1 : -2147483648 ≤ a.toInt * b.toInt) (h2 : a.toInt * b.toInt < 2147483648) : (a * b).toInt = a.toInt * b.toInt := by
  rw [Int32.toInt_mul]
  exact Int.bmod_eq_of_le (by omega) (by omega)
theorem i_nI {n : Nat} (h : n < 2147483648) : (nI n).toInt = n := nI_toInt (by omega)
theorem i_cl {x : Int32} : x.toNatClampNeg = x.toInt.toNat := rfl
theorem i_in {x : Int32} {n : Nat} : vp_in x n ↔ 0 ≤ x.toInt ∧ x.toInt < n := vp_in_iff
theorem i_of {x : Int32} (h : 0 ≤ x.toInt) : x = nI x.toInt.toNat := by
  rw [i_eq, i_nI (by have := i_hi x; omega)]
  omega
theorem i_0 : (0 : Int32).toInt = 0 := by decide
theorem i_1 : (1 : Int32).toInt = 1 := by decide
theorem i_m1 : (-1 : Int32).toInt = -1 := by decide
theorem nI_cl {n : Nat} (h : n < 2147483648) : (nI n).toNatClampNeg = n := nI_clamp (by omega)
theorem nI_lit {n : Nat} : (nI n : Int32) = OfNat.ofNat n := rfl
