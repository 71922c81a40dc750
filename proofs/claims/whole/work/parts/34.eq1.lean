/-! where the class and the reference say the same in other words -/
theorem i_cases (w : Int32) : (∃ m, m < 2147483648 ∧ w = nI m) ∨ w.toInt < 0 := by
  by_cases h : 0 ≤ w.toInt
  · exact Or.inl ⟨w.toInt.toNat, by have := i_hi w; omega, i_of h⟩
  · exact Or.inr (by omega)
theorem dv_neg {w d : Int32} (h : w.toInt < 0) (hd : 1 ≤ d.toInt) : (w / d).toInt ≤ 0 := by
  have e : (w / d).toInt = w.toInt.tdiv d.toInt := Int32.toInt_div_of_ne_right w d (fun z => by rw [z, i_m1] at hd; omega)
  rw [e]
  have e2 : w.toInt = -(-w.toInt) := by omega
  rw [e2, Int.neg_tdiv]
  have := Int.tdiv_nonneg (show 0 ≤ -w.toInt by omega) (show 0 ≤ d.toInt by omega)
  omega
theorem dgt {m : Nat} (h : m < 2147483648) : nI m - nI m / 10 * 10 = nI (m % 10) := by
  have e : nI m / 10 = nI (m / 10) := div_i (d := 10) h (by omega) (by omega)
  rw [e, show (10 : Int32) = nI 10 from rfl, i_mulN, sub_nI (by omega)]
  congr 1
  omega
/-- a kind's word, by digits -/
theorem kOK_iff (w : Int32) : kOK w ↔ ¬ w < 0 ∧ (1 ≤ w / 1000 ∧ w / 1000 ≤ 7) ∧ ¬ 1 < w / 100 - w / 100 / 10 * 10 ∧ ¬ w / 10 - w / 10 / 10 * 10 = 0 ∧ (1 ≤ w - w / 10 * 10 ∧ w - w / 10 * 10 ≤ 5) := by
  rcases i_cases w with ⟨m, hm, rfl⟩ | h
  · have e2 : nI m / 100 = nI (m / 100) := div_i (d := 100) hm (by omega) (by omega)
    have e3 : nI m / 10 = nI (m / 10) := div_i (d := 10) hm (by omega) (by omega)
    unfold kOK
    have d1 := dgt hm
    have d2 : nI m / 10 - nI m / 10 / 10 * 10 = nI (m / 10 % 10) := by rw [e3]; exact dgt (by omega)
    have d3 : nI m / 100 - nI m / 100 / 10 * 10 = nI (m / 100 % 10) := by rw [e2]; exact dgt (by omega)
    rw [d1, d2, d3]
    have x1 : ∀ a, a < 10 → (0 ≤ nI a ∧ (nI a ≤ 1 ↔ ¬ 1 < nI a) ∧ ((1 ≤ nI a ∧ nI a ≤ 9) ↔ ¬ nI a = 0)) := by decide +kernel
    have a1 := x1 (m / 100 % 10) (by omega)
    have a2 := x1 (m / 10 % 10) (by omega)
    have nn : ¬ nI m < 0 := by
      rw [i_lt, i_nI hm, i_0]
      omega
    constructor
    · rintro ⟨b1, b2, b3, b4⟩
      exact ⟨nn, b1, a1.2.1.mp b2.2, a2.2.2.mp b3, b4⟩
    · rintro ⟨-, b1, b2, b3, b4⟩
      exact ⟨b1, ⟨a1.1, a1.2.1.mpr b2⟩, a2.2.2.mpr b3, b4⟩
  · have n1 : ¬ 1 ≤ w / 1000 := by
      rw [i_le, i_1]
      have := dv_neg (d := 1000) h (by decide)
      omega
    unfold kOK
    constructor
    · rintro ⟨b1, -⟩
      exact absurd b1.1 n1
    · rintro ⟨-, b1, -⟩
      exact absurd b1.1 n1
/-- a lot of a size, of one size -/
theorem bit_z : ∀ y, y < 3 → ∀ z, z < 3 → (((1 : Int32) <<< (nI z &&& 31)) >>> (nI y &&& 31) &&& 1 = 1 ↔ y = z) := by decide +kernel
theorem us_z {re sz : Nat → Int32} {j y z : Nat} (hy : y < 3) (hz : z < 3) (e : sz j = nI y) : (usB re sz (1 <<< (nI z &&& 31)) j = true) ↔ (re j = 0 ∧ sz j = nI z) := by
  unfold usB
  rw [Bool.and_eq_true, decide_eq_true_eq, decide_eq_true_eq, e, bit_z y hy z hz]
  constructor
  · rintro ⟨a, b⟩
    exact ⟨a, by rw [b]⟩
  · rintro ⟨a, b⟩
    exact ⟨a, nI_inj2 (by omega) (by omega) b⟩
/-- what is left of a lot that isn't fresh, or has nothing left -/
theorem fm_left {ca ic lf : Nat → Int32} {h : Int32} {j : Nat} (h0 : 0 ≤ (lf j).toInt) (hst : frB ca ic h j = false → lf j = 0) (hf : ¬ fmB ca ic lf h j = true) : lf j = 0 := by
  unfold fmB at hf
  by_cases f : frB ca ic h j = true
  · rw [f, Bool.true_and, decide_eq_true_eq] at hf
    have := Decidable.not_not.mp hf
    rw [i_le, i_0] at this
    rw [i_eq, i_0]
    omega
  · exact hst (by cases hh : frB ca ic h j <;> simp_all)
theorem uz_sk {re sz lf ca ic : Nat → Int32} {h : Int32} {n z : Nat} (hz : z < 3) (hsz : ∀ j, j < n → ∃ y, y < 3 ∧ sz j = nI y) (h0 : ∀ j, j < n → 0 ≤ (lf j).toInt) (hst : ∀ j, j < n → frB ca ic h j = false → lf j = 0) : su (fun j => if usB re sz (1 <<< (nI z &&& 31)) j = true then lf j else 0) n = su (fun j => if (fmB ca ic lf h j = true ∧ re j = 0) ∧ sz j = nI z then lf j else 0) n := by
  refine su_congr (fun j hj => ?_)
  obtain ⟨y, hy, e⟩ := hsz j hj
  have u := us_z (re := re) hy hz e
  by_cases f : fmB ca ic lf h j = true
  · by_cases g : usB re sz (1 <<< (nI z &&& 31)) j = true
    · have := u.mp g
      rw [if_pos g, if_pos ⟨⟨f, this.1⟩, this.2⟩]
    · rw [if_neg g, if_neg (fun w => g (u.mpr ⟨w.1.2, w.2⟩))]
  · rw [fm_left (h0 j hj) (hst j hj) f]
    split <;> split <;> rfl
/-- crews -/
def I_crew (wc co cm : Int32) : Prop := (wc = 0 ∧ cm = -100) ∨ (¬ wc = 0 ∧ cm = co ∧ ∃ c, c ≤ 5003 ∧ co = nI c)
theorem go_iff {wc co cm : Nat → Int32} {j h : Nat} (hh : h ≤ 5000) (hc : I_crew (wc j) (co j) (cm j)) : goB wc co (nI h) j = true ↔ cm j + 8 ≤ nI h := by
  unfold goB
  rw [Bool.or_eq_true, decide_eq_true_eq, decide_eq_true_eq]
  rcases hc with ⟨a, b⟩ | ⟨a, b, c, hc, e⟩
  · rw [b, i_le, i_nI (by omega), show ((-100 : Int32) + 8).toInt = -92 by decide]
    exact ⟨fun _ => by omega, fun _ => Or.inl a⟩
  · rw [b, e, show (8 : Int32) = nI 8 from rfl, i_addN, i_lt, i_le, i_nI (by omega), i_nI (by omega)]
    constructor
    · rintro (z | z)
      · exact absurd z a
      · omega
    · intro z
      right
      omega
theorem th_iff {wc co cm : Nat → Int32} {j h : Nat} (hh : h ≤ 5000) (hc : I_crew (wc j) (co j) (cm j)) : thB wc co (nI h) j = tmB cm (nI h) j := by
  have g := go_iff hh hc
  have key : thB wc co (nI h) j = true ↔ tmB cm (nI h) j = true := by
    unfold thB tmB
    rw [Bool.and_eq_true, Bool.and_eq_true, decide_eq_true_eq, decide_eq_true_eq, decide_eq_true_eq, Bool.not_eq_true', ← Bool.not_eq_true, g]
    rcases hc with ⟨a, b⟩ | ⟨a, b, c, hc, e⟩
    · rw [b, i_le, i_le, i_le, i_nI (by omega), show ((-100 : Int32) + 8).toInt = -92 by decide, show ((-100 : Int32) + 7).toInt = -93 by decide]
      constructor
      · rintro ⟨z, -⟩
        omega
      · rintro ⟨-, z⟩
        omega
    · rw [b, e, show (8 : Int32) = nI 8 from rfl, show (7 : Int32) = nI 7 from rfl, i_addN, i_addN, i_lt, i_le, i_le, i_le, i_nI (by omega), i_nI (by omega), i_nI (by omega), i_nI (by omega)]
      constructor <;> rintro ⟨z1, z2⟩ <;> constructor <;> omega
  cases h1 : thB wc co (nI h) j <;> cases h2 : tmB cm (nI h) j <;> simp_all
