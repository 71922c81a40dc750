/-! what holds between the class and the reference, in one memory -/
def JL (h n : Nat) (sz lf ca ic re od : Nat → Int32) : Prop := (∀ j, j < n → ∃ y, y < 3 ∧ sz j = nI y) ∧ (∀ j, j < n → ∃ f, f ≤ 5000 ∧ lf j = nI f) ∧ (∀ j, j < n → -19 ≤ (ca j).toInt ∧ (ca j).toInt ≤ h) ∧ (∀ j, j < n → frB ca ic (nI h) j = false → lf j = 0) ∧ (∀ j, n ≤ j → ic j = 0 ∧ re j = 0) ∧ OrdI ca od n
def JK (kn ta sa fi ho pr ki pr' : Nat → Int32) : Prop := ∀ k, k < 4 → (kn k = 0 ∧ ta k = 0 ∧ sa k = 0 ∧ fi k = 0 ∧ ho k = 0 ∧ pr k = 0 ∧ ki k = 0 ∧ pr' k = 0) ∨ (kn k = 1 ∧ kOK (ki k) ∧ ta k = ki k / 1000 ∧ sa k = ki k / 100 - ki k / 100 / 10 * 10 ∧ fi k = ki k / 10 - ki k / 10 / 10 * 10 ∧ ho k = ki k - ki k / 10 * 10 ∧ (1 ≤ pr k ∧ pr k ≤ 99) ∧ pr' k = pr k)
/-- a cooker: free, or busy till an hour from lo to hi -/
def JC (nl lo hi : Nat) (c : Nat) (kd cs dn kg fi kd' cs' dn' fi' kn : Nat → Int32) : Prop := kd' c = kd c ∧ ((kd c = -1 ∧ cs c = 0 ∧ dn c = -1 ∧ kg c = 0 ∧ ∀ l, l < 60 → fi (c * 60 + l) = 0) ∨ (∃ k, k < 4 ∧ kd c = nI k ∧ ¬ kn k = 0 ∧ cs' c = cs c ∧ dn' c = dn c ∧ (∃ x, 1 ≤ x ∧ x ≤ 50 ∧ cs c = nI x) ∧ (∃ d, lo ≤ d ∧ d ≤ hi ∧ dn c = nI d) ∧ kg c = su (fun l => fi (c * 60 + l)) 60 ∧ ∀ l, l < 60 → fi' (c * 60 + l) = fi (c * 60 + l) ∧ 0 ≤ (fi (c * 60 + l)).toInt ∧ (nl ≤ l → fi (c * 60 + l) = 0)))
/-- batches -/
def JB (h nb : Nat) (kd lf dn ba fi kn : Nat → Int32) : Prop := (∀ b, b < nb → (∃ k, k < 4 ∧ kd b = nI k ∧ ¬ kn k = 0) ∧ (∃ x, x ≤ 50 ∧ lf b = nI x) ∧ (∃ d, d ≤ h ∧ dn b = nI d) ∧ ∀ l, l < 60 → 0 ≤ (fi (b * 60 + l)).toInt) ∧ ∀ b, nb ≤ b → ba b = 0
/-- contracts -/
def JT (h nc : Nat) (kd wa wk ha ov od kn : Nat → Int32) : Prop := (∀ j, j < nc → (∃ k, k < 4 ∧ kd j = nI k ∧ ¬ kn k = 0) ∧ (0 ≤ (ha j).toInt ∧ (ha j).toInt ≤ (wa j).toInt ∧ (wa j).toInt ≤ 500) ∧ ∃ W, W < 30 ∧ wk j = nI W ∧ (ov j = 0 → h / 168 ≤ W)) ∧ (∀ j, nc ≤ j → ha j = 0 ∧ ov j = 0) ∧ OrdI wk od nc
/-- the planner remembers -/
def JP (μ : mm_M) : Prop := μ 45 4 = 0 ∧ (∃ a b, a ≤ b ∧ b ≤ 4 ∧ μ 7 6 = nI a ∧ μ 2 6 = nI b ∧ μ 2 6 = su (μ 15) 4) ∧ (μ 7 6 = μ 2 6 → ∀ P F T S M Z, KD μ P F T S → SZ μ M Z → Ob μ P F T S M Z)
theorem JP_of {μ ν : mm_M} (h1 : ν 2 = μ 2) (h2 : ν 15 = μ 15) (h3 : ν 20 = μ 20) (h4 : ν 18 = μ 18) (h5 : ν 16 = μ 16) (h6 : ν 17 = μ 17) (h7 : ν 7 = μ 7) (h8 : ν 42 = μ 42) (h9 : ν 43 = μ 43) (h10 : ν 45 = μ 45) (h11 : ν 47 = μ 47) (h : JP μ) : JP ν := by
  unfold JP KD SZ Ob at *
  rw [h1, h2, h3, h4, h5, h6, h7, h8, h9, h10, h11]
  exact h
/-- one memory of both sides; hour, lots, batches, contracts -/
def Iv (μ : mm_M) (h nl nb nc : Nat) : Prop :=
  (μ 0 8 = nI h ∧ μ 48 0 = nI h ∧ h ≤ 5000) ∧
  (μ 48 7 = μ 0 9) ∧
  (μ 48 12 = μ 0 10 ∧ 0 ≤ (μ 0 10).toInt ∧ (μ 0 10).toInt ≤ 300) ∧
  (μ 48 17 = μ 0 11) ∧
  (μ 48 26 = μ 0 12) ∧
  (μ 48 34 = μ 0 13) ∧
  (μ 56 = μ 8 ∧ ∀ s, s < 2 → ∃ x, x ≤ 100000 ∧ μ 8 s = nI x) ∧
  (μ 1 6 = nI nl ∧ μ 48 1 = nI nl ∧ nl ≤ 60) ∧
  (μ 49 = μ 9 ∧ μ 50 = μ 10 ∧ μ 51 = μ 11 ∧ μ 52 = μ 12 ∧ μ 53 = μ 13) ∧
  (JL h nl (μ 9) (μ 10) (μ 11) (μ 12) (μ 13) (μ 14)) ∧
  (JK (μ 15) (μ 16) (μ 17) (μ 18) (μ 19) (μ 20) (μ 54) (μ 55)) ∧
  (∀ j, j < 3 → I_crew (μ 21 j) (μ 22 j) (μ 57 j)) ∧
  (∀ c, c < 3 → JC nl (h + 1) (h + 5) c (μ 23) (μ 24) (μ 25) (μ 26) (μ 27) (μ 58) (μ 59) (μ 60) (μ 61) (μ 15)) ∧
  (μ 5 7 = nI nb ∧ μ 48 18 = nI nb ∧ (nI nb + su (fun j => if chB (μ 23) j = true then 1 else 0) 3).toInt ≤ 100 ∧ nb ≤ 100) ∧
  (μ 62 = μ 28 ∧ μ 63 = μ 30 ∧ μ 64 = μ 29 ∧ μ 65 = μ 31 ∧ μ 66 = μ 33 ∧ μ 67 = μ 32 ∧ μ 68 = μ 34) ∧
  (JB h nb (μ 28) (μ 30) (μ 31) (μ 33) (μ 34) (μ 15)) ∧
  (μ 5 8 = su (μ 34) (nb * 60)) ∧
  (μ 6 7 = nI nc ∧ μ 48 27 = nI nc ∧ nc ≤ 20) ∧
  (μ 69 = μ 35 ∧ μ 70 = μ 36 ∧ μ 71 = μ 37 ∧ μ 72 = μ 38 ∧ μ 73 = μ 39 ∧ μ 74 = μ 40) ∧
  (JT h nc (μ 36) (μ 37) (μ 38) (μ 39) (μ 40) (μ 41) (μ 15)) ∧
  (JP μ)
theorem Iv.now {μ : mm_M} {h nl nb nc : Nat} (I : Iv μ h nl nb nc) : μ 0 8 = nI h ∧ μ 48 0 = nI h ∧ h ≤ 5000 := I.1
theorem Iv.ice {μ : mm_M} {h nl nb nc : Nat} (I : Iv μ h nl nb nc) : μ 48 7 = μ 0 9 := I.2.1
theorem Iv.pck {μ : mm_M} {h nl nb nc : Nat} (I : Iv μ h nl nb nc) : μ 48 12 = μ 0 10 ∧ 0 ≤ (μ 0 10).toInt ∧ (μ 0 10).toInt ≤ 300 := I.2.2.1
theorem Iv.mea {μ : mm_M} {h nl nb nc : Nat} (I : Iv μ h nl nb nc) : μ 48 17 = μ 0 11 := I.2.2.2.1
theorem Iv.coi {μ : mm_M} {h nl nb nc : Nat} (I : Iv μ h nl nb nc) : μ 48 26 = μ 0 12 := I.2.2.2.2.1
theorem Iv.fin {μ : mm_M} {h nl nb nc : Nat} (I : Iv μ h nl nb nc) : μ 48 34 = μ 0 13 := I.2.2.2.2.2.1
theorem Iv.sau {μ : mm_M} {h nl nb nc : Nat} (I : Iv μ h nl nb nc) : μ 56 = μ 8 ∧ ∀ s, s < 2 → ∃ x, x ≤ 100000 ∧ μ 8 s = nI x := I.2.2.2.2.2.2.1
theorem Iv.lot {μ : mm_M} {h nl nb nc : Nat} (I : Iv μ h nl nb nc) : μ 1 6 = nI nl ∧ μ 48 1 = nI nl ∧ nl ≤ 60 := I.2.2.2.2.2.2.2.1
theorem Iv.lrw {μ : mm_M} {h nl nb nc : Nat} (I : Iv μ h nl nb nc) : μ 49 = μ 9 ∧ μ 50 = μ 10 ∧ μ 51 = μ 11 ∧ μ 52 = μ 12 ∧ μ 53 = μ 13 := I.2.2.2.2.2.2.2.2.1
theorem Iv.lin {μ : mm_M} {h nl nb nc : Nat} (I : Iv μ h nl nb nc) : JL h nl (μ 9) (μ 10) (μ 11) (μ 12) (μ 13) (μ 14) := I.2.2.2.2.2.2.2.2.2.1
theorem Iv.knd {μ : mm_M} {h nl nb nc : Nat} (I : Iv μ h nl nb nc) : JK (μ 15) (μ 16) (μ 17) (μ 18) (μ 19) (μ 20) (μ 54) (μ 55) := I.2.2.2.2.2.2.2.2.2.2.1
theorem Iv.crw {μ : mm_M} {h nl nb nc : Nat} (I : Iv μ h nl nb nc) : ∀ j, j < 3 → I_crew (μ 21 j) (μ 22 j) (μ 57 j) := I.2.2.2.2.2.2.2.2.2.2.2.1
theorem Iv.coo {μ : mm_M} {h nl nb nc : Nat} (I : Iv μ h nl nb nc) : ∀ c, c < 3 → JC nl (h + 1) (h + 5) c (μ 23) (μ 24) (μ 25) (μ 26) (μ 27) (μ 58) (μ 59) (μ 60) (μ 61) (μ 15) := I.2.2.2.2.2.2.2.2.2.2.2.2.1
theorem Iv.bnr {μ : mm_M} {h nl nb nc : Nat} (I : Iv μ h nl nb nc) : μ 5 7 = nI nb ∧ μ 48 18 = nI nb ∧ (nI nb + su (fun j => if chB (μ 23) j = true then 1 else 0) 3).toInt ≤ 100 ∧ nb ≤ 100 := I.2.2.2.2.2.2.2.2.2.2.2.2.2.1
theorem Iv.brw {μ : mm_M} {h nl nb nc : Nat} (I : Iv μ h nl nb nc) : μ 62 = μ 28 ∧ μ 63 = μ 30 ∧ μ 64 = μ 29 ∧ μ 65 = μ 31 ∧ μ 66 = μ 33 ∧ μ 67 = μ 32 ∧ μ 68 = μ 34 := I.2.2.2.2.2.2.2.2.2.2.2.2.2.2.1
theorem Iv.bin {μ : mm_M} {h nl nb nc : Nat} (I : Iv μ h nl nb nc) : JB h nb (μ 28) (μ 30) (μ 31) (μ 33) (μ 34) (μ 15) := I.2.2.2.2.2.2.2.2.2.2.2.2.2.2.2.1
theorem Iv.bkg {μ : mm_M} {h nl nb nc : Nat} (I : Iv μ h nl nb nc) : μ 5 8 = su (μ 34) (nb * 60) := I.2.2.2.2.2.2.2.2.2.2.2.2.2.2.2.2.1
theorem Iv.cnr {μ : mm_M} {h nl nb nc : Nat} (I : Iv μ h nl nb nc) : μ 6 7 = nI nc ∧ μ 48 27 = nI nc ∧ nc ≤ 20 := I.2.2.2.2.2.2.2.2.2.2.2.2.2.2.2.2.2.1
theorem Iv.crr {μ : mm_M} {h nl nb nc : Nat} (I : Iv μ h nl nb nc) : μ 69 = μ 35 ∧ μ 70 = μ 36 ∧ μ 71 = μ 37 ∧ μ 72 = μ 38 ∧ μ 73 = μ 39 ∧ μ 74 = μ 40 := I.2.2.2.2.2.2.2.2.2.2.2.2.2.2.2.2.2.2.1
theorem Iv.cin {μ : mm_M} {h nl nb nc : Nat} (I : Iv μ h nl nb nc) : JT h nc (μ 36) (μ 37) (μ 38) (μ 39) (μ 40) (μ 41) (μ 15) := I.2.2.2.2.2.2.2.2.2.2.2.2.2.2.2.2.2.2.2.1
theorem Iv.pla {μ : mm_M} {h nl nb nc : Nat} (I : Iv μ h nl nb nc) : JP μ := I.2.2.2.2.2.2.2.2.2.2.2.2.2.2.2.2.2.2.2.2
/-- the class's call, then the reference's: the same answer -/
def Both (k k' : Nat) (as : List Value) (μ : mm_M) (Q : mm_M → Prop) : Prop := mm_Cs hh_S k (.ref 0 :: as) μ (fun r ν => mm_Cs hh_S k' (.ref 48 :: as) ν (fun r' ξ => r' = r ∧ Q ξ) (fun _ => False)) (fun _ => False)
section IV
variable {μ : mm_M} {h nl nb nc : Nat}
theorem b_ice {x : Int32} (I : Iv μ h nl nb nc) : Both 42 73 [.int x] μ (fun ξ => ∃ h nl nb nc, Iv ξ h nl nb nc) := by
  refine c_ice (fun v => r_ice (fun w => ⟨rfl, _, _, _, _, I⟩) (fun w => absurd (by rw [← I.ice]; exact w) v)) (fun v => ?_)
  have e : (hs μ 0 (upd (μ 0) 9 (μ 0 9 + x))) 48 7 = μ 0 9 := by
    rw [hs_n (by decide)]
    exact I.ice
  refine r_ice (fun w => absurd (by rw [e]; exact v) w) (fun w => ⟨by rw [e], h, nl, nb, nc, ?_⟩)
  rw [e]
  refine ⟨?_, ?_, ?_, ?_, ?_, ?_, ?_, ?_, ?_, ?_, ?_, ?_, ?_, ?_, ?_, ?_, ?_, ?_, ?_, ?_, ?_⟩ <;> simp only [hs_s, hs_n, ne_eq, Nat.reduceEqDiff, not_false_eq_true, upd_s, upd_n]
  · exact I.now
  · exact I.pck
  · exact I.mea
  · exact I.coi
  · exact I.fin
  · exact I.sau
  · exact I.lot
  · exact I.lrw
  · exact I.lin
  · exact I.knd
  · exact I.crw
  · exact I.coo
  · exact I.bnr
  · exact I.brw
  · exact I.bin
  · exact I.bkg
  · exact I.cnr
  · exact I.crr
  · exact I.cin
  · exact JP_of (by simp only [hs_n, ne_eq, Nat.reduceEqDiff, not_false_eq_true]) (by simp only [hs_n, ne_eq, Nat.reduceEqDiff, not_false_eq_true]) (by simp only [hs_n, ne_eq, Nat.reduceEqDiff, not_false_eq_true]) (by simp only [hs_n, ne_eq, Nat.reduceEqDiff, not_false_eq_true]) (by simp only [hs_n, ne_eq, Nat.reduceEqDiff, not_false_eq_true]) (by simp only [hs_n, ne_eq, Nat.reduceEqDiff, not_false_eq_true]) (by simp only [hs_n, ne_eq, Nat.reduceEqDiff, not_false_eq_true]) (by simp only [hs_n, ne_eq, Nat.reduceEqDiff, not_false_eq_true]) (by simp only [hs_n, ne_eq, Nat.reduceEqDiff, not_false_eq_true]) (by simp only [hs_n, ne_eq, Nat.reduceEqDiff, not_false_eq_true]) (by simp only [hs_n, ne_eq, Nat.reduceEqDiff, not_false_eq_true]) I.pla
end IV
