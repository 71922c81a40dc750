/-! what holds between the class and the reference, in one memory -/
def JL (h n : Nat) (sz lf ca ic re od : Nat → Int32) : Prop := (∀ j, j < n → ∃ y, y < 3 ∧ sz j = nI y) ∧ (∀ j, j < n → ∃ f, f ≤ 5000 ∧ lf j = nI f) ∧ (∀ j, j < n → -19 ≤ (ca j).toInt ∧ (ca j).toInt ≤ h) ∧ (∀ j, j < n → frB ca ic (nI h) j = false → lf j = 0) ∧ (∀ j, n ≤ j → ic j = 0 ∧ re j = 0) ∧ OrdI ca od n
def JK (kn ta sa fi ho pr ki pr' : Nat → Int32) : Prop := ∀ k, k < 4 → (kn k = 0 ∧ ta k = 0 ∧ sa k = 0 ∧ fi k = 0 ∧ ho k = 0 ∧ pr k = 0 ∧ ki k = 0 ∧ pr' k = 0) ∨ (kn k = 1 ∧ kOK (ki k) ∧ ta k = ki k / 1000 ∧ sa k = ki k / 100 - ki k / 100 / 10 * 10 ∧ fi k = ki k / 10 - ki k / 10 / 10 * 10 ∧ ho k = ki k - ki k / 10 * 10 ∧ (1 ≤ pr k ∧ pr k ≤ 99) ∧ pr' k = pr k)
/-- one memory of both sides; hour, lots, batches, contracts -/
def Iv (μ : mm_M) (h nl nb nc : Nat) : Prop :=
  (μ 0 8 = nI h ∧ μ 48 0 = nI h ∧ h ≤ 5000) ∧
  (μ 48 7 = μ 0 9) ∧
  (μ 48 12 = μ 0 10 ∧ 0 ≤ (μ 0 10).toInt ∧ (μ 0 10).toInt ≤ 300) ∧
  (μ 48 17 = μ 0 11) ∧
  (μ 48 26 = μ 0 12) ∧
  (μ 48 34 = μ 0 13) ∧
  (μ 56 = μ 8 ∧ ∀ s, s < 2 → ∃ x, x ≤ 100000 ∧ μ 8 s = nI x) ∧
  (μ 1 6 = nI nl ∧ μ 48 1 = nI nl ∧ nl ≤ 60) ∧
  (μ 49 = μ 9 ∧ μ 50 = μ 10 ∧ μ 51 = μ 11 ∧ μ 52 = μ 12 ∧ μ 53 = μ 13) ∧
  (JL h nl (μ 9) (μ 10) (μ 11) (μ 12) (μ 13) (μ 14)) ∧
  (JK (μ 15) (μ 16) (μ 17) (μ 18) (μ 19) (μ 20) (μ 54) (μ 55)) ∧
  (∀ j, j < 3 → I_crew (μ 21 j) (μ 22 j) (μ 57 j))
theorem Iv.now {μ : mm_M} {h nl nb nc : Nat} (I : Iv μ h nl nb nc) : μ 0 8 = nI h ∧ μ 48 0 = nI h ∧ h ≤ 5000 := I.1
theorem Iv.ice {μ : mm_M} {h nl nb nc : Nat} (I : Iv μ h nl nb nc) : μ 48 7 = μ 0 9 := I.2.1
theorem Iv.pck {μ : mm_M} {h nl nb nc : Nat} (I : Iv μ h nl nb nc) : μ 48 12 = μ 0 10 ∧ 0 ≤ (μ 0 10).toInt ∧ (μ 0 10).toInt ≤ 300 := I.2.2.1
theorem Iv.mea {μ : mm_M} {h nl nb nc : Nat} (I : Iv μ h nl nb nc) : μ 48 17 = μ 0 11 := I.2.2.2.1
theorem Iv.coi {μ : mm_M} {h nl nb nc : Nat} (I : Iv μ h nl nb nc) : μ 48 26 = μ 0 12 := I.2.2.2.2.1
theorem Iv.fin {μ : mm_M} {h nl nb nc : Nat} (I : Iv μ h nl nb nc) : μ 48 34 = μ 0 13 := I.2.2.2.2.2.1
theorem Iv.sau {μ : mm_M} {h nl nb nc : Nat} (I : Iv μ h nl nb nc) : μ 56 = μ 8 ∧ ∀ s, s < 2 → ∃ x, x ≤ 100000 ∧ μ 8 s = nI x := I.2.2.2.2.2.2.1
theorem Iv.lot {μ : mm_M} {h nl nb nc : Nat} (I : Iv μ h nl nb nc) : μ 1 6 = nI nl ∧ μ 48 1 = nI nl ∧ nl ≤ 60 := I.2.2.2.2.2.2.2.1
theorem Iv.lrw {μ : mm_M} {h nl nb nc : Nat} (I : Iv μ h nl nb nc) : μ 49 = μ 9 ∧ μ 50 = μ 10 ∧ μ 51 = μ 11 ∧ μ 52 = μ 12 ∧ μ 53 = μ 13 := I.2.2.2.2.2.2.2.2.1
theorem Iv.lin {μ : mm_M} {h nl nb nc : Nat} (I : Iv μ h nl nb nc) : JL h nl (μ 9) (μ 10) (μ 11) (μ 12) (μ 13) (μ 14) := I.2.2.2.2.2.2.2.2.2.1
theorem Iv.knd {μ : mm_M} {h nl nb nc : Nat} (I : Iv μ h nl nb nc) : JK (μ 15) (μ 16) (μ 17) (μ 18) (μ 19) (μ 20) (μ 54) (μ 55) := I.2.2.2.2.2.2.2.2.2.2.1
theorem Iv.crw {μ : mm_M} {h nl nb nc : Nat} (I : Iv μ h nl nb nc) : ∀ j, j < 3 → I_crew (μ 21 j) (μ 22 j) (μ 57 j) := I.2.2.2.2.2.2.2.2.2.2.2
/-- the class's call, then the reference's: the same answer -/
def Both (k k' : Nat) (as : List Value) (μ : mm_M) (Q : mm_M → Prop) : Prop := mm_Cs hh_S k (.ref 0 :: as) μ (fun r ν => mm_Cs hh_S k' (.ref 48 :: as) ν (fun r' ξ => r' = r ∧ Q ξ) (fun _ => False)) (fun _ => False)
section IV
variable {μ : mm_M} {h nl nb nc : Nat}
theorem b_ice {x : Int32} (I : Iv μ h nl nb nc) : Both 42 73 [.int x] μ (fun ξ => ∃ h nl nb nc, Iv ξ h nl nb nc) := by
  refine c_ice (fun v => r_ice (fun w => ⟨rfl, _, _, _, _, I⟩) (fun w => absurd (by rw [← I.ice]; exact w) v)) (fun v => ?_)
  have e : (hs μ 0 (upd (μ 0) 9 (μ 0 9 + x))) 48 7 = μ 0 9 := by
    rw [hs_n (by decide)]
    exact I.ice
  refine r_ice (fun w => absurd (by rw [e]; exact v) w) (fun w => ⟨by rw [e], h, nl, nb, nc, ?_⟩)
  rw [e]
  refine ⟨?_, ?_, ?_, ?_, ?_, ?_, ?_, ?_, ?_, ?_, ?_, ?_⟩ <;> simp only [hs_s, hs_n, ne_eq, Nat.reduceEqDiff, not_false_eq_true, upd_s, upd_n]
  · exact I.now
  · exact I.pck
  · exact I.mea
  · exact I.coi
  · exact I.fin
  · exact I.sau
  · exact I.lot
  · exact I.lrw
  · exact I.lin
  · exact I.knd
  · exact I.crw
end IV
