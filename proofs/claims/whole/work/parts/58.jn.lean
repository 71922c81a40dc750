/-! hours as functions of the memory; the class's cells and the reference's -/
def jn (α β : mm_M) : mm_M := fun c => if c < 48 then α c else β c
theorem jlo {α β : mm_M} {c : Nat} (h : c < 48) : jn α β c = α c := if_pos h
theorem jhi {α β : mm_M} {c : Nat} (h : ¬ c < 48) : jn α β c = β c := if_neg h
theorem jn_id {μ : mm_M} : jn μ μ = μ := by
  funext c
  unfold jn
  split <;> rfl
theorem hs_lo {α β : mm_M} {c : Nat} {r : Nat → Int32} (h : c < 48) : hs (jn α β) c r = jn (hs α c r) β := by
  funext k
  by_cases e : k = c
  · subst e
    rw [hs_s, jlo h, hs_s]
  · by_cases g : k < 48
    · rw [hs_n e, jlo g, jlo g, hs_n e]
    · rw [hs_n e, jhi g, jhi g]
theorem hs_hi {α β : mm_M} {c : Nat} {r : Nat → Int32} (h : ¬ c < 48) : hs (jn α β) c r = jn α (hs β c r) := by
  funext k
  by_cases e : k = c
  · subst e
    rw [hs_s, jhi h, hs_s]
  · by_cases g : k < 48
    · rw [hs_n e, jlo g, jlo g]
    · rw [hs_n e, jhi g, jhi g, hs_n e]
def anC (μ : mm_M) (nl c : Nat) : Bool := anyB (fun j => decide (¬ μ 13 j = 0) && decide (¬ μ 27 (c * 60 + j) ≤ 0)) nl
def fcG (nl c : Nat) (μ : mm_M) : mm_M := if μ 23 c = -1 ∨ μ 0 8 < μ 25 c then μ else fcF μ c (μ 5 7).toNatClampNeg (if anC μ nl c = true then 1 else 0)
def dnG (c : Nat) (μ : mm_M) : mm_M := if μ 58 c = -1 ∨ ¬ μ 60 c = μ 48 0 then μ else dnM μ c (μ 48 18).toNatClampNeg
def clG (nc : Nat) (μ : mm_M) : mm_M := if μ 0 8 - μ 0 8 / 168 * 168 = 0 then clM μ nc else μ
def cnG (nc : Nat) (μ : mm_M) : mm_M := if μ 48 0 - μ 48 0 / 168 * 168 = 0 then clN μ nc else μ
theorem anR_iff {μ : mm_M} {nl c : Nat} : anR μ c nl ↔ anC μ nl c = true := by
  unfold anR anC
  rw [anyB_iff]
  simp only [Bool.and_eq_true, decide_eq_true_eq]
theorem fcR_G {nl c : Nat} {μ ν : mm_M} (h : fcR nl c μ ν) : ν = fcG nl c μ := by
  unfold fcG
  rcases h with ⟨h1, h2⟩ | ⟨h1, h2, n, hn, en, h3⟩
  · rw [if_pos h1]
    exact h2
  · rw [if_neg (fun z => z.elim h1 h2), en, nI_cl (by omega)]
    rcases h3 with ⟨a, b⟩ | ⟨a, b⟩
    · rw [if_pos (anR_iff.mp a)]
      exact b
    · rw [if_neg (fun z => a (anR_iff.mpr z))]
      exact b
theorem dnR_G {c : Nat} {μ ν : mm_M} (h : dnR c μ ν) : ν = dnG c μ := by
  unfold dnG
  rcases h with ⟨h1, h2⟩ | ⟨h1, h2, n, hn, en, h3⟩
  · rw [if_pos h1]
    exact h2
  · rw [if_neg (fun z => z.elim h1 (fun w => w h2)), en, nI_cl (by omega)]
    exact h3
section JN
variable {α β : mm_M} {nl nc c n : Nat} {r : Int32}
theorem hrM_j : hrM (jn α β) = jn (hrM α) β := by
  unfold hrM
  simp only [jlo, hs_lo, Nat.reduceLT]
theorem hrN_j : hrN (jn α β) = jn α (hrN β) := by
  unfold hrN
  simp only [jhi, hs_hi, Nat.reduceLT, not_false_eq_true]
theorem fcF_j : fcF (jn α β) c n r = jn (fcF α c n r) β := by
  unfold fcF fcE fcB
  simp only [jlo, hs_lo, Nat.reduceLT]
theorem dnM_j : dnM (jn α β) c n = jn α (dnM β c n) := by
  unfold dnM
  simp only [jhi, hs_hi, Nat.reduceLT, not_false_eq_true]
theorem fcG_j : fcG nl c (jn α β) = jn (fcG nl c α) β := by
  unfold fcG anC
  simp only [jlo, fcF_j, Nat.reduceLT]
  split <;> rfl
theorem dnG_j : dnG c (jn α β) = jn α (dnG c β) := by
  unfold dnG
  simp only [jhi, dnM_j, Nat.reduceLT, not_false_eq_true]
  split <;> rfl
theorem spM_j : spM (jn α β) nl = jn (spM α nl) β := by
  unfold spM
  simp only [jlo, hs_lo, Nat.reduceLT]
theorem spN_j : spN (jn α β) nl = jn α (spN β nl) := by
  unfold spN
  simp only [jhi, hs_hi, Nat.reduceLT, not_false_eq_true]
theorem clG_j : clG nc (jn α β) = jn (clG nc α) β := by
  unfold clG clM
  simp only [jlo, hs_lo, Nat.reduceLT]
  split <;> rfl
theorem cnG_j : cnG nc (jn α β) = jn α (cnG nc β) := by
  unfold cnG clN
  simp only [jhi, hs_hi, Nat.reduceLT, not_false_eq_true]
  split <;> rfl
end JN
def hC (nl nc : Nat) (μ : mm_M) : mm_M := clG nc (spM (fcG nl 2 (fcG nl 1 (fcG nl 0 (hrM μ)))) nl)
def hF (nl nc : Nat) (μ : mm_M) : mm_M := cnG nc (spN (dnG 2 (dnG 1 (dnG 0 (hrN μ)))) nl)
theorem hC_j {α β : mm_M} {nl nc : Nat} : hC nl nc (jn α β) = jn (hC nl nc α) β := by
  unfold hC
  rw [hrM_j, fcG_j, fcG_j, fcG_j, spM_j, clG_j]
theorem hF_j {α β : mm_M} {nl nc : Nat} : hF nl nc (jn α β) = jn α (hF nl nc β) := by
  unfold hF
  rw [hrN_j, dnG_j, dnG_j, dnG_j, spN_j, cnG_j]
