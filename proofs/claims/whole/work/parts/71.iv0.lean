/-! the memory behind the constructors -/
def mu0 (ν : mm_M) : mm_M := fun c => if c = 57 then upd (upd (upd (fun _ => 0) 0 (-100)) 1 (-100)) 2 (-100) else if c = 58 then upd (upd (upd (fun _ => 0) 0 (-1)) 1 (-1)) 2 (-1) else ckM ν c
section IV0
variable {ν : mm_M}
theorem mz {c : Nat} (h1 : c ≠ 57) (h2 : c ≠ 58) (h3 : c < 23 ∨ 27 < c) : mu0 ν c = fun _ => 0 := by
  unfold mu0 ckM
  rw [if_neg h1, if_neg h2, if_neg (by omega), if_neg (by omega), if_neg (by omega), if_neg (by omega), if_neg (by omega)]
theorem three {a : Int32} : ∀ j, j < 3 → upd (upd (upd (fun _ => 0) 0 a) 1 a) 2 a j = a := by
  intro j hj
  rcases (show j = 0 ∨ j = 1 ∨ j = 2 by omega) with rfl | rfl | rfl
  · rw [upd_n (by omega), upd_n (by omega), upd_s]
  · rw [upd_n (by omega), upd_s]
  · rw [upd_s]
theorem mc_57 : mu0 ν 57 = upd (upd (upd (fun _ => 0) 0 (-100)) 1 (-100)) 2 (-100) := rfl
theorem mc_58 : mu0 ν 58 = upd (upd (upd (fun _ => 0) 0 (-1)) 1 (-1)) 2 (-1) := rfl
theorem mc_23 : mu0 ν 23 = ν 1 := rfl
theorem mc_24 : mu0 ν 24 = ν 2 := rfl
theorem mc_25 : mu0 ν 25 = ν 3 := rfl
theorem mc_26 : mu0 ν 26 = ν 4 := rfl
theorem mc_27 : mu0 ν 27 = ν 5 := rfl
theorem Ord0 {ky od : Nat → Int32} : OrdI ky od 0 := ⟨fun _ => 0, fun i hi => absurd hi (Nat.not_lt_zero i), fun i hi => absurd hi (Nat.not_lt_zero i), fun _ i' _ hi => absurd hi (Nat.not_lt_zero i'), fun j hj => absurd hj (Nat.not_lt_zero j)⟩
theorem uM0 {S : Nat → Nat} {s : Nat} : ∀ j, uM S (fun _ => 0) s j = 0
  | 0 => rfl
  | j + 1 => by
    show uM S (fun _ => 0) s j + (if S j = s then 0 else 0) = 0
    rw [uM0 j]
    split <;> rfl
theorem uR0 {F T : Nat → Nat} {a : Nat} : ∀ j, uR F T (fun _ => 0) a j = 0
  | 0 => rfl
  | j + 1 => by
    show uR F T (fun _ => 0) a j + (if sup a (T j) = true then 0 * F j else 0) = 0
    rw [uR0 j, Nat.zero_mul]
    split <;> rfl
theorem wo0 {P n : Nat → Nat} : ∀ j, (∀ k, k < j → n k = 0) → wo P n j = 0
  | 0, _ => rfl
  | j + 1, h => by
    show wo P n j + n j * P j = 0
    rw [wo0 j (fun k hk => h k (by omega)), h j (by omega), Nat.zero_mul]
theorem Opt0 {P F T S M R : Nat → Nat} (hF : ∀ k, k < 4 → F k = 0) : Opt P F T S M R (fun _ => 0) 0 := by
  refine ⟨⟨fun k _ => ⟨Nat.zero_le _, fun _ => rfl⟩, fun s _ => by rw [uM0]; exact Nat.zero_le _, fun a _ _ => by rw [uR0]; exact Nat.zero_le _⟩, wo0 4 (fun _ _ => rfl), fun n hn => Or.inr ⟨wo0 4 (fun k hk => (hn.1 k hk).2 (hF k hk)), Nat.zero_le _⟩⟩
theorem Iv0 (hν : ckP 3 ν) : Iv (mu0 ν) 0 0 0 0 := by
  refine ⟨?_, ?_, ?_, ?_, ?_, ?_, ?_, ?_, ?_, ?_, ?_, ?_, ?_, ?_, ?_, ?_, ?_, ?_, ?_, ?_, ?_⟩ <;> (try simp only [mz (c := 0) (by decide) (by decide) (by decide), mz (c := 1) (by decide) (by decide) (by decide), mz (c := 2) (by decide) (by decide) (by decide), mz (c := 3) (by decide) (by decide) (by decide), mz (c := 4) (by decide) (by decide) (by decide), mz (c := 5) (by decide) (by decide) (by decide), mz (c := 6) (by decide) (by decide) (by decide), mz (c := 7) (by decide) (by decide) (by decide), mz (c := 8) (by decide) (by decide) (by decide), mz (c := 9) (by decide) (by decide) (by decide), mz (c := 10) (by decide) (by decide) (by decide), mz (c := 11) (by decide) (by decide) (by decide), mz (c := 12) (by decide) (by decide) (by decide), mz (c := 13) (by decide) (by decide) (by decide), mz (c := 14) (by decide) (by decide) (by decide), mz (c := 15) (by decide) (by decide) (by decide), mz (c := 16) (by decide) (by decide) (by decide), mz (c := 17) (by decide) (by decide) (by decide), mz (c := 18) (by decide) (by decide) (by decide), mz (c := 19) (by decide) (by decide) (by decide), mz (c := 20) (by decide) (by decide) (by decide), mz (c := 21) (by decide) (by decide) (by decide), mz (c := 22) (by decide) (by decide) (by decide), mz (c := 28) (by decide) (by decide) (by decide), mz (c := 29) (by decide) (by decide) (by decide), mz (c := 30) (by decide) (by decide) (by decide), mz (c := 31) (by decide) (by decide) (by decide), mz (c := 32) (by decide) (by decide) (by decide), mz (c := 33) (by decide) (by decide) (by decide), mz (c := 34) (by decide) (by decide) (by decide), mz (c := 35) (by decide) (by decide) (by decide), mz (c := 36) (by decide) (by decide) (by decide), mz (c := 37) (by decide) (by decide) (by decide), mz (c := 38) (by decide) (by decide) (by decide), mz (c := 39) (by decide) (by decide) (by decide), mz (c := 40) (by decide) (by decide) (by decide), mz (c := 41) (by decide) (by decide) (by decide), mz (c := 42) (by decide) (by decide) (by decide), mz (c := 43) (by decide) (by decide) (by decide), mz (c := 44) (by decide) (by decide) (by decide), mz (c := 45) (by decide) (by decide) (by decide), mz (c := 46) (by decide) (by decide) (by decide), mz (c := 47) (by decide) (by decide) (by decide), mz (c := 48) (by decide) (by decide) (by decide), mz (c := 49) (by decide) (by decide) (by decide), mz (c := 50) (by decide) (by decide) (by decide), mz (c := 51) (by decide) (by decide) (by decide), mz (c := 52) (by decide) (by decide) (by decide), mz (c := 53) (by decide) (by decide) (by decide), mz (c := 54) (by decide) (by decide) (by decide), mz (c := 55) (by decide) (by decide) (by decide), mz (c := 56) (by decide) (by decide) (by decide), mz (c := 59) (by decide) (by decide) (by decide), mz (c := 60) (by decide) (by decide) (by decide), mz (c := 61) (by decide) (by decide) (by decide), mz (c := 62) (by decide) (by decide) (by decide), mz (c := 63) (by decide) (by decide) (by decide), mz (c := 64) (by decide) (by decide) (by decide), mz (c := 65) (by decide) (by decide) (by decide), mz (c := 66) (by decide) (by decide) (by decide), mz (c := 67) (by decide) (by decide) (by decide), mz (c := 68) (by decide) (by decide) (by decide), mz (c := 69) (by decide) (by decide) (by decide), mz (c := 70) (by decide) (by decide) (by decide), mz (c := 71) (by decide) (by decide) (by decide), mz (c := 72) (by decide) (by decide) (by decide), mz (c := 73) (by decide) (by decide) (by decide), mz (c := 74) (by decide) (by decide) (by decide), mz (c := 75) (by decide) (by decide) (by decide), mz (c := 76) (by decide) (by decide) (by decide), mz (c := 77) (by decide) (by decide) (by decide), mc_57, mc_58, mc_23, mc_24, mc_25, mc_26, mc_27])
  · decide
  · decide
  · exact ⟨by trivial, fun s _ => ⟨0, by omega, rfl⟩⟩
  · decide
  · exact ⟨by trivial, by trivial, by trivial, by trivial, by trivial⟩
  · exact ⟨fun j hj => absurd hj (Nat.not_lt_zero j), fun j hj => absurd hj (Nat.not_lt_zero j), fun j hj => absurd hj (Nat.not_lt_zero j), fun j hj => absurd hj (Nat.not_lt_zero j), fun _ _ => ⟨rfl, rfl⟩, Ord0⟩
  · exact fun k _ => Or.inl ⟨rfl, rfl, rfl, rfl, rfl, rfl, rfl, rfl⟩
  · exact fun j hj => Or.inl ⟨rfl, three j hj⟩
  · intro c hc
    obtain ⟨h1, h2, h3, h4, h5⟩ := hν c hc
    exact ⟨by rw [three c hc, h1], Or.inl ⟨h1, h2, h3, h4, h5⟩⟩
  · obtain ⟨r, hr, er⟩ := ch_n (ν 1)
    refine ⟨by decide, by decide, ?_, by omega⟩
    show (nI 0 + su (fun j => if chB (ν 1) j = true then 1 else 0) 3).toInt ≤ 100
    rw [er, i_addN, i_nI (by omega)]
    omega
  · exact ⟨by trivial, by trivial, by trivial, by trivial, by trivial, by trivial, by trivial⟩
  · exact ⟨fun b hb => absurd hb (Nat.not_lt_zero b), fun _ _ => rfl⟩
  · decide
  · decide
  · exact ⟨by trivial, by trivial, by trivial, by trivial, by trivial, by trivial⟩
  · exact ⟨fun b hb => absurd hb (Nat.not_lt_zero b), fun _ _ => ⟨rfl, rfl⟩, Ord0⟩
  · refine ⟨rfl, ⟨0, 0, by omega, by omega, rfl, rfl, ?_⟩, fun _ P F T S M Z hK hS => ?_⟩
    · show (0 : Int32) = su (fun _ => (0 : Int32)) 4
      decide
    · have hF : ∀ k, k < 4 → F k = 0 := fun k hk => by
        obtain ⟨-, h2, -, -, -, h6, -⟩ := hK k hk
        have e : (0 : Int32) = nI (F k) := h2
        exact (nI_inj2 (a := 0) (by omega) (by omega) e).symm
      exact ⟨fun _ => 0, 0, Opt0 hF, fun _ _ => rfl, rfl, by omega⟩
end IV0
