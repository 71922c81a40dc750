/-! fail -/
section FL
variable {μ : mm_M} {h nl nb nc : Nat}
theorem rw0_n {f : Nat → Int32} {c j l : Nat} (e : c ≠ j) (hl : l < 60) : rw0 f j 60 (c * 60 + l) = f (c * 60 + l) := by
  unfold rw0
  exact if_neg (by omega)
theorem rw0_z {f : Nat → Int32} {c l : Nat} (hl : l < 60) : rw0 f c 60 (c * 60 + l) = 0 := by
  unfold rw0
  exact if_pos (by omega)
theorem JC_ext {nl lo hi c : Nat} {kd cs dn kg fi kd' cs' dn' fi' kn kd2 cs2 dn2 kg2 fi2 kd2' cs2' dn2' fi2' : Nat → Int32} (H : JC nl lo hi c kd cs dn kg fi kd' cs' dn' fi' kn) (e1 : kd2 c = kd c) (e2 : cs2 c = cs c) (e3 : dn2 c = dn c) (e4 : kg2 c = kg c) (e5 : ∀ l, l < 60 → fi2 (c * 60 + l) = fi (c * 60 + l)) (f1 : kd2' c = kd' c) (f2 : cs2' c = cs' c) (f3 : dn2' c = dn' c) (f5 : ∀ l, l < 60 → fi2' (c * 60 + l) = fi' (c * 60 + l)) : JC nl lo hi c kd2 cs2 dn2 kg2 fi2 kd2' cs2' dn2' fi2' kn := by
  obtain ⟨a, b⟩ := H
  refine ⟨by rw [f1, e1, a], ?_⟩
  rcases b with ⟨b1, b2, b3, b4, b5⟩ | ⟨k, hk, b1, b2, b3, b4, b5, b6, b7, b8⟩
  · exact Or.inl ⟨by rw [e1, b1], by rw [e2, b2], by rw [e3, b3], by rw [e4, b4], fun l hl => by rw [e5 l hl, b5 l hl]⟩
  · exact Or.inr ⟨k, hk, by rw [e1, b1], b2, by rw [f2, e2, b3], by rw [f3, e3, b4], by rw [e2]; exact b5, by rw [e3]; exact b6, by rw [e4, b7]; exact su_congr (fun l hl => (e5 l hl).symm), fun l hl => by rw [f5 l hl, e5 l hl]; exact b8 l hl⟩
theorem ch_n (kd : Nat → Int32) : ∃ r, r ≤ 3 ∧ su (fun j => if chB kd j = true then 1 else 0) 3 = nI r := by
  show ∃ r, r ≤ 3 ∧ ((0 : Int32) + (if chB kd 0 = true then 1 else 0)) + (if chB kd 1 = true then 1 else 0) + (if chB kd 2 = true then 1 else 0) = nI r
  refine ⟨(if chB kd 0 = true then 1 else 0) + (if chB kd 1 = true then 1 else 0) + (if chB kd 2 = true then 1 else 0), by (repeat' split) <;> decide, by (repeat' split) <;> decide⟩
theorem ch_upd {kd : Nat → Int32} {c : Nat} {x : Int32} (hc : c < 3) : su (fun j => if chB (upd kd c x) j = true then 1 else 0) 3 = su (fun j => if chB kd j = true then 1 else 0) 3 + ((if x = -1 then 0 else 1) - (if kd c = -1 then 0 else 1)) := by
  have e : (fun j => if chB (upd kd c x) j = true then (1 : Int32) else 0) = upd (fun j => if chB kd j = true then (1 : Int32) else 0) c (if x = -1 then 0 else 1) := by
    funext j
    by_cases g : j = c
    · subst g
      rw [upd_s]
      unfold chB
      rw [upd_s]
      by_cases w : x = -1
      · rw [if_pos w, if_neg (by simp [w])]
      · rw [if_neg w, if_pos (by simp [w])]
    · rw [upd_n g]
      unfold chB
      rw [upd_n g]
  rw [e, su_upd, if_pos hc]
  congr 2
  unfold chB
  by_cases w : kd c = -1
  · rw [if_pos w]
    exact if_neg (by simp [w])
  · rw [if_neg w]
    exact if_pos (by simp [w])
theorem ch_dn {kd : Nat → Int32} {c nb : Nat} (hc : c < 3) (hb : nb ≤ 100) (e : ¬ kd c = -1) (H : (nI nb + su (fun j => if chB kd j = true then 1 else 0) 3).toInt ≤ 100) : (nI (nb + 1) + su (fun j => if chB (upd kd c (-1)) j = true then 1 else 0) 3).toInt ≤ 100 := by
  rw [ch_upd hc, if_pos rfl, if_neg e]
  obtain ⟨r, hr, er⟩ := ch_n kd
  rw [er] at H ⊢
  rw [i_addN, i_nI (by omega)] at H
  have e2 : nI (nb + 1) + (nI r + (0 - 1)) = nI nb + nI r := by
    have z : nI 1 + (nI r + (0 - 1)) = nI r := by rw [Int32.add_comm, Int32.add_assoc, show (0 : Int32) - 1 + nI 1 = 0 by decide, Int32.add_zero]
    rw [← i_addN, Int32.add_assoc, z]
  rw [e2, i_addN, i_nI (by omega)]
  exact H
theorem ch_le {kd : Nat → Int32} {m n : Nat} (hm : m ≤ n) (hb : n ≤ 1000) (H : (nI n + su (fun j => if chB kd j = true then 1 else 0) 3).toInt ≤ 100) : (nI m + su (fun j => if chB kd j = true then 1 else 0) 3).toInt ≤ 100 := by
  obtain ⟨r, hr, er⟩ := ch_n kd
  rw [er] at H ⊢
  rw [i_addN, i_nI (by omega)] at H ⊢
  omega
theorem b_fail {a : Int32} (I : Iv μ h nl nb nc) : Both 48 89 [.int a] μ (fun ξ => ∃ h nl nb nc, Iv ξ h nl nb nc) := by
  refine c_fail (fun v => r_fail (fun w => ⟨rfl, _, _, _, _, I⟩) (fun j hj ej w => absurd (by rw [(I.coo j hj).1]; exact v j hj ej) w)) (fun j hj ej v => ?_)
  refine r_fail (fun w => absurd ?_ v) (fun i hi ei w => ?_)
  · have := w j hj ej
    simp only [hs_n, ne_eq, Nat.reduceEqDiff, not_false_eq_true] at this
    rw [(I.coo j hj).1] at this
    exact this
  · have : i = j := nI_inj2 (by omega) (by omega) (ei.symm.trans ej)
    subst this
    simp only [hs_n, ne_eq, Nat.reduceEqDiff, not_false_eq_true]
    have ek : su (fun l => μ 61 (i * 60 + l)) 60 = μ 26 i := by
      rcases (I.coo i hj).2 with ⟨z, -⟩ | ⟨k, hk, -, -, -, -, -, -, b7, b8⟩
      · exact absurd z v
      · rw [b7]
        exact su_congr (fun l hl => (b8 l hl).1)
    rw [ek]
    refine ⟨rfl, h, nl, nb, nc, ?_⟩
    refine ⟨?_, ?_, ?_, ?_, ?_, ?_, ?_, ?_, ?_, ?_, ?_, ?_, ?_, ?_, ?_, ?_, ?_, ?_, ?_, ?_, ?_⟩ <;> (try simp only [hs_s, hs_n, ne_eq, Nat.reduceEqDiff, not_false_eq_true, upd_s, upd_n])
    · exact I.now
    · exact I.ice
    · exact I.pck
    · rw [I.mea]
    · exact I.coi
    · exact I.fin
    · exact I.sau
    · exact I.lot
    · exact I.lrw
    · exact I.lin
    · exact I.knd
    · exact I.crw
    · intro c hc
      by_cases e : c = i
      · subst e
        exact ⟨by rw [upd_s, upd_s], Or.inl ⟨upd_s, upd_s, upd_s, upd_s, fun l hl => rw0_z hl⟩⟩
      · exact JC_ext (I.coo c hc) (upd_n e) (upd_n e) (upd_n e) (upd_n e) (fun l hl => rw0_n e hl) (upd_n e) rfl rfl (fun l hl => rfl)
    · exact ⟨I.bnr.1, I.bnr.2.1, ch_le (by omega) (by have := I.bnr.2.2.2; omega) (ch_dn hj I.bnr.2.2.2 v I.bnr.2.2.1), I.bnr.2.2.2⟩
    · exact I.brw
    · exact I.bin
    · exact I.bkg
    · exact I.cnr
    · exact I.crr
    · exact I.cin
    · exact JP_of (by simp only [hs_n, ne_eq, Nat.reduceEqDiff, not_false_eq_true]) (by simp only [hs_n, ne_eq, Nat.reduceEqDiff, not_false_eq_true]) (by simp only [hs_n, ne_eq, Nat.reduceEqDiff, not_false_eq_true]) (by simp only [hs_n, ne_eq, Nat.reduceEqDiff, not_false_eq_true]) (by simp only [hs_n, ne_eq, Nat.reduceEqDiff, not_false_eq_true]) (by simp only [hs_n, ne_eq, Nat.reduceEqDiff, not_false_eq_true]) (by simp only [hs_n, ne_eq, Nat.reduceEqDiff, not_false_eq_true]) (by simp only [hs_n, ne_eq, Nat.reduceEqDiff, not_false_eq_true]) (by simp only [hs_n, ne_eq, Nat.reduceEqDiff, not_false_eq_true]) (by simp only [hs_n, ne_eq, Nat.reduceEqDiff, not_false_eq_true]) (by simp only [hs_n, ne_eq, Nat.reduceEqDiff, not_false_eq_true]) I.pla
end FL
