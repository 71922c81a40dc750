/-! a charge is done, both -/
section CK
variable {μ : mm_M} {hl hi ht h nl nb nc : Nat} {lo : Nat → Nat}
theorem su_add {f : Nat → Int32} {a : Nat} : ∀ b, su f (a + b) = su f a + su (fun l => f (a + l)) b
  | 0 => (Int32.add_zero _).symm
  | b + 1 => by
    show su f (a + b) + f (a + b) = su f a + (su (fun l => f (a + l)) b + f (a + b))
    rw [su_add b, Int32.add_assoc]
theorem cpy_o {f g : Nat → Int32} {c n k : Nat} (hk : k < n * 60 ∨ n * 60 + 60 ≤ k) : va_cpy f g (c * 60) (n * 60) 60 k = g k := by
  unfold va_cpy
  exact if_neg (by omega)
theorem k_ck {c : Nat} (hc : c < 3) (hlo : lo c = h + 1) (hhi : hi ≤ 10000) (I : Kv μ (h + 1) hl hi ht lo nl nb nc) : ∃ nb', Kv (dnG c (fcG nl c μ)) (h + 1) hl hi ht (fun j => if j = c then h + 2 else lo j) nl nb' nc := by
  have hh := I.now.2.2
  obtain ⟨c1, c2⟩ := I.coo c hc
  rw [hlo] at c2
  by_cases g : μ 23 c = -1 ∨ μ 0 8 < μ 25 c
  · have e1 : fcG nl c μ = μ := if_pos g
    have e2 : dnG c μ = μ := by
      refine if_pos ?_
      rw [c1, I.now.2.1]
      rcases g with g | g
      · exact Or.inl g
      · rcases c2 with ⟨z, -⟩ | ⟨k, hk, -, -, -, b4, -, ⟨d, d1, d2, d3⟩, -⟩
        · exact Or.inl z
        · right
          rw [b4]
          intro z
          rw [z, I.now.1, i_lt] at g
          omega
    rw [e1, e2]
    refine ⟨nb, I.now, I.ice, I.pck, I.mea, I.coi, I.fin, I.sau, I.lot, I.lrw, I.lin, I.knd, I.crw, fun j hj => ?_, I.bnr, I.brw, I.bin, I.bkg, I.cnr, I.crr, I.cin, I.pla⟩
    by_cases e : j = c
    · subst e
      refine ⟨c1, ?_⟩
      simp only [if_true]
      rcases c2 with b | ⟨k, hk, b1, b2, b3, b4, b5, ⟨d, d1, d2, d3⟩, b7⟩
      · exact Or.inl b
      · refine Or.inr ⟨k, hk, b1, b2, b3, b4, b5, ⟨d, ?_, d2, d3⟩, b7⟩
        rcases g with g | g
        · rw [b1, i_eq, i_m1, i_nI (by omega)] at g
          omega
        · have := I.now.2.2
          by_cases q : d = h + 1
          · rw [d3, q, I.now.1, i_lt] at g
            omega
          · omega
    · simp only [if_neg e]
      exact I.coo j hj
  · have g1 : ¬ μ 23 c = -1 := fun z => g (Or.inl z)
    have g2 : ¬ μ 0 8 < μ 25 c := fun z => g (Or.inr z)
    obtain ⟨k, hk, b1, b2, b3, b4, ⟨x, x1, x2, x3⟩, ⟨d, d1, d2, d3⟩, b7, b8⟩ := c2.resolve_left (fun z => g1 z.1)
    have hd : d = h + 1 := by
      rw [d3, I.now.1, i_lt, i_nI (by omega), i_nI (by omega)] at g2
      omega
    subst hd
    obtain ⟨n1, n2, n3, n4⟩ := I.bnr
    have hch := ch_dn hc n4 g1 n3
    have hnb : nb + 1 ≤ 100 := by
      obtain ⟨r, hr, er⟩ := ch_n (upd (μ 23) c (-1))
      rw [er, i_addN, i_nI (by omega)] at hch
      omega
    have hr : ∃ r : Int32, r = (if anC μ nl c = true then 1 else 0) := ⟨_, rfl⟩
    obtain ⟨r, er⟩ := hr
    have e : dnG c (fcG nl c μ) = jn (fcF μ c nb r) (dnM μ c nb) := by
      have q1 : fcG nl c μ = fcF μ c nb r := by
        unfold fcG
        rw [if_neg g, n1, nI_cl (by omega), er]
      have q2 : dnG c μ = dnM μ c nb := by
        unfold dnG
        rw [if_neg (fun z => z.elim (fun w => g1 (by rw [← c1]; exact w)) (fun w => w (by rw [b4, d3, I.now.2.1]))), n2, nI_cl (by omega)]
      have q3 : fcF μ c nb r = jn (fcF μ c nb r) μ := (congrArg (fun m => fcF m c nb r) jn_id.symm).trans fcF_j
      rw [q1]
      refine (congrArg (dnG c) q3).trans ?_
      rw [dnG_j, q2]
    rw [e]
    obtain ⟨m1, m2, m3, m4, m5, m6, m7⟩ := I.brw
    obtain ⟨a1, a2⟩ := I.bin
    have efi : va_cpy (μ 61) (μ 34) (c * 60) (nb * 60) 60 = va_cpy (μ 27) (μ 34) (c * 60) (nb * 60) 60 := by
      funext q
      by_cases hq : q < nb * 60 ∨ nb * 60 + 60 ≤ q
      · rw [cpy_o hq, cpy_o hq]
      · obtain ⟨j, rfl⟩ : ∃ j, q = nb * 60 + j := ⟨q - nb * 60, by omega⟩
        rw [cpy_at (by omega), cpy_at (by omega), (b8 j (by omega)).1]
    have ean : anyB (rcB (μ 61) (μ 53) c) 60 = true ↔ anC μ nl c = true := by
      unfold anC
      rw [anyB_iff, anyB_iff]
      have hn := I.lot.2.2
      have a5 := I.lin.2.2.2.2.1
      constructor
      · rintro ⟨j, hj, w⟩
        unfold rcB at w
        rw [Bool.and_eq_true, decide_eq_true_eq, decide_eq_true_eq, I.lrw.2.2.2.2, (b8 j hj).1] at w
        have hjn : j < nl := Nat.lt_of_not_le (fun z => w.2 (a5 j z).2)
        exact ⟨j, hjn, by rw [Bool.and_eq_true, decide_eq_true_eq, decide_eq_true_eq]; exact ⟨w.2, w.1⟩⟩
      · rintro ⟨j, hj, w⟩
        rw [Bool.and_eq_true, decide_eq_true_eq, decide_eq_true_eq] at w
        refine ⟨j, by omega, ?_⟩
        unfold rcB
        rw [Bool.and_eq_true, decide_eq_true_eq, decide_eq_true_eq, I.lrw.2.2.2.2, (b8 j (by omega)).1]
        exact ⟨w.2, w.1⟩
    have eba : (if anyB (rcB (μ 61) (μ 53) c) 60 = true then upd (μ 33) nb 1 else μ 33) = upd (μ 33) nb r := by
      by_cases w : anC μ nl c = true
      · rw [if_pos (ean.mpr w), er, if_pos w]
      · rw [if_neg (fun z => w (ean.mp z)), er, if_neg w, ← a2 nb (Nat.le_refl nb), upd_id]
    refine ⟨nb + 1, ?_, ?_, ?_, ?_, ?_, ?_, ?_, ?_, ?_, ?_, ?_, ?_, ?_, ?_, ?_, ?_, ?_, ?_, ?_, ?_, ?_⟩ <;> (try simp only [jlo, jhi, Nat.reduceLT, not_false_eq_true]) <;> (try unfold fcF fcE fcB) <;> (try unfold dnM) <;> (try simp only [hs_s, hs_n, ne_eq, Nat.reduceEqDiff, not_false_eq_true, upd_s, upd_n])
    · exact I.now
    · exact I.ice
    · exact I.pck
    · exact I.mea
    · exact I.coi
    · exact I.fin
    · exact I.sau
    · exact I.lot
    · exact I.lrw
    · exact I.lin
    · exact I.knd
    · exact I.crw
    · intro j hj
      by_cases e : j = c
      · subst e
        exact ⟨by rw [upd_s, upd_s], Or.inl ⟨upd_s, upd_s, upd_s, upd_s, fun l hl => rw0_z hl⟩⟩
      · simp only [if_neg e]
        exact JC_ext (I.coo j hj) (upd_n e) (upd_n e) (upd_n e) (upd_n e) (fun l hl => rw0_n e hl) (upd_n e) rfl rfl (fun l hl => rfl)
    · exact ⟨by trivial, by trivial, hch, hnb⟩
    · rw [m1, m2, m3, m4, m5, m6, m7, c1, b3, I.now.2.1, d3, efi, eba]
      exact ⟨rfl, rfl, rfl, rfl, rfl, rfl, rfl⟩
    · refine ⟨fun b hb => ?_, fun b hb => by rw [upd_n (by omega)]; exact a2 b (by omega)⟩
      by_cases e : b = nb
      · subst e
        rw [upd_s, upd_s, upd_s]
        exact ⟨⟨k, hk, b1, b2⟩, ⟨x, x2, x3⟩, ⟨h + 1, Nat.le_refl _, d3⟩, fun l hl => by rw [cpy_at hl]; exact (b8 l hl).2.1⟩
      · rw [upd_n e, upd_n e, upd_n e]
        obtain ⟨w1, w2, w3, w4⟩ := a1 b (by omega)
        exact ⟨w1, w2, w3, fun l hl => by rw [cpy_o (by omega)]; exact w4 l hl⟩
    · rw [show (nb + 1) * 60 = nb * 60 + 60 by omega, su_add]
      have s1 : su (va_cpy (μ 27) (μ 34) (c * 60) (nb * 60) 60) (nb * 60) = μ 5 8 := by
        rw [I.bkg]
        exact su_congr (fun i hi => cpy_o (Or.inl hi))
      have s2 : su (fun l => va_cpy (μ 27) (μ 34) (c * 60) (nb * 60) 60 (nb * 60 + l)) 60 = μ 26 c := by
        rw [b7]
        exact su_congr (fun l hl => cpy_at hl)
      rw [s1, s2]
    · exact I.cnr
    · exact I.crr
    · exact I.cin
    · refine JP_of ?_ ?_ ?_ ?_ ?_ ?_ ?_ ?_ ?_ ?_ ?_ I.pla <;> simp only [jlo, Nat.reduceLT] <;> simp only [hs_n, ne_eq, Nat.reduceEqDiff, not_false_eq_true]
end CK
