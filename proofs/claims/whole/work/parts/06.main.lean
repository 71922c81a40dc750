section SND
variable {ρ : mm_Row} {Sh : List mm_C} {G : mm_G} {scr : Option (Nat × (Nat → Int32))} {A : Nat → Prop} {p : Program} {l : Launch} {e : Env} {R : Room} {s : State} {m : MethodId} {args : Array Value} {below : List Frame} {meth : Method} {c : Code} {cells slots : Nat} {Q : State → Prop}
variable {pc : Nat} {loc : mm_L} {st : List Value} {μ : mm_M}
theorem ms_cond (C0 : mm_Cx ρ Sh G scr A p R s m args c cells slots) {cd : ClassFile.Cond} {off : Int} {r1 : Nat} {x : Int32} (hd : decode ρ.2.2.1 pc = .ok (.ifCond cd off, 3)) (ht : (pc : Int) + off = (r1 : Int)) {P1 P2 : Prop} (h : mm_cond cd x 0 P1 P2) (k1 : P1 → mm_WX Sh G A ρ.2.2.2.1 p l e R s m args below meth c cells slots Q r1 loc st μ) (k2 : P2 → mm_WX Sh G A ρ.2.2.2.1 p l e R s m args below meth c cells slots Q (pc + 3) loc st μ) : mm_WX Sh G A ρ.2.2.2.1 p l e R s m args below meth c cells slots Q pc loc (.int x :: st) μ := by
  obtain ⟨hx, hb, -⟩ := C0
  intro H locs ls hP hS hl
  cases cd with
  | eq => exact lv_if_eq hx hb hd ht (fun q => k1 (h.1 q) H locs ls hP hS hl) (fun q => k2 (h.2 q) H locs ls hP hS hl)
  | ne => exact lv_if_ne hx hb hd ht (fun q => k1 (h.1 q) H locs ls hP hS hl) (fun q => k2 (h.2 q) H locs ls hP hS hl)
  | lt => exact lv_if_lt hx hb hd ht (fun q => k1 (h.1 q) H locs ls hP hS hl) (fun q => k2 (h.2 q) H locs ls hP hS hl)
  | ge => exact lv_if_ge hx hb hd ht (fun q => k1 (h.1 q) H locs ls hP hS hl) (fun q => k2 (h.2 q) H locs ls hP hS hl)
  | gt => exact lv_if_gt hx hb hd ht (fun q => k1 (h.1 q) H locs ls hP hS hl) (fun q => k2 (h.2 q) H locs ls hP hS hl)
  | le => exact lv_if_le hx hb hd ht (fun q => k1 (h.1 q) H locs ls hP hS hl) (fun q => k2 (h.2 q) H locs ls hP hS hl)
theorem ms_icmp (C0 : mm_Cx ρ Sh G scr A p R s m args c cells slots) {cd : ClassFile.Cond} {off : Int} {r1 : Nat} {x y : Int32} (hd : decode ρ.2.2.1 pc = .ok (.if_icmp cd off, 3)) (ht : (pc : Int) + off = (r1 : Int)) {P1 P2 : Prop} (h : mm_cond cd x y P1 P2) (k1 : P1 → mm_WX Sh G A ρ.2.2.2.1 p l e R s m args below meth c cells slots Q r1 loc st μ) (k2 : P2 → mm_WX Sh G A ρ.2.2.2.1 p l e R s m args below meth c cells slots Q (pc + 3) loc st μ) : mm_WX Sh G A ρ.2.2.2.1 p l e R s m args below meth c cells slots Q pc loc (.int y :: .int x :: st) μ := by
  obtain ⟨hx, hb, -⟩ := C0
  intro H locs ls hP hS hl
  cases cd with
  | eq => exact lv_icmp_eq hx hb hd ht (fun q => k1 (h.1 q) H locs ls hP hS hl) (fun q => k2 (h.2 q) H locs ls hP hS hl)
  | ne => exact lv_icmp_ne hx hb hd ht (fun q => k1 (h.1 q) H locs ls hP hS hl) (fun q => k2 (h.2 q) H locs ls hP hS hl)
  | lt => exact lv_icmp_lt hx hb hd ht (fun q => k1 (h.1 q) H locs ls hP hS hl) (fun q => k2 (h.2 q) H locs ls hP hS hl)
  | ge => exact lv_icmp_ge hx hb hd ht (fun q => k1 (h.1 q) H locs ls hP hS hl) (fun q => k2 (h.2 q) H locs ls hP hS hl)
  | gt => exact lv_icmp_gt hx hb hd ht (fun q => k1 (h.1 q) H locs ls hP hS hl) (fun q => k2 (h.2 q) H locs ls hP hS hl)
  | le => exact lv_icmp_le hx hb hd ht (fun q => k1 (h.1 q) H locs ls hP hS hl) (fun q => k2 (h.2 q) H locs ls hP hS hl)
theorem mm_sw_get {x : Int32} {F : Nat → Prop} : ∀ {tg : List Nat} {j k t : Nat}, mm_sw x F j tg → tg[k]? = some t → x = Int32.ofNat (j + k) → F t
  | [], _, _, _, _, h, _ => by simp at h
  | t0 :: ts, j, 0, t, h, hk, hx => by
    simp at hk
    subst hk
    exact h.1 hx
  | t0 :: ts, j, k + 1, t, h, hk, hx => mm_sw_get (k := k) h.2 (by simpa using hk) (by rw [hx]; congr 1; omega)
theorem ms_table (C0 : mm_Cx ρ Sh G scr A p R s m args c cells slots) {d lo hi : Int} {offs : Array Int} {len r1 : Nat} {tg : List Nat} {x : Int32} (hd : decode ρ.2.2.1 pc = .ok (.tableswitch d lo hi offs, len)) (h1 : (pc : Int) + d = (r1 : Int)) (h2 : lo = 0) (h3 : hi + 1 = (tg.length : Int)) (h4 : offs.toList.map (fun o => (pc : Int) + o) = tg.map Int.ofNat) (h5 : tg.length ≤ 100) {P1 : Prop} {F : Nat → Prop} (hO : x.toInt < 0 ∨ (tg.length : Int) ≤ x.toInt → P1) (hI : mm_sw x F 0 tg) (k1 : P1 → mm_WX Sh G A ρ.2.2.2.1 p l e R s m args below meth c cells slots Q r1 loc st μ) (k2 : ∀ t, F t → mm_WX Sh G A ρ.2.2.2.1 p l e R s m args below meth c cells slots Q t loc st μ) : mm_WX Sh G A ρ.2.2.2.1 p l e R s m args below meth c cells slots Q pc loc (.int x :: st) μ := by
  obtain ⟨hx, hb, -⟩ := C0
  intro H locs ls hP hS hl
  subst h2
  by_cases hr : x.toInt < 0 ∨ (tg.length : Int) ≤ x.toInt
  · exact lv_tableOut hx hb hd (by omega) h1 (k1 (hO hr) H locs ls hP hS hl)
  · have hlt : x.toInt.toNat < tg.length := by omega
    have htg : tg[x.toInt.toNat]? = some tg[x.toInt.toNat] := List.getElem?_eq_getElem hlt
    have hm : (offs.toList.map (fun o => (pc : Int) + o))[x.toInt.toNat]? = some (Int.ofNat tg[x.toInt.toNat]) := by
      rw [h4, List.getElem?_map, htg]
      rfl
    rw [List.getElem?_map] at hm
    cases ho : offs.toList[x.toInt.toNat]? with
    | none => rw [ho] at hm; cases hm
    | some off =>
      rw [ho] at hm
      have hm2 : (pc : Int) + off = ((tg[x.toInt.toNat] : Nat) : Int) := Option.some.inj hm
      refine lv_tableIn (off := off) hx hb hd (by omega) (by omega) (by rw [Int.sub_zero, ← Array.getElem?_toList]; exact ho) hm2 (k2 _ (mm_sw_get hI htg ?_) H locs ls hP hS hl)
      rw [Nat.zero_add]
      apply Int32.toInt_inj.mp
      rw [show Int32.ofNat x.toInt.toNat = nI x.toInt.toNat from rfl, nI_toInt (by omega)]
      omega
set_option maxHeartbeats 4000000 in
theorem mm_soundI (C0 : mm_Cx ρ Sh G scr A p R s m args c cells slots) {K : Nat → mm_L → List Value → mm_M → Prop} {RI : Int32 → mm_M → Prop} {RV : mm_M → Prop} {rb : Bool}
    (hK : ∀ t loc st μ, K t loc st μ → mm_WX Sh G A ρ.2.2.2.1 p l e R s m args below meth c cells slots Q t loc st μ)
    (hRI : ∀ pc x μ loc, decode ρ.2.2.1 pc = .ok (.ireturn, 1) → ¬ ρ.2.2.2.2.1 = none → (rb = true → x &&& 1 = x) → RI x μ → mm_WX Sh G A ρ.2.2.2.1 p l e R s m args below meth c cells slots Q pc loc [.int x] μ)
    (hRV : ∀ pc μ loc, decode ρ.2.2.1 pc = .ok (.return_, 1) → ρ.2.2.2.2.1 = none → RV μ → mm_WX Sh G A ρ.2.2.2.1 p l e R s m args below meth c cells slots Q pc loc [] μ)
    {i : Instr} {r1 r2 : Nat} {tg : List Nat} {im : Int32} {N : mm_L → List Value → mm_M → Prop} (hd : decode ρ.2.2.1 pc = .ok (i, mm_len i r2)) (ho : mm_okI ρ pc i r1 r2 tg im = true)
    (hN : ∀ loc st μ, N loc st μ → mm_WX Sh G A ρ.2.2.2.1 p l e R s m args below meth c cells slots Q (pc + mm_len i r2) loc st μ)
    (h : mm_i Sh scr rb (mm_Cs Sh) K RI RV i r1 r2 tg im N loc st μ) : mm_WX Sh G A ρ.2.2.2.1 p l e R s m args below meth c cells slots Q pc loc st μ := by
  have hx := C0.1
  have hb := C0.2.1
  cases i with
  | iconst n => exact fun H locs ls hP hS hl => lv_iconst hx hb hd (of_decide_eq_true ho) (hN _ _ _ h H locs ls hP hS hl)
  | bipush n => exact fun H locs ls hP hS hl => lv_bipush hx hb hd (of_decide_eq_true ho) (hN _ _ _ h H locs ls hP hS hl)
  | sipush n => exact fun H locs ls hP hS hl => lv_sipush hx hb hd (of_decide_eq_true ho) (hN _ _ _ h H locs ls hP hS hl)
  | ldc n => exact fun H locs ls hP hS hl => lv_ldc hx hb C0.2.2.2.1 (C0.2.2.2.2.1 _ (mm_ck_ok _ (of_decide_eq_true ho))) hd (hN _ _ _ h H locs ls hP hS hl)
  | iload_n n =>
    obtain ⟨x, h1, h2⟩ := mm_li_inv h
    exact fun H locs ls hP hS hl => lv_iload_n hx hb hd rfl (hl.2.2 _ _ h1).1 (hN _ _ _ h2 H locs ls hP hS hl)
  | iload n =>
    obtain ⟨x, h1, h2⟩ := mm_li_inv h
    exact fun H locs ls hP hS hl => lv_iload hx hb hd (hl.2.2 _ _ h1).1 (hN _ _ _ h2 H locs ls hP hS hl)
  | aload_n n =>
    obtain ⟨x, h1, h2⟩ := mm_lr_inv h
    exact fun H locs ls hP hS hl => lv_aload_n hx hb hd rfl (hl.2.2 _ _ h1).1 (hN _ _ _ h2 H locs ls hP hS hl)
  | istore_n n =>
    obtain ⟨x, s1, rfl, h2⟩ := mm_s1_inv h
    exact ms_istore_n C0 hd (of_decide_eq_true ho) (hN _ _ _ h2)
  | istore n =>
    obtain ⟨x, s1, rfl, h2⟩ := mm_s1_inv h
    exact ms_istore C0 hd (of_decide_eq_true ho) (hN _ _ _ h2)
  | iinc j n =>
    obtain ⟨x, h1, h2⟩ := mm_li_inv h
    have ho2 : (decide (Int32.ofInt n = im) && decide (j < ρ.2.2.2.1)) = true := ho
    simp only [Bool.and_eq_true, decide_eq_true_eq] at ho2
    exact ms_iinc C0 hd ho2.1 ho2.2 h1 (hN _ _ _ h2)
  | iadd =>
    obtain ⟨x, y, s1, rfl, h2⟩ := mm_s2_inv h
    exact fun H locs ls hP hS hl => lv_iadd hx hb hd (hN _ _ _ h2 H locs ls hP hS hl)
  | isub =>
    obtain ⟨x, y, s1, rfl, h2⟩ := mm_s2_inv h
    exact fun H locs ls hP hS hl => lv_isub hx hb hd (hN _ _ _ h2 H locs ls hP hS hl)
  | imul =>
    obtain ⟨x, y, s1, rfl, h2⟩ := mm_s2_inv h
    exact fun H locs ls hP hS hl => lv_imul hx hb hd (hN _ _ _ h2 H locs ls hP hS hl)
  | iand =>
    obtain ⟨x, y, s1, rfl, h2⟩ := mm_s2_inv h
    exact fun H locs ls hP hS hl => lv_iand hx hb hd (hN _ _ _ h2 H locs ls hP hS hl)
  | ior =>
    obtain ⟨x, y, s1, rfl, h2⟩ := mm_s2_inv h
    exact fun H locs ls hP hS hl => lv_ior hx hb hd (hN _ _ _ h2 H locs ls hP hS hl)
  | ixor =>
    obtain ⟨x, y, s1, rfl, h2⟩ := mm_s2_inv h
    exact fun H locs ls hP hS hl => lv_ixor hx hb hd (hN _ _ _ h2 H locs ls hP hS hl)
  | ishl =>
    obtain ⟨x, y, s1, rfl, h2⟩ := mm_s2_inv h
    exact fun H locs ls hP hS hl => lv_ishl hx hb hd (hN _ _ _ h2 H locs ls hP hS hl)
  | ishr =>
    obtain ⟨x, y, s1, rfl, h2⟩ := mm_s2_inv h
    exact fun H locs ls hP hS hl => lv_ishr hx hb hd (hN _ _ _ h2 H locs ls hP hS hl)
  | idiv =>
    obtain ⟨x, y, s1, rfl, h1, h2⟩ := mm_s2_inv h
    exact fun H locs ls hP hS hl => lv_idiv hx hb hd h1 (hN _ _ _ h2 H locs ls hP hS hl)
  | irem =>
    obtain ⟨x, y, s1, rfl, h1, h2⟩ := mm_s2_inv h
    exact fun H locs ls hP hS hl => lv_irem hx hb hd h1 (hN _ _ _ h2 H locs ls hP hS hl)
  | ineg =>
    obtain ⟨x, s1, rfl, h2⟩ := mm_s1_inv h
    exact fun H locs ls hP hS hl => lv_ineg hx hb hd (hN _ _ _ h2 H locs ls hP hS hl)
  | dup =>
    match st, h with
    | v :: s1, h => exact fun H locs ls hP hS hl => lv_dup hx hb hd (mm_v_cat h.1) (hN _ _ _ h.2 H locs ls hP hS hl)
    | [], h => exact h.elim
  | dup2 =>
    match st, h with
    | v :: w :: s1, h => exact fun H locs ls hP hS hl => lv_dup2_11 hx hb hd (mm_v_cat h.1) (mm_v_cat h.2.1) (hN _ _ _ h.2.2 H locs ls hP hS hl)
    | [v], h => exact h.elim
    | [], h => exact h.elim
  | goto off => exact fun H locs ls hP hS hl => lv_goto hx hb hd (of_decide_eq_true ho) (hK _ _ _ _ h H locs ls hP hS hl)
  | ifCond cd off =>
    obtain ⟨x, s1, rfl, h2⟩ := mm_s1_inv h
    exact ms_cond C0 hd (of_decide_eq_true ho) h2 (hK _ _ _ _) (hN _ _ _)
  | if_icmp cd off =>
    obtain ⟨x, y, s1, rfl, h2⟩ := mm_s2_inv h
    exact ms_icmp C0 hd (of_decide_eq_true ho) h2 (hK _ _ _ _) (hN _ _ _)
  | tableswitch d lo hi offs =>
    obtain ⟨x, s1, rfl, h1, h2⟩ := mm_s1_inv h
    have ho2 : (decide ((pc : Int) + d = (r1 : Int)) && decide (lo = 0) && decide (hi + 1 = (tg.length : Int)) && decide (offs.toList.map (fun o => (pc : Int) + o) = tg.map Int.ofNat) && decide (tg.length ≤ 100)) = true := ho
    simp only [Bool.and_eq_true, decide_eq_true_eq] at ho2
    exact ms_table C0 hd ho2.1.1.1.1 ho2.1.1.1.2 ho2.1.1.2 ho2.1.2 ho2.2 h1 h2 (hK _ _ _ _) (fun t => hK t _ _ _)
  | getfield x =>
    match st, h with
    | .ref a :: s1, h =>
      have h : mm_gf Sh μ a r1 r2 (fun v => N loc (v :: s1) μ) := h
      obtain ⟨fs, h1, h2 | ⟨r, h2, h3⟩⟩ := mm_gf_inv h
      · exact ms_get (f := none) C0 hd (of_decide_eq_true ho) h1 h2.1 (hN _ _ _ h2.2)
      · exact ms_get (f := some r) C0 hd (of_decide_eq_true ho) h1 h2 (hN _ _ _ h3)
  | putfield x =>
    match st, h with
    | .int z :: .ref a :: s1, h =>
      obtain ⟨fs, h1, h2, h3⟩ := mm_pf_inv h
      have ho2 : (decide ((ρ.1, x, r1, r2) ∈ mm_FT) && decide ((mm_T r1 r2).2.2.2 = false) && decide (parseFieldDescriptor (mm_T r1 r2).2.2.1 = some .int)) = true := ho
      simp only [Bool.and_eq_true, decide_eq_true_eq] at ho2
      exact ms_put C0 hd ho2.1.1 ho2.1.2 ho2.2 h1 h2 (hN _ _ _ h3)
  | iaload =>
    match st, h with
    | .int i :: .ref a :: s1, h =>
      match scr, ha : decide (a = 999), C0, h with
      | some q, true, C0, h =>
        obtain rfl := of_decide_eq_true ha
        simp only [mm_i, ha] at h
        exact ms_sld C0 hd rfl h.2.1 (hN _ _ _ h.2.2)
      | some q, false, C0, h =>
        simp only [mm_i, ha] at h
        obtain ⟨n, h1, h2, h3⟩ := mm_ar_inv h
        exact ms_iald C0 hd h1 h2 (hN _ _ _ h3)
      | none, _, C0, h =>
        obtain ⟨n, h1, h2, h3⟩ := mm_ar_inv h
        exact ms_iald C0 hd h1 h2 (hN _ _ _ h3)
  | arraylength =>
    match st, h with
    | .ref a :: s1, h =>
      match scr, C0, h with
      | some q, C0, h =>
        obtain ⟨rfl, -, h2⟩ := h
        exact ms_slen C0 hd rfl (hN _ _ _ h2)
  | baload =>
    match st, h with
    | .int i :: .ref a :: s1, h =>
      obtain ⟨n, h1, h2, h3⟩ := mm_ar_inv h
      exact ms_zald C0 hd h1 h2 (hN _ _ _ h3)
  | iastore =>
    match st, h with
    | .int x :: .int i :: .ref a :: s1, h =>
      obtain ⟨n, h1, h2, h3⟩ := mm_ar_inv h
      exact ms_iast C0 hd h1 h2 (hN _ _ _ h3)
  | bastore =>
    match st, h with
    | .int x :: .int i :: .ref a :: s1, h =>
      obtain ⟨n, h1, h2, h3, h4⟩ := mm_ar_inv h
      exact ms_zast C0 hd h1 h2 h3 (hN _ _ _ h4)
  | ireturn =>
    match st, h with
    | [.int x], h => exact hRI pc x μ loc hd (of_decide_eq_true ho) h.1 h.2
  | return_ =>
    match st, h with
    | [], h => exact hRV pc μ loc hd (of_decide_eq_true ho) h
  | invokestatic x =>
    by_cases e0 : r1 = 1000
    · subst e0
      obtain ⟨a, b, s1, rfl, h1, h2⟩ := mm_s2_inv h
      have ho2 : (decide ((ρ.1, x, 1000) ∈ mm_SP) && decide (1 ≤ ρ.2.2.2.2.2.1)) = true := ho
      simp only [Bool.and_eq_true, decide_eq_true_eq] at ho2
      exact ms_min C0 hd ho2.1 ho2.2 h1 (hN _ _ _ h2)
    · by_cases e1 : r1 = 1001
      · subst e1
        obtain ⟨a, b, s1, rfl, h1, h2⟩ := mm_s2_inv h
        have ho2 : (decide ((ρ.1, x, 1001) ∈ mm_SP) && decide (1 ≤ ρ.2.2.2.2.2.1)) = true := ho
        simp only [Bool.and_eq_true, decide_eq_true_eq] at ho2
        exact ms_max C0 hd ho2.1 ho2.2 h1 (hN _ _ _ h2)
      · by_cases e2 : r1 = 1002
        · subst e2
          have ho2 : (decide ((ρ.1, x, 1002) ∈ mm_SP) && decide (1 ≤ ρ.2.2.2.2.2.1)) = true := ho
          simp only [Bool.and_eq_true, decide_eq_true_eq] at ho2
          match st, h with
          | .int n :: .int dp :: .ref d :: .int sp :: .ref a :: s1, h =>
            obtain ⟨h0, h⟩ := h
            obtain ⟨na, g1, h⟩ := mm_al2_inv h
            obtain ⟨nd, g2, h⟩ := mm_al2_inv h
            exact ms_cpy C0 hd ho2.1 ho2.2 h0 g1 g2 h.1 h.2.1 h.2.2.1 h.2.2.2.1 h.2.2.2.2.1 (hN _ _ _ h.2.2.2.2.2)
        · simp only [mm_i] at h
          simp only [mm_okI] at ho
          simp only [Bool.and_eq_true, Bool.or_eq_true, decide_eq_true_eq] at ho
          have hC := h.2
          unfold mm_ca at hC
          split at hC
          · exact ms_callS C0 hd ho.1.1.1 ho.1.1.2 ho.1.2 ho.2 h.1 hC (fun r μ' hr => hr.elim) (fun μ' hr => hN _ _ _ hr)
          · exact ms_callS C0 hd ho.1.1.1 ho.1.1.2 ho.1.2 ho.2 h.1 hC (fun r μ' hr => hN _ _ _ hr) (fun μ' hr => hr.elim)
  | invokevirtual x =>
    have ho2 : (decide ((ρ.1, x, r1) ∈ mm_CT) && decide ((mm_m r1).2.2.2.2.2.1 < ρ.2.2.2.2.2.1) && decide ((mm_m r1).2.2.2.2.2.2.1 = r2) && !(mm_m r1).2.2.2.2.2.2.2) = true := ho
    simp only [Bool.and_eq_true, decide_eq_true_eq, Bool.not_eq_true'] at ho2
    have hC := h.2.2
    unfold mm_ca at hC
    split at hC
    · exact ms_callV C0 hd ho2.1.1.1 ho2.1.1.2 ho2.1.2 ho2.2 h.1 h.2.1 hC (fun r μ' hr => hr.elim) (fun μ' hr => hN _ _ _ hr)
    · exact ms_callV C0 hd ho2.1.1.1 ho2.1.1.2 ho2.1.2 ho2.2 h.1 h.2.1 hC (fun r μ' hr => hN _ _ _ hr) (fun μ' hr => hr.elim)
  | _ => exact h.elim
theorem mm_soundB (C0 : mm_Cx ρ Sh G scr A p R s m args c cells slots) {K : Nat → mm_L → List Value → mm_M → Prop} {RI : Int32 → mm_M → Prop} {RV : mm_M → Prop} {rb : Bool}
    (hK : ∀ t loc st μ, K t loc st μ → mm_WX Sh G A ρ.2.2.2.1 p l e R s m args below meth c cells slots Q t loc st μ)
    (hRI : ∀ pc x μ loc, decode ρ.2.2.1 pc = .ok (.ireturn, 1) → ¬ ρ.2.2.2.2.1 = none → (rb = true → x &&& 1 = x) → RI x μ → mm_WX Sh G A ρ.2.2.2.1 p l e R s m args below meth c cells slots Q pc loc [.int x] μ)
    (hRV : ∀ pc μ loc, decode ρ.2.2.1 pc = .ok (.return_, 1) → ρ.2.2.2.2.1 = none → RV μ → mm_WX Sh G A ρ.2.2.2.1 p l e R s m args below meth c cells slots Q pc loc [] μ) :
    ∀ (cd : List mm_E) (pc : Nat) (loc : mm_L) (st : List Value) (μ : mm_M), mm_okc ρ pc cd = true → mm_wpB Sh scr rb (mm_Cs Sh) K RI RV cd loc st μ → mm_WX Sh G A ρ.2.2.2.1 p l e R s m args below meth c cells slots Q pc loc st μ := by
  intro cd
  induction cd with
  | nil => intro pc loc st μ _ h; exact h.elim
  | cons q cd ih =>
    intro pc loc st μ ho h
    obtain ⟨qi, r1, r2, tg, im⟩ := q
    cases qi with
    | none =>
      have e : r1 = pc := of_decide_eq_true ho
      subst e
      exact hK _ _ _ _ h
    | some i =>
      simp only [mm_okc, Bool.and_eq_true, decide_eq_true_eq] at ho
      exact mm_soundI C0 hK hRI hRV ho.1.1 ho.1.2 (fun loc st μ hn => ih _ _ _ _ ho.2 hn) h
theorem mm_soundW (C0 : mm_Cx ρ Sh G scr A p R s m args c cells slots) {K : Nat → mm_L → List Value → mm_M → Prop} {RI : Int32 → mm_M → Prop} {RV : mm_M → Prop} {rb : Bool} {lab : Nat → List mm_E} {cut : Nat → Bool}
    (hK : ∀ t loc st μ, K t loc st μ → mm_WX Sh G A ρ.2.2.2.1 p l e R s m args below meth c cells slots Q t loc st μ)
    (hRI : ∀ pc x μ loc, decode ρ.2.2.1 pc = .ok (.ireturn, 1) → ¬ ρ.2.2.2.2.1 = none → (rb = true → x &&& 1 = x) → RI x μ → mm_WX Sh G A ρ.2.2.2.1 p l e R s m args below meth c cells slots Q pc loc [.int x] μ)
    (hRV : ∀ pc μ loc, decode ρ.2.2.1 pc = .ok (.return_, 1) → ρ.2.2.2.2.1 = none → RV μ → mm_WX Sh G A ρ.2.2.2.1 p l e R s m args below meth c cells slots Q pc loc [] μ)
    (hlab : ∀ t, mm_okc ρ t (lab t) = true) :
    ∀ (n t : Nat) (loc : mm_L) (st : List Value) (μ : mm_M), mm_wp Sh scr rb (mm_Cs Sh) K RI RV lab cut n t loc st μ → mm_WX Sh G A ρ.2.2.2.1 p l e R s m args below meth c cells slots Q t loc st μ := by
  intro n
  induction n with
  | zero => intro t loc st μ h; exact hK _ _ _ _ h
  | succ n ih =>
    intro t loc st μ h
    unfold mm_wp at h
    by_cases hc : cut t = true
    · rw [if_pos hc] at h
      exact hK _ _ _ _ h
    · rw [if_neg hc] at h
      exact mm_soundB C0 ih hRI hRV _ _ _ _ _ (hlab t) h
end SND
/-- the machine in a method of the table, at a label: it comes to the method's end with an answer and a memory of that kind -/
def mm_Rn (Sh : List mm_C) (k : Nat) (RI : Int32 → mm_M → Prop) (RV : mm_M → Prop) (pc : Nat) (loc : mm_L) (st : List Value) (μ : mm_M) : Prop :=
  ∀ (l : Launch) (G : mm_G) (A : Nat → Prop) (p : Program) (e : Env) (s : State) (m : MethodId) (args : Array Value) (below : List Frame) (meth : Method) (c : Code), mm_Cx (mm_m k) Sh G none A p (mm_rm (mm_m k)) s m args c 0 0 → meth.sig.returnType = (mm_m k).2.2.2.2.1 → meth.locks = false → mm_WX Sh G A (mm_m k).2.2.2.1 p l e (mm_rm (mm_m k)) s m args below meth c 0 0 (MQ below (mm_Qc Sh G (mm_m k).2.2.2.2.1 RI RV A) args s 0 0 A) pc loc st μ
/-- the rows of one method: from a label over labels, not beyond the cuts -/
theorem mm_run {Sh : List mm_C} {k : Nat} {RI : Int32 → mm_M → Prop} {RV : mm_M → Prop} {lab : Nat → List mm_E} (hlab : ∀ t, mm_okc (mm_m k) t (lab t) = true) (cut : Nat → Bool) (n : Nat) {t : Nat} {loc : mm_L} {st : List Value} {μ : mm_M} (h : mm_wpB Sh none (decide ((mm_m k).2.2.2.2.1 = some .boolean)) (mm_Cs Sh) (mm_wp Sh none (decide ((mm_m k).2.2.2.2.1 = some .boolean)) (mm_Cs Sh) (mm_Rn Sh k RI RV) RI RV lab cut n) RI RV (lab t) loc st μ) : mm_Rn Sh k RI RV t loc st μ := by
  intro l G A p e s m args below meth c C0 hr hlocks
  have hRI : ∀ pc x μ loc, decode (mm_m k).2.2.1 pc = .ok (.ireturn, 1) → ¬ (mm_m k).2.2.2.2.1 = none → (decide ((mm_m k).2.2.2.2.1 = some .boolean) = true → x &&& 1 = x) → RI x μ → mm_WX Sh G A (mm_m k).2.2.2.1 p l e (mm_rm (mm_m k)) s m args below meth c 0 0 (MQ below (mm_Qc Sh G (mm_m k).2.2.2.2.1 RI RV A) args s 0 0 A) pc loc [.int x] μ := by
    intro pc x μ loc hd hne hnb hri H locs ls hP hS hl
    obtain ⟨o1, o2, o3, o4, o5, o6, o7, o8, o9, o10, o11⟩ := mm_mok k
    rcases o11 with h0 | h0 | h0
    · exact absurd h0 hne
    · refine W.iret C0.1 C0.2.1 (by rw [hr, h0]) (fun t ht hW => ?_) hS.2.2 hd
      rw [mm_Qc, if_neg hne]
      exact ⟨⟨x, μ, rfl, hri, by unfold mm_B; rw [ht]; exact hP⟩, hS.F ht⟩
    · refine W.zret C0.1 C0.2.1 (ty := .boolean) (by rw [hr, h0]) (mm_narb (hnb (by rw [h0]; rfl))) (fun t ht hW => ?_) hS.2.2 hd
      rw [mm_Qc, if_neg hne]
      exact ⟨⟨x, μ, rfl, hri, by unfold mm_B; rw [ht]; exact hP⟩, hS.F ht⟩
  have hRV : ∀ pc μ loc, decode (mm_m k).2.2.1 pc = .ok (.return_, 1) → (mm_m k).2.2.2.2.1 = none → RV μ → mm_WX Sh G A (mm_m k).2.2.2.1 p l e (mm_rm (mm_m k)) s m args below meth c 0 0 (MQ below (mm_Qc Sh G (mm_m k).2.2.2.2.1 RI RV A) args s 0 0 A) pc loc [] μ := by
    intro pc μ loc hd hne hrv H locs ls hP hS hl
    refine W.vret C0.1 C0.2.1 (by rw [hr, hne]) (fun t ht hW => ?_) hS.2.2 hd
    rw [mm_Qc, if_pos hne]
    exact ⟨⟨μ, rfl, hrv, by unfold mm_B; rw [ht]; exact hP⟩, hS.F ht⟩
  have hKK : ∀ t loc st μ, mm_Rn Sh k RI RV t loc st μ → mm_WX Sh G A (mm_m k).2.2.2.1 p l e (mm_rm (mm_m k)) s m args below meth c 0 0 (MQ below (mm_Qc Sh G (mm_m k).2.2.2.2.1 RI RV A) args s 0 0 A) t loc st μ := fun t loc st μ h => h l G A p e s m args below meth c C0 hr hlocks
  exact mm_soundB C0 (mm_soundW C0 hKK hRI hRV hlab n) hRI hRV _ _ _ _ _ (hlab t) h
/-- the locals with which a method begins -/
def mm_l0 (k : Nat) (av : List Value) : mm_L := av.map some ++ List.replicate ((mm_m k).2.2.2.1 - av.length) none
theorem mm_lv_args : ∀ (vs : List Value) (n : Nat), (∀ v ∈ vs, v.category = 1) → ∀ (i : Nat) (v : Value), vs[i]? = some v → (n + i, v) ∈ lv_args n vs
  | [], _, _, i, v, h => by simp at h
  | w :: vs, n, hc, 0, v, h => by
    simp at h
    subst h
    exact List.mem_cons_self
  | w :: vs, n, hc, i + 1, v, h => by
    have h1 : w.category = 1 := hc w List.mem_cons_self
    unfold lv_args
    rw [h1]
    refine List.mem_cons_of_mem _ ?_
    have := mm_lv_args vs (n + 1) (fun z hz => hc z (List.mem_cons_of_mem _ hz)) i v (by simpa using h)
    rw [show n + (i + 1) = n + 1 + i by omega]
    exact this
theorem mm_sl_len : ∀ (vs : List Value), (∀ v ∈ vs, v.category = 1) → (lg_sl vs).length = vs.length
  | [], _ => rfl
  | w :: vs, hc => by
    have h1 : w.category = 1 := hc w List.mem_cons_self
    have h2 := mm_sl_len vs (fun z hz => hc z (List.mem_cons_of_mem _ hz))
    simp only [lg_sl, List.flatMap_cons, List.length_append] at h2 ⊢
    rw [h2, h1]
    simp
    omega
theorem mm_in {Sh : List mm_C} {k : Nat} {RI : Int32 → mm_M → Prop} {RV : mm_M → Prop} {av : List Value} {μ : mm_M} (hc : av.all mm_c1 = true) (hn : av.length ≤ (mm_m k).2.2.2.1) (h : mm_Rn Sh k RI RV 0 (mm_l0 k av) [] μ) : mm_Cs Sh k av μ RI RV := by
  intro l G sz
  obtain ⟨o1, o2, o3, o4, o5, o6, o7, o8, o9, o10, o11⟩ := mm_mok k
  refine Met.ofW (cc := (mm_m k).2.2.1) (maxL := (mm_m k).2.2.2.1) (ret := (mm_m k).2.2.2.2.1) o6 rfl ?_
  intro p e s m args below meth c s₁ B hml hv
  obtain ⟨rfl, hsz, hP, hK, hD0, hN⟩ := hv
  have hx := B.exec
  have hb := B.bytes
  have hr := B.returns
  have hts := atoms_spec (ws := mm_ws (mm_m k)) B.pre
  have hown : s.vm.findClass (mm_m k).2.1.cls = some m.cls := findClass_of_methodNamed B.named
  have hlocks := B.notSynchronized
  subst hsz
  have hcat : ∀ v ∈ av.map (mm_v G.2.2.1), v.category = 1 := by
    intro v hv
    obtain ⟨w, hw, rfl⟩ := List.mem_map.mp hv
    exact mm_v_cat (List.all_eq_true.mp hc w hw)
  have hlen : (lg_sl (av.map (mm_v G.2.2.1))).length ≤ (mm_m k).2.2.2.1 := by
    rw [mm_sl_len _ hcat, List.length_map]
    exact hn
  have hl := lv_entry (av.map (mm_v G.2.2.1)) (n := (mm_m k).2.2.2.1) hlen
  rw [lg_entry_eq]
  generalize (lg_sl (av.map (mm_v G.2.2.1)) ++ List.replicate ((mm_m k).2.2.2.1 - (lg_sl (av.map (mm_v G.2.2.1))).length) Slot.unset).toArray = ls at hl ⊢
  have hlh : mm_lh G.2.2.1 ls (mm_m k).2.2.2.1 (mm_l0 k av) := by
    refine ⟨hl.1, hl.2.1, fun i v hi => ?_⟩
    unfold mm_l0 at hi
    by_cases hlt : i < av.length
    · rw [List.getElem?_append_left (by simpa using hlt), List.getElem?_map, List.getElem?_eq_getElem hlt] at hi
      have e : av[i] = v := Option.some.inj (Option.some.inj hi)
      refine ⟨?_, ?_⟩
      · have := hl.2.2 (0 + i, mm_v G.2.2.1 v) (mm_lv_args _ 0 hcat i _ (by rw [List.getElem?_map, List.getElem?_eq_getElem hlt, e]; rfl))
        simpa using this
      · rw [← e]
        exact List.all_eq_true.mp hc _ (List.getElem_mem hlt)
    · rw [List.getElem?_append_right (by simpa using hlt)] at hi
      have := List.eq_of_mem_replicate (List.mem_of_getElem? hi)
      cases this
  have hDA : ∀ μ', va_D (va_A (mm_cells G Sh μ) s.heap.size) (mm_cells G Sh μ') := by
    intro μ'
    refine ⟨fun i j a b ha hb hab => ?_, fun i a ha => ?_⟩
    · obtain ⟨q1, h1, rfl⟩ := mm_cells_inv ha
      obtain ⟨q2, h2, rfl⟩ := mm_cells_inv hb
      rw [mm_cell_ad, mm_cell_ad] at hab
      exact hD0.1 i j _ _ (mm_cells_get h1) (mm_cells_get h2) (by rw [mm_cell_ad, mm_cell_ad]; exact hab)
    · obtain ⟨q1, h1, rfl⟩ := mm_cells_inv ha
      rw [mm_cell_ad]
      have := mm_cells_get (G := G) (μ := μ) h1
      exact Or.inl ⟨i, (mm_cell G μ i q1).2, by rw [this]; exact congrArg some (Prod.ext mm_cell_ad rfl)⟩
  have C0 : mm_Cx (mm_m k) Sh G none (va_A (mm_cells G Sh μ) s.heap.size) p (mm_rm (mm_m k)) s m (av.map (mm_v G.2.2.1)).toArray c 0 0 := ⟨hx, hb, hml, by rw [← o5]; exact hown, fun w hw => hts w (List.mem_cons_of_mem _ hw), hN, hK, hDA, fun q hq => Or.inr hq, ⟨Nat.le_refl _, Nat.le_refl _⟩, ⟨Nat.le_refl _, Nat.le_refl _⟩, fun L xs h => by cases h⟩
  exact h l G _ p e s m _ below meth c C0 hr hlocks s.heap [] ls hP va_S.rf hlh
