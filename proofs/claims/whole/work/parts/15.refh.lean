theorem rep_inc {S : SS} {nw : List Ne} {fi : Nat → Int32} {ai : Nat → Nat → Int32} {al : Nat → Nat → Int64} (h : Rep S nw fi ai al) {j : Nat} (hj : j < 12) : Rep (uC S (inc (sC S) j)) nw fi (up2 ai 24 j (ai 24 j + 1)) al := by
  obtain ⟨⟨l1, l2, l3⟩, ⟨n1, n2, n3⟩, hP, r1, r2, r3, r4, r5⟩ := h
  refine ⟨⟨l1, l2, ?_⟩, ⟨n1, n2, ?_⟩, ?_, r1, r2, ?_, ?_, r5⟩
  · intro k e he
    simpa [ent, up2_at] using l3 k e he
  · intro k e he
    simpa [nent, up2_at] using n3 k e he
  · intro s hs
    rw [uC_P]
    simpa [pent, up2_at] using hP s hs
  · intro i hi
    rw [uC_N]
    simpa [up2_at] using r3 i hi
  · intro i hi
    rw [uC_C, up2_at]
    unfold inc va_up
    by_cases hij : i = j
    · simp [hij, r4 j hj]
    · simp [hij, r4 i hi]
theorem nI_dec {n : Nat} (h : 0 < n) : nI n - 1 = nI (n - 1) := by
  obtain ⟨m, rfl⟩ : ∃ m, n = m + 1 := ⟨n - 1, by omega⟩
  exact nI_pred m
theorem rep_take {S : SS} {nw : List Ne} {fi : Nat → Int32} {ai : Nat → Nat → Int32} {al : Nat → Nat → Int64} (h : Rep S nw fi ai al) {s0 i wh : Nat} (hs : s0 < 64) (hi : i < (sP S s0).length) (hw : wh < 12) : Rep (uC (uP S (va_up (sP S) s0 ((sP S s0).eraseIdx i))) (inc (sC S) wh)) nw fi (up2 (shA (up2 ai 16 s0 (ai 16 s0 - 1)) 12 15 (8 * s0 + i) (8 * s0 + ((sP S s0).length - 1))) 24 wh (ai 24 wh + 1)) (shA al 11 11 (8 * s0 + i) (8 * s0 + ((sP S s0).length - 1))) := by
  obtain ⟨⟨l1, l2, l3⟩, ⟨n1, n2, n3⟩, hP, r1, r2, r3, r4, r5⟩ := h
  have hle : ((sP S s0).eraseIdx i).length = (sP S s0).length - 1 := by rw [List.length_eraseIdx]; simp [hi]
  obtain ⟨p1, p2, p3⟩ := hP s0 hs
  refine ⟨⟨l1, l2, ?_⟩, ⟨n1, n2, ?_⟩, ?_, r1, r2, ?_, ?_, r5⟩
  · intro k e he
    have := l3 k e he
    simpa [ent, up2_at, shA_at] using this
  · intro k e he
    simpa [nent, up2_at, shA_at] using n3 k e he
  · intro s hs2
    rw [uC_P, uP_P]
    by_cases hss : s = s0
    · subst hss
      rw [va_up_self]
      refine ⟨?_, by omega, fun k e he => ?_⟩
      · simp only [up2_at, shA_at, show ¬ (16 : Nat) = 24 by decide, false_and, if_false, show ¬ (16 : Nat) ≤ 15 by decide, and_false, true_and, if_true, p1, hle]
        exact nI_dec (by omega)
      · have hk : k < (sP S s).length - 1 := by rw [← hle]; exact (List.getElem?_eq_some_iff.mp he).1
        rw [erase_at hi hk] at he
        by_cases hak : i ≤ k
        · rw [if_pos hak] at he
          have := p3 (k + 1) e he
          have h1 : 8 * s + i ≤ 8 * s + k ∧ 8 * s + k < 8 * s + ((sP S s).length - 1) := by omega
          simpa [pent, up2_at, shA_at, h1, Nat.add_assoc] using this
        · rw [if_neg hak] at he
          have := p3 k e he
          have h1 : ¬ (8 * s + i ≤ 8 * s + k) := by omega
          simpa [pent, up2_at, shA_at, hak] using this
    · rw [va_up_ne _ _ hss]
      obtain ⟨q1, q2, q3⟩ := hP s hs2
      refine ⟨by simp [up2_at, shA_at, hss, q1], q2, fun k e he => ?_⟩
      have hk8 : k < 8 := Nat.lt_of_lt_of_le (List.getElem?_eq_some_iff.mp he).1 q2
      have := q3 k e he
      have h1 : ¬ (8 * s0 + i ≤ 8 * s + k ∧ 8 * s + k < 8 * s0 + ((sP S s0).length - 1)) := by omega
      simpa [pent, up2_at, shA_at, h1] using this
  · intro j hj
    rw [uC_N, uP_N]
    simpa [up2_at, shA_at] using r3 j hj
  · intro j hj
    rw [uC_C, up2_at]
    unfold inc va_up
    by_cases hij : j = wh
    · simp [hij, r4 wh hw]
    · simp [hij, shA_at, up2_at, r4 j hj]
theorem ixS_lt {p : List Pe} {key : Int64} {i : Nat} (h : ixS p key = some i) : i < p.length := findIdx?_ltl h
section REFH
variable {p : Program} {l : Launch} {e : Env} {s : State} {m : MethodId} {args : Array Value} {below : List Frame} {meth : Method} {c : Code} {R : Room} {G : Gd} {A : Nat → Prop} {Q : State → Prop} {k n : Nat} {mo : Nat} {ad sl : Nat → Nat} {S : SS} {nw : List Ne}
set_option maxRecDepth 4000 in
theorem c_takeOut (hst : MSt mo ad sl) (key : Int64) (wh : Nat) (hw : wh < 12) : Ct 4 0 0 yX5_takeOut cX5_takeOut 7 (some .boolean) G A [.ref mo, .long key, .int (nI wh)] (MPN G A mo ad sl S nw) (some (.int (bI (takeS S key wh).2))) (MPN G A mo ad sl (takeS S key wh).1 nw) := by
  refine Ct.of 3 rfl rfl (Nat.le_of_ble_eq_true rfl) ?_
  intro p l e s m below meth c hini
  refine k_aload_n (pc := 0) dX5_takeOut_0 rfl ?_
  refine k_lload_n (pc := 1) dX5_takeOut_1 rfl ?_
  refine k_callM sv_X5_150 hst (n_mayHave hst key) (pc := 2) dX5_takeOut_2 rfl rfl (Nat.le_of_ble_eq_true rfl) (by decide) (by decide) (Nat.le_refl _) (Nat.le_refl _) ?_
  by_cases hm : mayS (sP S (setN key)) key = true
  · simp only [hm]
    refine k_if_ne (tgt := 10) (pc := 5) dX5_takeOut_5 (by decide) (fun _ => ?_) (fun c => absurd c ((show ¬ bI true = 0 by decide)))
    refine k_open fun fi0 ai0 al0 h0 => ?_
    refine k_aload_n (pc := 10) dX5_takeOut_10 rfl ?_
    refine mg_72 hst (pc := 11) dX5_takeOut_11 ?_
    refine k_bipush (v := 11) (pc := 14) dX5_takeOut_14 (by decide) ?_
    refine k_dup2 (pc := 16) dX5_takeOut_16 rfl rfl ?_
    refine m_iald hst rfl (pc := 17) dX5_takeOut_17 (show (11 : Int32) = nI 11 from rfl) (by decide) (by decide) ?_
    refine k_iconst (v := 1) (pc := 18) dX5_takeOut_18 (by decide) ?_
    refine k_iadd (pc := 19) dX5_takeOut_19 ?_
    refine m_iast hst rfl (pc := 20) dX5_takeOut_20 (show (11 : Int32) = nI 11 from rfl) (by decide) (by decide) ?_
    refine k_close (rep_inc h0 (j := 11) (by decide)) ?_
    refine k_aload_n (pc := 21) dX5_takeOut_21 rfl ?_
    refine k_lload_n (pc := 22) dX5_takeOut_22 rfl ?_
    refine k_callM sv_X5_154 hst (n_inPage hst key) (pc := 23) dX5_takeOut_23 rfl rfl (Nat.le_of_ble_eq_true rfl) (by decide) (by decide) (Nat.le_refl _) (Nat.le_refl _) ?_
    rw [uC_P]
    cases hx : ixS (sP S (setN key)) key with
    | none =>
      have ht : takeS S key wh = (uC S (inc (sC S) 11), false) := by simp only [takeS, hm, hx, if_true]
      rw [ht]
      refine k_istore (pc := 26) dX5_takeOut_26 (by decide) rfl ?_
      refine k_iload (pc := 28) dX5_takeOut_28 rfl ?_
      refine k_if_ge (tgt := 35) (pc := 30) dX5_takeOut_30 (by decide) (fun c => absurd c ((show ¬ (0 : Int32) ≤ -1 by decide))) (fun _ => ?_)
      refine k_iconst (v := 0) (pc := 33) dX5_takeOut_33 (by decide) ?_
      exact k_zret (pc := 34) dX5_takeOut_34 rfl (bI_nar _) (fun _ h => h) (Nat.le_refl _) (Nat.le_refl _)
    | some i =>
      have hi := ixS_lt hx
      have hs := setN_lt key
      have ht : takeS S key wh = (uC (uP S (va_up (sP S) (setN key) ((sP S (setN key)).eraseIdx i))) (inc (inc (sC S) 11) wh), true) := by simp only [takeS, hm, hx, if_true]
      rw [ht]
      refine k_open fun fi ai al h => ?_
      obtain ⟨p1, p2, p3⟩ := h.2.2.1 (setN key) hs
      rw [uC_P] at p1 p2 p3
      have hR := rep_take h (s0 := setN key) (i := i) (wh := wh) hs (by rw [uC_P]; exact hi) hw
      rw [uC_P] at hR
      have hdiv : nI (8 * setN key + i) / 8 = nI (setN key) := by
        rw [show (8 : Int32) = nI 8 from rfl, pk_div (by omega) (by decide) (by decide)]
        congr 1
        omega
      have fin : K p l e s m ([.ref mo, .long key, .int (nI wh)] : List Value).toArray below meth c (rmm 4 0 0) yX5_takeOut.cls cX5_takeOut 7 (some .boolean) G A (MQ below (Qd (some (.int (bI (takeS S key wh).2))) (MPN G A mo ad sl (takeS S key wh).1 nw) A) ([.ref mo, .long key, .int (nI wh)] : List Value).toArray s 0 0 A) 0 0 (MH G A mo ad sl fi (shA (up2 ai 16 (setN key) (ai 16 (setN key) - 1)) 12 15 (8 * setN key + i) (8 * setN key + ((sP S (setN key)).length - 1))) (shA al 11 11 (8 * setN key + i) (8 * setN key + ((sP S (setN key)).length - 1)))) 161 [some (.ref mo), some (.long key), none, some (.int (nI wh)), none, none, none] [] := by
        rw [ht]
        refine k_aload_n (pc := 161) dX5_takeOut_161 rfl ?_
        refine mg_72 hst (pc := 162) dX5_takeOut_162 ?_
        refine k_iload_n (pc := 165) dX5_takeOut_165 rfl ?_
        refine k_dup2 (pc := 166) dX5_takeOut_166 rfl rfl ?_
        refine m_iald hst rfl (pc := 167) dX5_takeOut_167 rfl (by simpa [mln] using hw) (by decide) ?_
        refine k_iconst (v := 1) (pc := 168) dX5_takeOut_168 (by decide) ?_
        refine k_iadd (pc := 169) dX5_takeOut_169 ?_
        refine m_iast hst rfl (pc := 170) dX5_takeOut_170 rfl (by simpa [mln] using hw) (by decide) ?_
        refine k_iconst (v := 1) (pc := 171) dX5_takeOut_171 (by decide) ?_
        exact k_zret (pc := 172) dX5_takeOut_172 rfl (bI_nar _) (MPN.of (by rw [shA_out (Or.inr (by decide)), up2_at, if_neg (by omega)]; exact hR)) (Nat.le_refl _) (Nat.le_refl _)
      have loop : ∀ j q : Nat, q + j = 8 * setN key + ((sP S (setN key)).length - 1) → 8 * setN key + i ≤ q → K p l e s m ([.ref mo, .long key, .int (nI wh)] : List Value).toArray below meth c (rmm 4 0 0) yX5_takeOut.cls cX5_takeOut 7 (some .boolean) G A (MQ below (Qd (some (.int (bI (takeS S key wh).2))) (MPN G A mo ad sl (takeS S key wh).1 nw) A) ([.ref mo, .long key, .int (nI wh)] : List Value).toArray s 0 0 A) 0 0 (MH G A mo ad sl fi (shA (up2 ai 16 (setN key) (ai 16 (setN key) - 1)) 12 15 (8 * setN key + i) q) (shA al 11 11 (8 * setN key + i) q)) 57 [some (.ref mo), some (.long key), none, some (.int (nI wh)), some (.int (nI (8 * setN key + i))), some (.int (nI (setN key))), some (.int (nI q))] [] := by
        have rd : ∀ q, shA (up2 ai 16 (setN key) (ai 16 (setN key) - 1)) 12 15 (8 * setN key + i) q 16 (setN key) = nI ((sP S (setN key)).length - 1) := by
          intro q
          rw [shA_out (Or.inr (by decide)), up2_at, if_pos ⟨rfl, rfl⟩, p1]
          exact nI_dec (by omega)
        intro j
        induction j with
        | zero =>
          intro q hq ha
          have hi6 : q = 8 * setN key + ((sP S (setN key)).length - 1) := by omega
          subst hi6
          refine k_iload (pc := 57) dX5_takeOut_57 rfl ?_
          refine k_bipush (v := 8) (pc := 59) dX5_takeOut_59 (by decide) ?_
          refine k_iload (pc := 61) dX5_takeOut_61 rfl ?_
          refine k_imul (pc := 63) dX5_takeOut_63 ?_
          refine k_aload_n (pc := 64) dX5_takeOut_64 rfl ?_
          refine mg_51 hst (pc := 65) dX5_takeOut_65 ?_
          refine k_iload (pc := 68) dX5_takeOut_68 rfl ?_
          refine m_iald hst rfl (pc := 70) dX5_takeOut_70 rfl hs (by decide) ?_
          refine k_iadd (pc := 71) dX5_takeOut_71 ?_
          rw [rd, nI_8]
          refine k_icmp_ge (tgt := 161) (pc := 72) dX5_takeOut_72 (by decide) (fun _ => ?_) (fun c => absurd (nI_le (Nat.le_refl _) (by omega)) c)
          exact k_lv (fun i v h => by match i, h with | 0, h => exact h | 1, h => exact h | 2, h => cases h | 3, h => exact h | 4, h => cases h | 5, h => cases h | 6, h => cases h | i + 7, h => cases h) fin
        | succ j ih =>
          intro q hq ha
          have step := ih (q + 1) (by omega) (by omega)
          have hz : ∃ z, up2 ai 16 (setN key) (ai 16 (setN key) - 1) 15 (q + 1) = bI z := by
            obtain ⟨k, hk⟩ : ∃ k, q + 1 = 8 * setN key + k := ⟨q + 1 - 8 * setN key, by omega⟩
            have := (pent_k (p3 k (sP S (setN key))[k] (List.getElem?_eq_getElem (by omega)))).2.2.2.2
            exact ⟨_, by rw [hk]; simpa [up2_at] using this⟩
          obtain ⟨z, hz⟩ := hz
          rw [← shA_step4 ha, ← shA_step1 ha] at step
          refine k_iload (pc := 57) dX5_takeOut_57 rfl ?_
          refine k_bipush (v := 8) (pc := 59) dX5_takeOut_59 (by decide) ?_
          refine k_iload (pc := 61) dX5_takeOut_61 rfl ?_
          refine k_imul (pc := 63) dX5_takeOut_63 ?_
          refine k_aload_n (pc := 64) dX5_takeOut_64 rfl ?_
          refine mg_51 hst (pc := 65) dX5_takeOut_65 ?_
          refine k_iload (pc := 68) dX5_takeOut_68 rfl ?_
          refine m_iald hst rfl (pc := 70) dX5_takeOut_70 rfl hs (by decide) ?_
          refine k_iadd (pc := 71) dX5_takeOut_71 ?_
          rw [rd, nI_8]
          refine k_icmp_ge (tgt := 161) (pc := 72) dX5_takeOut_72 (by decide) (fun c => absurd c (nI_ge (by omega) (by omega))) (fun _ => ?_)
          refine k_aload_n (pc := 75) dX5_takeOut_75 rfl ?_
          refine mg_36 hst (pc := 76) dX5_takeOut_76 ?_
          refine k_iload (pc := 79) dX5_takeOut_79 rfl ?_
          refine k_aload_n (pc := 81) dX5_takeOut_81 rfl ?_
          refine mg_36 hst (pc := 82) dX5_takeOut_82 ?_
          refine k_iload (pc := 85) dX5_takeOut_85 rfl ?_
          refine k_iconst (v := 1) (pc := 87) dX5_takeOut_87 (by decide) ?_
          refine k_iadd (pc := 88) dX5_takeOut_88 ?_
          refine m_lald hst rfl (pc := 89) dX5_takeOut_89 (nI_1 q) (by simp only [mln]; omega) (by decide) ?_
          refine m_last hst rfl (pc := 90) dX5_takeOut_90 rfl (by simp only [mln]; omega) (by decide) ?_
          refine k_aload_n (pc := 91) dX5_takeOut_91 rfl ?_
          refine mg_39 hst (pc := 92) dX5_takeOut_92 ?_
          refine k_iload (pc := 95) dX5_takeOut_95 rfl ?_
          refine k_aload_n (pc := 97) dX5_takeOut_97 rfl ?_
          refine mg_39 hst (pc := 98) dX5_takeOut_98 ?_
          refine k_iload (pc := 101) dX5_takeOut_101 rfl ?_
          refine k_iconst (v := 1) (pc := 103) dX5_takeOut_103 (by decide) ?_
          refine k_iadd (pc := 104) dX5_takeOut_104 ?_
          refine m_iald hst rfl (pc := 105) dX5_takeOut_105 (nI_1 q) (by simp only [mln]; omega) (by decide) ?_
          refine m_iast hst rfl (pc := 106) dX5_takeOut_106 rfl (by simp only [mln]; omega) (by decide) ?_
          refine k_aload_n (pc := 107) dX5_takeOut_107 rfl ?_
          refine mg_42 hst (pc := 108) dX5_takeOut_108 ?_
          refine k_iload (pc := 111) dX5_takeOut_111 rfl ?_
          refine k_aload_n (pc := 113) dX5_takeOut_113 rfl ?_
          refine mg_42 hst (pc := 114) dX5_takeOut_114 ?_
          refine k_iload (pc := 117) dX5_takeOut_117 rfl ?_
          refine k_iconst (v := 1) (pc := 119) dX5_takeOut_119 (by decide) ?_
          refine k_iadd (pc := 120) dX5_takeOut_120 ?_
          refine m_iald hst rfl (pc := 121) dX5_takeOut_121 (nI_1 q) (by simp only [mln]; omega) (by decide) ?_
          refine m_iast hst rfl (pc := 122) dX5_takeOut_122 rfl (by simp only [mln]; omega) (by decide) ?_
          refine k_aload_n (pc := 123) dX5_takeOut_123 rfl ?_
          refine mg_45 hst (pc := 124) dX5_takeOut_124 ?_
          refine k_iload (pc := 127) dX5_takeOut_127 rfl ?_
          refine k_aload_n (pc := 129) dX5_takeOut_129 rfl ?_
          refine mg_45 hst (pc := 130) dX5_takeOut_130 ?_
          refine k_iload (pc := 133) dX5_takeOut_133 rfl ?_
          refine k_iconst (v := 1) (pc := 135) dX5_takeOut_135 (by decide) ?_
          refine k_iadd (pc := 136) dX5_takeOut_136 ?_
          refine m_iald hst rfl (pc := 137) dX5_takeOut_137 (nI_1 q) (by simp only [mln]; omega) (by decide) ?_
          refine m_iast hst rfl (pc := 138) dX5_takeOut_138 rfl (by simp only [mln]; omega) (by decide) ?_
          refine k_aload_n (pc := 139) dX5_takeOut_139 rfl ?_
          refine mg_48 hst (pc := 140) dX5_takeOut_140 ?_
          refine k_iload (pc := 143) dX5_takeOut_143 rfl ?_
          refine k_aload_n (pc := 145) dX5_takeOut_145 rfl ?_
          refine mg_48 hst (pc := 146) dX5_takeOut_146 ?_
          refine k_iload (pc := 149) dX5_takeOut_149 rfl ?_
          refine k_iconst (v := 1) (pc := 151) dX5_takeOut_151 (by decide) ?_
          refine k_iadd (pc := 152) dX5_takeOut_152 ?_
          refine m_zald hst rfl (pc := 153) dX5_takeOut_153 (nI_1 q) (by simp only [mln]; omega) (by decide) ?_
          refine m_zast hst rfl (pc := 154) dX5_takeOut_154 rfl (by simp only [mln]; omega) (by decide) (by rw [up2_at, if_neg (by omega), up2_at, if_neg (by omega), up2_at, if_neg (by omega), shA_rd, hz]; exact bI_nar _) ?_
          refine k_iinc (pc := 155) dX5_takeOut_155 rfl (nI_inc _) (by decide) rfl ?_
          refine k_goto (tgt := 57) (pc := 158) dX5_takeOut_158 (by decide) ?_
          have e13 : ∀ x, up2 (shA (up2 ai 16 (setN key) (ai 16 (setN key) - 1)) 12 15 (8 * setN key + i) q) 12 q x 13 (q + 1) = up2 ai 16 (setN key) (ai 16 (setN key) - 1) 13 (q + 1) := fun x => by rw [up2_at, if_neg (by omega), shA_rd]
          have e14 : ∀ x y, up2 (up2 (shA (up2 ai 16 (setN key) (ai 16 (setN key) - 1)) 12 15 (8 * setN key + i) q) 12 q x) 13 q y 14 (q + 1) = up2 ai 16 (setN key) (ai 16 (setN key) - 1) 14 (q + 1) := fun x y => by rw [up2_at, if_neg (by omega), up2_at, if_neg (by omega), shA_rd]
          have e15 : ∀ x y z, up2 (up2 (up2 (shA (up2 ai 16 (setN key) (ai 16 (setN key) - 1)) 12 15 (8 * setN key + i) q) 12 q x) 13 q y) 14 q z 15 (q + 1) = up2 ai 16 (setN key) (ai 16 (setN key) - 1) 15 (q + 1) := fun x y z => by rw [up2_at, if_neg (by omega), up2_at, if_neg (by omega), up2_at, if_neg (by omega), shA_rd]
          rw [shA_rd, shA_rd, e13, e14, e15]
          exact step
      have l0 := loop ((sP S (setN key)).length - 1 - i) (8 * setN key + i) (by omega) (Nat.le_refl _)
      rw [shA_0, shA_0, ht] at l0
      refine k_istore (pc := 26) dX5_takeOut_26 (by decide) rfl ?_
      refine k_iload (pc := 28) dX5_takeOut_28 rfl ?_
      refine k_if_ge (tgt := 35) (pc := 30) dX5_takeOut_30 (by decide) (fun _ => ?_) (fun c => absurd (nI_pos' (n := 8 * setN key + i) (by omega)) c)
      refine k_iload (pc := 35) dX5_takeOut_35 rfl ?_
      refine k_bipush (v := 8) (pc := 37) dX5_takeOut_37 (by decide) ?_
      refine k_idiv (pc := 39) dX5_takeOut_39 (by decide) ?_
      rw [show oI (Option.map (fun i => 8 * setN key + i) (some i)) = nI (8 * setN key + i) from rfl, hdiv]
      refine k_istore (pc := 40) dX5_takeOut_40 (by decide) rfl ?_
      refine k_aload_n (pc := 42) dX5_takeOut_42 rfl ?_
      refine mg_51 hst (pc := 43) dX5_takeOut_43 ?_
      refine k_iload (pc := 46) dX5_takeOut_46 rfl ?_
      refine k_dup2 (pc := 48) dX5_takeOut_48 rfl rfl ?_
      refine m_iald hst rfl (pc := 49) dX5_takeOut_49 rfl hs (by decide) ?_
      refine k_iconst (v := 1) (pc := 50) dX5_takeOut_50 (by decide) ?_
      refine k_isub (pc := 51) dX5_takeOut_51 ?_
      refine m_iast hst rfl (pc := 52) dX5_takeOut_52 rfl hs (by decide) ?_
      refine k_iload (pc := 53) dX5_takeOut_53 rfl ?_
      refine k_istore (pc := 55) dX5_takeOut_55 (by decide) rfl ?_
      exact l0
  · have hmf : mayS (sP S (setN key)) key = false := by simpa using hm
    have ht : takeS S key wh = (S, false) := by unfold takeS; rw [if_neg hm]
    rw [ht, hmf]
    refine k_if_ne (tgt := 10) (pc := 5) dX5_takeOut_5 (by decide) (fun c => absurd ((show bI false = 0 by decide)) c) (fun _ => ?_)
    refine k_iconst (v := 0) (pc := 8) dX5_takeOut_8 (by decide) ?_
    exact k_zret (pc := 9) dX5_takeOut_9 rfl (bI_nar _) (fun _ h => h) (Nat.le_refl _) (Nat.le_refl _)
end REFH
