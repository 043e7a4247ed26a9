theorem i_cases {x : Int32} (h : ¬ (¬ x < 0 ∧ ¬ (12 : Int32) ≤ x)) (h12 : ¬ x = 12) (h13 : ¬ x = 13) (h14 : ¬ x = 14) (h15 : ¬ x = 15) (h16 : ¬ x = 16) (h17 : ¬ x = 17) : x.toInt < 12 ∨ 17 < x.toInt := by
  by_cases h0 : x < 0
  · left
    have := Int32.lt_iff_toInt_lt.mp h0
    have e : (0 : Int32).toInt = 0 := rfl
    omega
  · obtain ⟨j, hj, rfl⟩ := nI_of h0
    rw [nI_toInt hj]
    have g : ∀ q : Nat, q < 2 ^ 31 → ¬ nI j = nI q → j ≠ q := fun q _ h e => h (by rw [e])
    have g12 := g 12 (by decide) h12
    have g13 := g 13 (by decide) h13
    have g14 := g 14 (by decide) h14
    have g15 := g 15 (by decide) h15
    have g16 := g 16 (by decide) h16
    have g17 := g 17 (by decide) h17
    have hge : ¬ j < 12 := fun hl => h ⟨h0, nI_ge (a := j) (b := 12) hl (by decide)⟩
    omega
def WcI (ai ai' : Nat → Nat → Int32) (i : Nat) : Prop := (∀ s, s < i → ai' 16 s = 0) ∧ (∀ j, j < 8 → j < i → ai' 8 j = 0) ∧ (∀ q, q ≠ 16 → q ≠ 8 → ai' q = ai q)
theorem wc_step {ai ai' : Nat → Nat → Int32} {i : Nat} (h : WcI ai ai' i) : WcI ai (up2 (up2 ai' 16 i 0) 8 (i % 8) 0) (i + 1) := by
  obtain ⟨h1, h2, h3⟩ := h
  refine ⟨fun s hs => ?_, fun j hj hji => ?_, fun q hq1 hq2 => ?_⟩
  · by_cases hsi : s = i
    · simp [up2_at, hsi]
    · simp [up2_at, hsi, h1 s (by omega)]
  · by_cases hji2 : j = i % 8
    · simp [up2_at, hji2]
    · simp [up2_at, hji2, h2 j hj (by omega)]
  · rw [← h3 q hq1 hq2]
    funext b
    simp [up2_at, hq1, hq2]
theorem rep_crash {S : SS} {nw : List Ne} {fi : Nat → Int32} {ai ai' : Nat → Nat → Int32} {al : Nat → Nat → Int64} (h : Rep S nw fi ai al) (hc : WcI ai ai' 64) : Rep (crashS S) nw (va_up (va_up (va_up (va_up fi 7 0) 9 0) 10 0) 25 1) ai' al := by
  obtain ⟨⟨l1, l2, l3⟩, ⟨n1, n2, n3⟩, hP, r1, r2, r3, r4, r5, r6⟩ := h
  obtain ⟨h1, h2, h3⟩ := hc
  refine ⟨⟨rfl, Nat.zero_le _, fun k e he => absurd (show ([] : List En)[k]? = some e from he) (by simp)⟩, ⟨n1, n2, ?_⟩, fun s hs => ⟨h1 s hs, Nat.zero_le _, fun k e he => absurd (show ([] : List Pe)[k]? = some e from he) (by simp)⟩, rfl, rfl, fun j hj => h2 j hj (by omega), ?_, rfl, r6⟩
  · intro k e he
    have := n3 k e he
    simpa [nent, h3 18 (by decide) (by decide), h3 19 (by decide) (by decide), h3 20 (by decide) (by decide), h3 21 (by decide) (by decide), h3 22 (by decide) (by decide)] using this
  · intro j hj
    rw [h3 24 (by decide) (by decide)]
    exact r4 j hj
section REFP
variable {p : Program} {l : Launch} {e : Env} {s : State} {m : MethodId} {args : Array Value} {below : List Frame} {meth : Method} {c : Code} {R : Room} {G : Gd} {A : Nat → Prop} {Q : State → Prop} {k n : Nat} {mo : Nat} {ad sl : Nat → Nat} {S : SS} {nw : List Ne} {I0 : Heap → Prop}
set_option maxRecDepth 4000 in
theorem c_count (hst : MSt mo ad sl) (x : Int32) (hH : sH S < 8) : Ct 1 0 0 yX5_count cX5_count 2 (some .int) G A [.ref mo, .int x] (MPS G A mo ad sl S) (some (.int (countS S x))) (MPS G A mo ad sl S) := by
  refine Ct.of 0 rfl rfl (Nat.le_of_ble_eq_true rfl) ?_
  intro p l e s m below meth c hini
  refine k_openS fun nw => ?_
  refine k_open fun fi ai al h => ?_
  have r1 := h.2.2.2.1
  have r2 : fi 10 = nI (sO S) := h.2.2.2.2.1
  have r3 := h.2.2.2.2.2.1 (sH S) hH
  by_cases hin : ¬ x < 0 ∧ ¬ (12 : Int32) ≤ x
  · obtain ⟨j, hj, e3⟩ := nI_of hin.1
    have hj12 : j < 12 := by
      rcases Nat.lt_or_ge j 12 with q | q
      · exact q
      · exact absurd (e3 ▸ nI_le (a := 12) q hj) hin.2
    have hc : countS S x = sC S j := by unfold countS; rw [if_pos hin, e3, nI_clamp hj]
    rw [hc]
    refine k_iload_n (pc := 0) dX5_count_0 rfl ?_
    refine k_if_lt (tgt := 17) (pc := 1) dX5_count_1 (by decide) (fun c => absurd c (hin.1)) (fun _ => ?_)
    refine k_iload_n (pc := 4) dX5_count_4 rfl ?_
    refine k_bipush (v := 12) (pc := 5) dX5_count_5 (by decide) ?_
    refine k_icmp_ge (tgt := 17) (pc := 7) dX5_count_7 (by decide) (fun c => absurd c (hin.2)) (fun _ => ?_)
    refine k_aload_n (pc := 10) dX5_count_10 rfl ?_
    refine mg_72 hst (pc := 11) dX5_count_11 ?_
    refine k_iload_n (pc := 14) dX5_count_14 rfl ?_
    refine m_iald hst rfl (pc := 15) dX5_count_15 e3 (by simpa [mln] using hj12) (by decide) ?_
    exact k_iret (pc := 16) dX5_count_16 (h.2.2.2.2.2.2.1 j hj12) (MPS.of h) (Nat.le_refl _) (Nat.le_refl _)
  · have sw : K p l e s m ([.ref mo, .int x] : List Value).toArray below meth c (rmm 1 0 0) yX5_count.cls cX5_count 2 (some .int) G A (MQ below (Qd (some (.int (countS S x))) (MPS G A mo ad sl S) A) ([.ref mo, .int x] : List Value).toArray s 0 0 A) 0 0 (MH G A mo ad sl fi ai al) 17 [some (.ref mo), some (.int x)] [] := by
      unfold countS
      rw [if_neg hin]
      by_cases h12 : x = 12
      · subst h12
        rw [if_pos rfl]
        refine k_iload_n (pc := 17) dX5_count_17 rfl ?_
        refine k_tableIn (tgt := 56) (pc := 18) dX5_count_18 (by decide) (by decide) rfl (by decide) ?_
        refine k_close h ?_
        refine k_aload_n (pc := 56) dX5_count_56 rfl ?_
        refine k_callM sv_X5_174 hst (c_aliveInLog hst) (pc := 57) dX5_count_57 rfl rfl (Nat.le_of_ble_eq_true rfl) (by decide) (by decide) (Nat.le_refl _) (Nat.le_refl _) ?_
        exact k_iret (pc := 60) dX5_count_60 rfl (fun _ h => ⟨_, h⟩) (Nat.le_refl _) (Nat.le_refl _)
      rw [if_neg h12]
      by_cases h13 : x = 13
      · subst h13
        rw [if_pos rfl]
        refine k_iload_n (pc := 17) dX5_count_17 rfl ?_
        refine k_tableIn (tgt := 61) (pc := 18) dX5_count_18 (by decide) (by decide) rfl (by decide) ?_
        refine k_close h ?_
        refine k_aload_n (pc := 61) dX5_count_61 rfl ?_
        refine k_callM sv_X5_177 hst (c_inPages hst) (pc := 62) dX5_count_62 rfl rfl (Nat.le_of_ble_eq_true rfl) (by decide) (by decide) (Nat.le_refl _) (Nat.le_refl _) ?_
        exact k_iret (pc := 65) dX5_count_65 rfl (fun _ h => ⟨_, h⟩) (Nat.le_refl _) (Nat.le_refl _)
      rw [if_neg h13]
      by_cases h14 : x = 14
      · subst h14
        rw [if_pos rfl]
        refine k_iload_n (pc := 17) dX5_count_17 rfl ?_
        refine k_tableIn (tgt := 66) (pc := 18) dX5_count_18 (by decide) (by decide) rfl (by decide) ?_
        refine k_aload_n (pc := 66) dX5_count_66 rfl ?_
        refine mg_100 hst (pc := 67) dX5_count_67 ?_
        exact k_iret (pc := 70) dX5_count_70 r2 (MPS.of h) (Nat.le_refl _) (Nat.le_refl _)
      rw [if_neg h14]
      by_cases h15 : x = 15
      · subst h15
        rw [if_pos rfl]
        refine k_iload_n (pc := 17) dX5_count_17 rfl ?_
        refine k_tableIn (tgt := 71) (pc := 18) dX5_count_18 (by decide) (by decide) rfl (by decide) ?_
        refine k_aload_n (pc := 71) dX5_count_71 rfl ?_
        refine mg_106 hst (pc := 72) dX5_count_72 ?_
        exact k_iret (pc := 75) dX5_count_75 r1 (MPS.of h) (Nat.le_refl _) (Nat.le_refl _)
      rw [if_neg h15]
      by_cases h16 : x = 16
      · subst h16
        rw [if_pos rfl]
        refine k_iload_n (pc := 17) dX5_count_17 rfl ?_
        refine k_tableIn (tgt := 76) (pc := 18) dX5_count_18 (by decide) (by decide) rfl (by decide) ?_
        refine k_aload_n (pc := 76) dX5_count_76 rfl ?_
        refine mg_33 hst (pc := 77) dX5_count_77 ?_
        refine k_aload_n (pc := 80) dX5_count_80 rfl ?_
        refine mg_106 hst (pc := 81) dX5_count_81 ?_
        refine m_iald hst rfl (pc := 84) dX5_count_84 r1 (by simpa [mln] using hH) (by decide) ?_
        exact k_iret (pc := 85) dX5_count_85 r3 (MPS.of h) (Nat.le_refl _) (Nat.le_refl _)
      rw [if_neg h16]
      by_cases h17 : x = 17
      · subst h17
        rw [if_pos rfl]
        refine k_iload_n (pc := 17) dX5_count_17 rfl ?_
        refine k_tableIn (tgt := 86) (pc := 18) dX5_count_18 (by decide) (by decide) rfl (by decide) ?_
        refine k_aload_n (pc := 86) dX5_count_86 rfl ?_
        refine mg_157 hst (pc := 87) dX5_count_87 ?_
        rw [rX h]
        cases hx : sX S with
        | true =>
          refine k_if_eq (tgt := 97) (pc := 90) dX5_count_90 (by decide) (fun c => absurd c ((show ¬ bI true = 0 by decide))) (fun _ => ?_)
          refine k_iconst (v := 1) (pc := 93) dX5_count_93 (by decide) ?_
          refine k_goto (tgt := 98) (pc := 94) dX5_count_94 (by decide) ?_
          exact k_iret (pc := 98) dX5_count_98 rfl (MPS.of h) (Nat.le_refl _) (Nat.le_refl _)
        | false =>
          refine k_if_eq (tgt := 97) (pc := 90) dX5_count_90 (by decide) (fun _ => ?_) (fun c => absurd ((show bI false = 0 by decide)) c)
          refine k_iconst (v := 0) (pc := 97) dX5_count_97 (by decide) ?_
          exact k_iret (pc := 98) dX5_count_98 rfl (MPS.of h) (Nat.le_refl _) (Nat.le_refl _)
      rw [if_neg h17]
      refine k_iload_n (pc := 17) dX5_count_17 rfl ?_
      refine k_tableOut (tgt := 99) (pc := 18) dX5_count_18 (i_cases hin h12 h13 h14 h15 h16 h17) (by decide) ?_
      refine k_iconst (v := -1) (pc := 99) dX5_count_99 (by decide) ?_
      exact k_iret (pc := 100) dX5_count_100 rfl (MPS.of h) (Nat.le_refl _) (Nat.le_refl _)
    refine k_iload_n (pc := 0) dX5_count_0 rfl ?_
    refine k_if_lt (tgt := 17) (pc := 1) dX5_count_1 (by decide) (fun h1 => ?_) (fun h1 => ?_)
    · exact sw
    · refine k_iload_n (pc := 4) dX5_count_4 rfl ?_
      refine k_bipush (v := 12) (pc := 5) dX5_count_5 (by decide) ?_
      refine k_icmp_ge (tgt := 17) (pc := 7) dX5_count_7 (by decide) (fun h2 => ?_) (fun h2 => ?_)
      · exact sw
      · exact absurd ⟨h1, h2⟩ hin
set_option maxRecDepth 4000 in
theorem c_close (hst : MSt mo ad sl)  : Ct 0 0 0 yX5_close cX5_close 1 (some .int) G A [.ref mo] (MPS G A mo ad sl S) (some (.int (closeS S).1)) (MPS G A mo ad sl (closeS S).2) := by
  refine Ct.of 0 rfl rfl (Nat.le_of_ble_eq_true rfl) ?_
  intro p l e s m below meth c hini
  refine k_openS fun nw => ?_
  refine k_open fun fi ai al h => ?_
  refine k_aload_n (pc := 0) dX5_close_0 rfl ?_
  refine mg_157 hst (pc := 1) dX5_close_1 ?_
  rw [rX h]
  cases hx : sX S with
  | true =>
    have hp : closeS S = (-2, S) := if_pos hx
    rw [hp]
    refine k_if_eq (tgt := 10) (pc := 4) dX5_close_4 (by decide) (fun c => absurd c ((show ¬ bI true = 0 by decide))) (fun _ => ?_)
    refine k_bipush (v := -2) (pc := 7) dX5_close_7 (by decide) ?_
    exact k_iret (pc := 9) dX5_close_9 rfl (MPS.of h) (Nat.le_refl _) (Nat.le_refl _)
  | false =>
    have hp : closeS S = (1, uX S true) := if_neg (by rw [hx]; decide)
    rw [hp]
    refine k_if_eq (tgt := 10) (pc := 4) dX5_close_4 (by decide) (fun _ => ?_) (fun c => absurd ((show bI false = 0 by decide)) c)
    refine k_aload_n (pc := 10) dX5_close_10 rfl ?_
    refine k_iconst (v := 1) (pc := 11) dX5_close_11 (by decide) ?_
    refine mp_157 hst (pc := 12) dX5_close_12 rfl rfl ?_
    refine k_iconst (v := 1) (pc := 15) dX5_close_15 (by decide) ?_
    exact k_iret (pc := 16) dX5_close_16 rfl (MPS.of (rep_shut h true)) (Nat.le_refl _) (Nat.le_refl _)
set_option maxRecDepth 4000 in
theorem c_open (hst : MSt mo ad sl)  : Ct 1 0 0 yX5_open cX5_open 1 (some .int) G A [.ref mo] (MPS G A mo ad sl S) (some (.int (openS S).1)) (MPS G A mo ad sl (openS S).2) := by
  refine Ct.of 0 rfl rfl (Nat.le_of_ble_eq_true rfl) ?_
  intro p l e s m below meth c hini
  refine k_openS fun nw => ?_
  refine k_open fun fi ai al h => ?_
  refine k_aload_n (pc := 0) dX5_open_0 rfl ?_
  refine mg_157 hst (pc := 1) dX5_open_1 ?_
  rw [rX h]
  cases hx : sX S with
  | false =>
    have hp : openS S = (-1, S) := if_neg (by rw [hx]; decide)
    rw [hp]
    refine k_if_ne (tgt := 9) (pc := 4) dX5_open_4 (by decide) (fun c => absurd ((show bI false = 0 by decide)) c) (fun _ => ?_)
    refine k_iconst (v := -1) (pc := 7) dX5_open_7 (by decide) ?_
    exact k_iret (pc := 8) dX5_open_8 rfl (MPS.of h) (Nat.le_refl _) (Nat.le_refl _)
  | true =>
    have hp : openS S = (livS S, uX S false) := if_pos hx
    rw [hp]
    refine k_if_ne (tgt := 9) (pc := 4) dX5_open_4 (by decide) (fun _ => ?_) (fun c => absurd c ((show ¬ bI true = 0 by decide)))
    refine k_aload_n (pc := 9) dX5_open_9 rfl ?_
    refine k_iconst (v := 0) (pc := 10) dX5_open_10 (by decide) ?_
    refine mp_157 hst (pc := 11) dX5_open_11 rfl rfl ?_
    refine k_close (rep_shut h false) ?_
    refine k_aload_n (pc := 14) dX5_open_14 rfl ?_
    refine k_callM sv_X5_174 hst (c_aliveInLog hst) (pc := 15) dX5_open_15 rfl rfl (Nat.le_of_ble_eq_true rfl) (by decide) (by decide) (Nat.le_refl _) (Nat.le_refl _) ?_
    exact k_iret (pc := 18) dX5_open_18 rfl (fun _ h => ⟨_, h⟩) (Nat.le_refl _) (Nat.le_refl _)
set_option maxRecDepth 4000 in
theorem c_crash (hst : MSt mo ad sl)  : Ct 1 0 0 yX5_crash cX5_crash 3 (some .int) G A [.ref mo] (MPS G A mo ad sl S) (some (.int (livS S))) (MPS G A mo ad sl (crashS S)) := by
  refine Ct.of 2 rfl rfl (Nat.le_of_ble_eq_true rfl) ?_
  intro p l e s m below meth c hini
  refine k_openS fun nw => ?_
  refine k_aload_n (pc := 0) dX5_crash_0 rfl ?_
  refine k_callM sv_X5_174 hst (c_aliveInLog hst) (pc := 1) dX5_crash_1 rfl rfl (Nat.le_of_ble_eq_true rfl) (by decide) (by decide) (Nat.le_refl _) (Nat.le_refl _) ?_
  refine k_istore_n (pc := 4) dX5_crash_4 (by decide) rfl ?_
  refine k_open fun fi ai al h => ?_
  have loop : ∀ j i : Nat, i + j = 64 → ∀ ai', WcI ai ai' i → K p l e s m ([.ref mo] : List Value).toArray below meth c (rmm 1 0 0) yX5_crash.cls cX5_crash 3 (some .int) G A (MQ below (Qd (some (.int (livS S))) (MPS G A mo ad sl (crashS S)) A) ([.ref mo] : List Value).toArray s 0 0 A) 0 0 (MH G A mo ad sl (va_up (va_up (va_up fi 7 0) 9 0) 10 0) ai' al) 22 [some (.ref mo), some (.int (livS S)), some (.int (nI i))] [] := by
    intro j
    induction j with
    | zero =>
      intro i hi ai' hc
      have hi6 : i = 64 := by omega
      subst hi6
      refine k_iload_n (pc := 22) dX5_crash_22 rfl ?_
      refine k_bipush (v := 64) (pc := 23) dX5_crash_23 (by decide) ?_
      refine k_icmp_ge (tgt := 51) (pc := 25) dX5_crash_25 (by decide) (fun _ => ?_) (fun c => absurd (by decide) c)
      refine k_aload_n (pc := 51) dX5_crash_51 rfl ?_
      refine k_iconst (v := 1) (pc := 52) dX5_crash_52 (by decide) ?_
      refine mp_157 hst (pc := 53) dX5_crash_53 rfl rfl ?_
      refine k_iload_n (pc := 56) dX5_crash_56 rfl ?_
      exact k_iret (pc := 57) dX5_crash_57 rfl (MPS.of (rep_crash h hc)) (Nat.le_refl _) (Nat.le_refl _)
    | succ j ih =>
      intro i hi ai' hc
      have hrem : nI i - nI i / 8 * 8 = nI (i % 8) := by
        rw [show (8 : Int32) = nI 8 from rfl, pk_rem (by omega) (by decide) (by decide)]
      refine k_iload_n (pc := 22) dX5_crash_22 rfl ?_
      refine k_bipush (v := 64) (pc := 23) dX5_crash_23 (by decide) ?_
      refine k_icmp_ge (tgt := 51) (pc := 25) dX5_crash_25 (by decide) (fun c => absurd c (nI_ge (a := i) (b := 64) (by omega) (by decide))) (fun _ => ?_)
      refine k_aload_n (pc := 28) dX5_crash_28 rfl ?_
      refine mg_51 hst (pc := 29) dX5_crash_29 ?_
      refine k_iload_n (pc := 32) dX5_crash_32 rfl ?_
      refine k_iconst (v := 0) (pc := 33) dX5_crash_33 (by decide) ?_
      refine m_iast hst rfl (pc := 34) dX5_crash_34 rfl (by simp only [mln]; omega) (by decide) ?_
      refine k_aload_n (pc := 35) dX5_crash_35 rfl ?_
      refine mg_33 hst (pc := 36) dX5_crash_36 ?_
      refine k_iload_n (pc := 39) dX5_crash_39 rfl ?_
      refine k_bipush (v := 8) (pc := 40) dX5_crash_40 (by decide) ?_
      refine k_irem (pc := 42) dX5_crash_42 (by decide) ?_
      refine k_iconst (v := 0) (pc := 43) dX5_crash_43 (by decide) ?_
      refine m_iast hst rfl (pc := 44) dX5_crash_44 hrem (by simp only [mln]; omega) (by decide) ?_
      refine k_iinc (pc := 45) dX5_crash_45 rfl (nI_inc _) (by decide) rfl ?_
      refine k_goto (tgt := 22) (pc := 48) dX5_crash_48 (by decide) ?_
      exact ih (i + 1) (by omega) _ (wc_step hc)
  refine k_aload_n (pc := 5) dX5_crash_5 rfl ?_
  refine k_iconst (v := 0) (pc := 6) dX5_crash_6 (by decide) ?_
  refine mp_96 hst (pc := 7) dX5_crash_7 rfl rfl ?_
  refine k_aload_n (pc := 10) dX5_crash_10 rfl ?_
  refine k_iconst (v := 0) (pc := 11) dX5_crash_11 (by decide) ?_
  refine mp_106 hst (pc := 12) dX5_crash_12 rfl rfl ?_
  refine k_aload_n (pc := 15) dX5_crash_15 rfl ?_
  refine k_iconst (v := 0) (pc := 16) dX5_crash_16 (by decide) ?_
  refine mp_100 hst (pc := 17) dX5_crash_17 rfl rfl ?_
  refine k_iconst (v := 0) (pc := 20) dX5_crash_20 (by decide) ?_
  refine k_istore_n (pc := 21) dX5_crash_21 (by decide) rfl ?_
  exact loop 64 0 (by omega) ai ⟨fun s hs => absurd hs (by omega), fun j _ hj => absurd hj (by omega), fun _ _ _ => rfl⟩
end REFP
