theorem cnt_next {L : List En} {i : Nat} {e : En} (pr : En → Bool) (he : L[i]? = some e) : nI ((L.take i).filter pr).length + bI (pr e) = nI ((L.take (i + 1)).filter pr).length := by
  rw [List.take_add_one, he, List.filter_append]
  simp only [Option.toList, List.filter_cons, List.filter_nil]
  cases hp : pr e
  · simp [bI]
  · simp [bI, nI_1]
section REFO
variable {p : Program} {l : Launch} {e : Env} {s : State} {m : MethodId} {args : Array Value} {below : List Frame} {meth : Method} {c : Code} {R : Room} {G : Gd} {A : Nat → Prop} {Q : State → Prop} {k n : Nat} {mo : Nat} {ad sl : Nat → Nat} {S : SS} {nw : List Ne} {I0 : Heap → Prop}
set_option maxRecDepth 4000 in
theorem c_isSet (hst : MSt mo ad sl) (x : Int32) : Ct 0 0 0 yX5_isSet cX5_isSet 1 (some .boolean) G A [.int x] (I0) (some (.int (bI (isSet x)))) (I0) := by
  refine Ct.of 0 rfl rfl (Nat.le_of_ble_eq_true rfl) ?_
  intro p l e s m below meth c hini
  refine k_iload_n (pc := 0) dX5_isSet_0 rfl ?_
  refine k_if_lt (tgt := 14) (pc := 1) dX5_isSet_1 (by decide) (fun h1 => ?_) (fun h1 => ?_)
  · refine k_iconst (v := 0) (pc := 14) dX5_isSet_14 (by decide) ?_
    exact k_zret (pc := 15) dX5_isSet_15 (by simp [isSet, h1, bI]) (bI_nar _) (fun _ h => h) (Nat.le_refl _) (Nat.le_refl _)
  · refine k_iload_n (pc := 4) dX5_isSet_4 rfl ?_
    refine k_bipush (v := 64) (pc := 5) dX5_isSet_5 (by decide) ?_
    refine k_icmp_ge (tgt := 14) (pc := 7) dX5_isSet_7 (by decide) (fun h2 => ?_) (fun h2 => ?_)
    · refine k_iconst (v := 0) (pc := 14) dX5_isSet_14 (by decide) ?_
      exact k_zret (pc := 15) dX5_isSet_15 (by simp [isSet, h2, bI]) (bI_nar _) (fun _ h => h) (Nat.le_refl _) (Nat.le_refl _)
    · refine k_iconst (v := 1) (pc := 10) dX5_isSet_10 (by decide) ?_
      refine k_goto (tgt := 15) (pc := 11) dX5_isSet_11 (by decide) ?_
      exact k_zret (pc := 15) dX5_isSet_15 (by simp [isSet, h1, h2, bI]) (bI_nar _) (fun _ h => h) (Nat.le_refl _) (Nat.le_refl _)
set_option maxRecDepth 4000 in
theorem c_stands (hst : MSt mo ad sl) (x : Int32) : Ct 1 0 0 yX5_stands cX5_stands 2 (some .int) G A [.ref mo, .int x] (MPS G A mo ad sl S) (some (.int (standsS S x))) (MPS G A mo ad sl S) := by
  refine Ct.of 0 rfl rfl (Nat.le_of_ble_eq_true rfl) ?_
  intro p l e s m below meth c hini
  refine k_openS fun nw => ?_
  refine k_open fun fi ai al h => ?_
  refine k_aload_n (pc := 0) dX5_stands_0 rfl ?_
  refine mg_157 hst (pc := 1) dX5_stands_1 ?_
  rw [rX h]
  cases hx : sX S with
  | true =>
    refine k_if_eq (tgt := 12) (pc := 4) dX5_stands_4 (by decide) (fun c => absurd c ((show ¬ bI true = 0 by decide))) (fun _ => ?_)
    refine k_bipush (v := -2) (pc := 7) dX5_stands_7 (by decide) ?_
    refine k_goto (tgt := 29) (pc := 9) dX5_stands_9 (by decide) ?_
    exact k_iret (pc := 29) dX5_stands_29 (by unfold standsS; rw [if_pos hx]) (MPS.of h) (Nat.le_refl _) (Nat.le_refl _)
  | false =>
    have hx2 : ¬ sX S = true := by rw [hx]; decide
    refine k_if_eq (tgt := 12) (pc := 4) dX5_stands_4 (by decide) (fun _ => ?_) (fun c => absurd (show bI false = 0 by decide) c)
    refine k_iload_n (pc := 12) dX5_stands_12 rfl ?_
    refine k_callS ss_X5_170 (c_isSet hst x) (pc := 13) dX5_stands_13 rfl rfl (Nat.le_of_ble_eq_true rfl) (by decide) (by decide) (Nat.le_refl _) (Nat.le_refl _) ?_
    cases hi : isSet x with
    | true =>
      obtain ⟨e1, e2⟩ := isSet_ok hi
      refine k_if_eq (tgt := 28) (pc := 16) dX5_stands_16 (by decide) (fun c => absurd c ((show ¬ bI true = 0 by decide))) (fun _ => ?_)
      refine k_aload_n (pc := 19) dX5_stands_19 rfl ?_
      refine mg_51 hst (pc := 20) dX5_stands_20 ?_
      refine k_iload_n (pc := 23) dX5_stands_23 rfl ?_
      refine m_iald hst rfl (pc := 24) dX5_stands_24 e1 e2 (by decide) ?_
      refine k_goto (tgt := 29) (pc := 25) dX5_stands_25 (by decide) ?_
      exact k_iret (pc := 29) dX5_stands_29 (by unfold standsS; rw [if_neg hx2, if_pos hi]; exact (h.2.2.1 _ e2).1) (MPS.of h) (Nat.le_refl _) (Nat.le_refl _)
    | false =>
      refine k_if_eq (tgt := 28) (pc := 16) dX5_stands_16 (by decide) (fun _ => ?_) (fun c => absurd ((show bI false = 0 by decide)) c)
      refine k_iconst (v := -1) (pc := 28) dX5_stands_28 (by decide) ?_
      exact k_iret (pc := 29) dX5_stands_29 (by unfold standsS; rw [if_neg hx2, if_neg (by rw [hi]; decide)]) (MPS.of h) (Nat.le_refl _) (Nat.le_refl _)
set_option maxRecDepth 4000 in
theorem c_key (hst : MSt mo ad sl) (x i : Int32) : Ct 1 0 0 yX5_key cX5_key 3 (some .long) G A [.ref mo, .int x, .int i] (MPS G A mo ad sl S) (some (.long (keyS S x i))) (MPS G A mo ad sl S) := by
  refine Ct.of 0 rfl rfl (Nat.le_of_ble_eq_true rfl) ?_
  intro p l e s m below meth c hini
  refine k_openS fun nw => ?_
  refine k_open fun fi ai al h => ?_
  have fin : keyS S x i = 0 → K p l e s m ([.ref mo, .int x, .int i] : List Value).toArray below meth c (rmm 1 0 0) yX5_key.cls cX5_key 3 (some .long) G A (MQ below (Qd (some (.long (keyS S x i))) (MPS G A mo ad sl S) A) ([.ref mo, .int x, .int i] : List Value).toArray s 0 0 A) 0 0 (MH G A mo ad sl fi ai al) 42 [some (.ref mo), some (.int x), some (.int i)] [] := by
    intro h0
    rw [h0]
    refine k_lconst (v := 0) (pc := 42) dX5_key_42 (by decide) ?_
    exact k_lret (pc := 43) dX5_key_43 rfl (MPS.of h) (Nat.le_refl _) (Nat.le_refl _)
  refine k_aload_n (pc := 0) dX5_key_0 rfl ?_
  refine mg_157 hst (pc := 1) dX5_key_1 ?_
  rw [rX h]
  cases hx : sX S with
  | true =>
    refine k_if_ne (tgt := 42) (pc := 4) dX5_key_4 (by decide) (fun _ => ?_) (fun c => absurd c ((show ¬ bI true = 0 by decide)))
    exact fin (by unfold keyS; rw [if_pos hx])
  | false =>
    have hx2 : ¬ sX S = true := by rw [hx]; decide
    refine k_if_ne (tgt := 42) (pc := 4) dX5_key_4 (by decide) (fun c => absurd ((show bI false = 0 by decide)) c) (fun _ => ?_)
    refine k_iload_n (pc := 7) dX5_key_7 rfl ?_
    refine k_callS ss_X5_170 (c_isSet hst x) (pc := 8) dX5_key_8 rfl rfl (Nat.le_of_ble_eq_true rfl) (by decide) (by decide) (Nat.le_refl _) (Nat.le_refl _) ?_
    cases hi : isSet x with
    | true =>
      obtain ⟨e1, e2⟩ := isSet_ok hi
      obtain ⟨g1, g2, g3⟩ := h.2.2.1 _ e2
      refine k_if_eq (tgt := 42) (pc := 11) dX5_key_11 (by decide) (fun c => absurd c ((show ¬ bI true = 0 by decide))) (fun _ => ?_)
      refine k_iload_n (pc := 14) dX5_key_14 rfl ?_
      refine k_if_lt (tgt := 42) (pc := 15) dX5_key_15 (by decide) (fun h1 => ?_) (fun h1 => ?_)
      · exact fin (by unfold keyS; rw [if_neg hx2, if_pos hi, if_pos h1])
      · obtain ⟨q, hq, e3⟩ := nI_of h1
        have hk : keyS S x i = (((sP S x.toNatClampNeg)[q]?).map (fun e => e.1.1)).getD 0 := by
          unfold keyS
          rw [if_neg hx2, if_pos hi, if_neg h1, e3, nI_clamp hq]
        refine k_iload_n (pc := 18) dX5_key_18 rfl ?_
        refine k_aload_n (pc := 19) dX5_key_19 rfl ?_
        refine mg_51 hst (pc := 20) dX5_key_20 ?_
        refine k_iload_n (pc := 23) dX5_key_23 rfl ?_
        refine m_iald hst rfl (pc := 24) dX5_key_24 e1 e2 (by decide) ?_
        rw [g1]
        by_cases hql : q < (sP S x.toNatClampNeg).length
        · refine k_icmp_ge (tgt := 42) (pc := 25) dX5_key_25 (by decide) (fun c => absurd (e3 ▸ c) (nI_ge hql (by omega))) (fun _ => ?_)
          obtain ⟨c0, -⟩ := pent_k (g3 q _ (List.getElem?_eq_getElem hql))
          refine k_aload_n (pc := 28) dX5_key_28 rfl ?_
          refine mg_36 hst (pc := 29) dX5_key_29 ?_
          refine k_bipush (v := 8) (pc := 32) dX5_key_32 (by decide) ?_
          refine k_iload_n (pc := 34) dX5_key_34 rfl ?_
          refine k_imul (pc := 35) dX5_key_35 ?_
          refine k_iload_n (pc := 36) dX5_key_36 rfl ?_
          refine k_iadd (pc := 37) dX5_key_37 ?_
          have hix : 8 * x + i = nI (8 * x.toNatClampNeg + q) := by rw [e1, e3, nI_8, nI_clamp (by omega)]
          refine m_lald hst rfl (pc := 38) dX5_key_38 hix (by simp only [mln]; omega) (by decide) ?_
          refine k_goto (tgt := 43) (pc := 39) dX5_key_39 (by decide) ?_
          exact k_lret (pc := 43) dX5_key_43 (by rw [hk, List.getElem?_eq_getElem hql]; exact c0) (MPS.of h) (Nat.le_refl _) (Nat.le_refl _)
        · refine k_icmp_ge (tgt := 42) (pc := 25) dX5_key_25 (by decide) (fun _ => ?_) (fun c => absurd (e3 ▸ nI_le (by omega) hq) c)
          exact fin (by rw [hk, List.getElem?_eq_none (by omega)]; rfl)
    | false =>
      refine k_if_eq (tgt := 42) (pc := 11) dX5_key_11 (by decide) (fun _ => ?_) (fun c => absurd ((show bI false = 0 by decide)) c)
      exact fin (by unfold keyS; rw [if_neg hx2, if_neg (by rw [hi]; decide)])
set_option maxRecDepth 4000 in
theorem c_filter (hst : MSt mo ad sl) (x : Int32) : Ct 3 0 0 yX5_filter cX5_filter 2 (some .long) G A [.ref mo, .int x] (MPS G A mo ad sl S) (some (.long (filterS S x))) (MPS G A mo ad sl S) := by
  refine Ct.of 0 rfl rfl (Nat.le_of_ble_eq_true rfl) ?_
  intro p l e s m below meth c hini
  refine k_openS fun nw => ?_
  refine k_open fun fi ai al h => ?_
  refine k_aload_n (pc := 0) dX5_filter_0 rfl ?_
  refine mg_157 hst (pc := 1) dX5_filter_1 ?_
  rw [rX h]
  cases hx : sX S with
  | true =>
    refine k_if_ne (tgt := 22) (pc := 4) dX5_filter_4 (by decide) (fun _ => ?_) (fun c => absurd c ((show ¬ bI true = 0 by decide)))
    refine k_lconst (v := 0) (pc := 22) dX5_filter_22 (by decide) ?_
    exact k_lret (pc := 23) dX5_filter_23 (by unfold filterS; rw [if_pos hx]) (MPS.of h) (Nat.le_refl _) (Nat.le_refl _)
  | false =>
    have hx2 : ¬ sX S = true := by rw [hx]; decide
    refine k_if_ne (tgt := 22) (pc := 4) dX5_filter_4 (by decide) (fun c => absurd ((show bI false = 0 by decide)) c) (fun _ => ?_)
    refine k_iload_n (pc := 7) dX5_filter_7 rfl ?_
    refine k_callS ss_X5_170 (c_isSet hst x) (pc := 8) dX5_filter_8 rfl rfl (Nat.le_of_ble_eq_true rfl) (by decide) (by decide) (Nat.le_refl _) (Nat.le_refl _) ?_
    cases hi : isSet x with
    | true =>
      obtain ⟨e1, e2⟩ := isSet_ok hi
      refine k_if_eq (tgt := 22) (pc := 11) dX5_filter_11 (by decide) (fun c => absurd c ((show ¬ bI true = 0 by decide))) (fun _ => ?_)
      have hC := n_filterOf (G := G) (A := A) (S := S) (nw := nw) hst x.toNatClampNeg e2
      rw [← e1] at hC
      refine k_close h ?_
      refine k_aload_n (pc := 14) dX5_filter_14 rfl ?_
      refine k_iload_n (pc := 15) dX5_filter_15 rfl ?_
      refine k_callM sv_X5_92 hst (hC) (pc := 16) dX5_filter_16 rfl rfl (Nat.le_of_ble_eq_true rfl) (by decide) (by decide) (Nat.le_refl _) (Nat.le_refl _) ?_
      refine k_goto (tgt := 23) (pc := 19) dX5_filter_19 (by decide) ?_
      exact k_lret (pc := 23) dX5_filter_23 (by unfold filterS; rw [if_neg hx2, if_pos hi]) (fun _ h => ⟨_, h⟩) (Nat.le_refl _) (Nat.le_refl _)
    | false =>
      refine k_if_eq (tgt := 22) (pc := 11) dX5_filter_11 (by decide) (fun _ => ?_) (fun c => absurd ((show bI false = 0 by decide)) c)
      refine k_lconst (v := 0) (pc := 22) dX5_filter_22 (by decide) ?_
      exact k_lret (pc := 23) dX5_filter_23 (by unfold filterS; rw [if_neg hx2, if_neg (by rw [hi]; decide)]) (MPS.of h) (Nat.le_refl _) (Nat.le_refl _)
set_option maxRecDepth 4000 in
theorem c_aliveInLog (hst : MSt mo ad sl)  : Ct 0 0 0 yX5_aliveInLog cX5_aliveInLog 3 (some .int) G A [.ref mo] (MPN G A mo ad sl S nw) (some (.int (livS S))) (MPN G A mo ad sl S nw) := by
  refine Ct.of 2 rfl rfl (Nat.le_of_ble_eq_true rfl) ?_
  intro p l e s m below meth c hini
  refine k_open fun fi ai al h => ?_
  have hlen := h.1.2.1
  have loop : ∀ j i : Nat, i + j = (sL S).length → K p l e s m ([.ref mo] : List Value).toArray below meth c (rmm 0 0 0) yX5_aliveInLog.cls cX5_aliveInLog 3 (some .int) G A (MQ below (Qd (some (.int (livS S))) (MPN G A mo ad sl S nw) A) ([.ref mo] : List Value).toArray s 0 0 A) 0 0 (MH G A mo ad sl fi ai al) 4 [some (.ref mo), some (.int (nI (((sL S).take i).filter (fun e => e.2.1)).length)), some (.int (nI i))] [] := by
    intro j
    induction j with
    | zero =>
      intro i hi
      have hi6 : i = (sL S).length := by omega
      subst hi6
      refine k_iload_n (pc := 4) dX5_aliveInLog_4 rfl ?_
      refine k_aload_n (pc := 5) dX5_aliveInLog_5 rfl ?_
      refine mg_96 hst (pc := 6) dX5_aliveInLog_6 ?_
      rw [h.1.1]
      refine k_icmp_ge (tgt := 35) (pc := 9) dX5_aliveInLog_9 (by decide) (fun _ => ?_) (fun c => absurd (nI_le (Nat.le_refl _) (by omega)) c)
      rw [List.take_length]
      refine k_iload_n (pc := 35) dX5_aliveInLog_35 rfl ?_
      exact k_iret (pc := 36) dX5_aliveInLog_36 rfl (MPN.of h) (Nat.le_refl _) (Nat.le_refl _)
    | succ j ih =>
      intro i hi
      obtain ⟨e0, he0⟩ : ∃ e0, (sL S)[i]? = some e0 := ⟨(sL S)[i], List.getElem?_eq_getElem (by omega)⟩
      obtain ⟨-, -, -, -, c4, -⟩ := ent_k (h.1.2.2 i e0 he0)
      have step := ih (i + 1) (by omega)
      rw [← cnt_next _ he0] at step
      refine k_iload_n (pc := 4) dX5_aliveInLog_4 rfl ?_
      refine k_aload_n (pc := 5) dX5_aliveInLog_5 rfl ?_
      refine mg_96 hst (pc := 6) dX5_aliveInLog_6 ?_
      rw [h.1.1]
      refine k_icmp_ge (tgt := 35) (pc := 9) dX5_aliveInLog_9 (by decide) (fun c => absurd c (nI_ge (by omega) (by omega))) (fun _ => ?_)
      refine k_iload_n (pc := 12) dX5_aliveInLog_12 rfl ?_
      refine k_aload_n (pc := 13) dX5_aliveInLog_13 rfl ?_
      refine mg_23 hst (pc := 14) dX5_aliveInLog_14 ?_
      refine k_iload_n (pc := 17) dX5_aliveInLog_17 rfl ?_
      refine m_zald hst rfl (pc := 18) dX5_aliveInLog_18 rfl (by simp only [mln]; omega) (by decide) ?_
      rw [c4]
      cases hb : e0.2.1 with
      | true =>
        simp only [hb] at step
        refine k_if_eq (tgt := 26) (pc := 19) dX5_aliveInLog_19 (by decide) (fun c => absurd c ((show ¬ bI true = 0 by decide))) (fun _ => ?_)
        refine k_iconst (v := 1) (pc := 22) dX5_aliveInLog_22 (by decide) ?_
        refine k_goto (tgt := 27) (pc := 23) dX5_aliveInLog_23 (by decide) ?_
        refine k_iadd (pc := 27) dX5_aliveInLog_27 ?_
        refine k_istore_n (pc := 28) dX5_aliveInLog_28 (by decide) rfl ?_
        refine k_iinc (pc := 29) dX5_aliveInLog_29 rfl (nI_inc _) (by decide) rfl ?_
        refine k_goto (tgt := 4) (pc := 32) dX5_aliveInLog_32 (by decide) ?_
        exact step
      | false =>
        simp only [hb] at step
        refine k_if_eq (tgt := 26) (pc := 19) dX5_aliveInLog_19 (by decide) (fun _ => ?_) (fun c => absurd ((show bI false = 0 by decide)) c)
        refine k_iconst (v := 0) (pc := 26) dX5_aliveInLog_26 (by decide) ?_
        refine k_iadd (pc := 27) dX5_aliveInLog_27 ?_
        refine k_istore_n (pc := 28) dX5_aliveInLog_28 (by decide) rfl ?_
        refine k_iinc (pc := 29) dX5_aliveInLog_29 rfl (nI_inc _) (by decide) rfl ?_
        refine k_goto (tgt := 4) (pc := 32) dX5_aliveInLog_32 (by decide) ?_
        exact step
  refine k_iconst (v := 0) (pc := 0) dX5_aliveInLog_0 (by decide) ?_
  refine k_istore_n (pc := 1) dX5_aliveInLog_1 (by decide) rfl ?_
  refine k_iconst (v := 0) (pc := 2) dX5_aliveInLog_2 (by decide) ?_
  refine k_istore_n (pc := 3) dX5_aliveInLog_3 (by decide) rfl ?_
  exact loop (sL S).length 0 (by omega)
set_option maxRecDepth 4000 in
theorem c_inPages (hst : MSt mo ad sl)  : Ct 0 0 0 yX5_inPages cX5_inPages 3 (some .int) G A [.ref mo] (MPN G A mo ad sl S nw) (some (.int (nI (sumP S 64)))) (MPN G A mo ad sl S nw) := by
  refine Ct.of 2 rfl rfl (Nat.le_of_ble_eq_true rfl) ?_
  intro p l e s m below meth c hini
  refine k_open fun fi ai al h => ?_
  have loop : ∀ j i : Nat, i + j = 64 → K p l e s m ([.ref mo] : List Value).toArray below meth c (rmm 0 0 0) yX5_inPages.cls cX5_inPages 3 (some .int) G A (MQ below (Qd (some (.int (nI (sumP S 64)))) (MPN G A mo ad sl S nw) A) ([.ref mo] : List Value).toArray s 0 0 A) 0 0 (MH G A mo ad sl fi ai al) 4 [some (.ref mo), some (.int (nI (sumP S i))), some (.int (nI i))] [] := by
    intro j
    induction j with
    | zero =>
      intro i hi
      have hi6 : i = 64 := by omega
      subst hi6
      refine k_iload_n (pc := 4) dX5_inPages_4 rfl ?_
      refine k_bipush (v := 64) (pc := 5) dX5_inPages_5 (by decide) ?_
      refine k_icmp_ge (tgt := 25) (pc := 7) dX5_inPages_7 (by decide) (fun _ => ?_) (fun c => absurd (by decide) c)
      refine k_iload_n (pc := 25) dX5_inPages_25 rfl ?_
      exact k_iret (pc := 26) dX5_inPages_26 rfl (MPN.of h) (Nat.le_refl _) (Nat.le_refl _)
    | succ j ih =>
      intro i hi
      have step := ih (i + 1) (by omega)
      rw [show sumP S (i + 1) = sumP S i + (sP S i).length from rfl, ← nI_add] at step
      refine k_iload_n (pc := 4) dX5_inPages_4 rfl ?_
      refine k_bipush (v := 64) (pc := 5) dX5_inPages_5 (by decide) ?_
      refine k_icmp_ge (tgt := 25) (pc := 7) dX5_inPages_7 (by decide) (fun c => absurd c (nI_ge (a := i) (b := 64) (by omega) (by decide))) (fun _ => ?_)
      refine k_iload_n (pc := 10) dX5_inPages_10 rfl ?_
      refine k_aload_n (pc := 11) dX5_inPages_11 rfl ?_
      refine mg_51 hst (pc := 12) dX5_inPages_12 ?_
      refine k_iload_n (pc := 15) dX5_inPages_15 rfl ?_
      refine m_iald hst rfl (pc := 16) dX5_inPages_16 rfl (by simp only [mln]; omega) (by decide) ?_
      rw [(h.2.2.1 i (by omega)).1]
      refine k_iadd (pc := 17) dX5_inPages_17 ?_
      refine k_istore_n (pc := 18) dX5_inPages_18 (by decide) rfl ?_
      refine k_iinc (pc := 19) dX5_inPages_19 rfl (nI_inc _) (by decide) rfl ?_
      refine k_goto (tgt := 4) (pc := 22) dX5_inPages_22 (by decide) ?_
      exact step
  refine k_iconst (v := 0) (pc := 0) dX5_inPages_0 (by decide) ?_
  refine k_istore_n (pc := 1) dX5_inPages_1 (by decide) rfl ?_
  refine k_iconst (v := 0) (pc := 2) dX5_inPages_2 (by decide) ?_
  refine k_istore_n (pc := 3) dX5_inPages_3 (by decide) rfl ?_
  exact loop 64 0 (by omega)
set_option maxRecDepth 4000 in
theorem c_alive (hst : MSt mo ad sl) (x : Int32) (hb : Lb S) : Ct 0 0 0 yX5_alive cX5_alive 4 (some .int) G A [.ref mo, .int x] (MPS G A mo ad sl S) (some (.int (aliveS S x))) (MPS G A mo ad sl S) := by
  refine Ct.of 2 rfl rfl (Nat.le_of_ble_eq_true rfl) ?_
  intro p l e s m below meth c hini
  refine k_openS fun nw => ?_
  refine k_open fun fi ai al h => ?_
  have hlen := h.1.2.1
  refine k_aload_n (pc := 0) dX5_alive_0 rfl ?_
  refine mg_157 hst (pc := 1) dX5_alive_1 ?_
  rw [rX h]
  cases hx : sX S with
  | true =>
    refine k_if_eq (tgt := 10) (pc := 4) dX5_alive_4 (by decide) (fun c => absurd c ((show ¬ bI true = 0 by decide))) (fun _ => ?_)
    refine k_bipush (v := -2) (pc := 7) dX5_alive_7 (by decide) ?_
    exact k_iret (pc := 9) dX5_alive_9 (by unfold aliveS; rw [if_pos hx]) (MPS.of h) (Nat.le_refl _) (Nat.le_refl _)
  | false =>
    have hx2 : ¬ sX S = true := by rw [hx]; decide
    refine k_if_eq (tgt := 10) (pc := 4) dX5_alive_4 (by decide) (fun _ => ?_) (fun c => absurd ((show bI false = 0 by decide)) c)
    refine k_iload_n (pc := 10) dX5_alive_10 rfl ?_
    refine k_if_lt (tgt := 20) (pc := 11) dX5_alive_11 (by decide) (fun h1 => ?_) (fun h1 => ?_)
    · refine k_iconst (v := -1) (pc := 20) dX5_alive_20 (by decide) ?_
      exact k_iret (pc := 21) dX5_alive_21 (by unfold aliveS; rw [if_neg hx2, if_pos (Or.inl h1)]) (MPS.of h) (Nat.le_refl _) (Nat.le_refl _)
    · refine k_iload_n (pc := 14) dX5_alive_14 rfl ?_
      refine k_bipush (v := 8) (pc := 15) dX5_alive_15 (by decide) ?_
      refine k_icmp_le (tgt := 22) (pc := 17) dX5_alive_17 (by decide) (fun h2 => ?_) (fun h2 => ?_)
      · have hin : ¬ (x < 0 ∨ (8 : Int32) < x) := fun z => z.elim h1 (fun z => absurd h2 (Int32.not_le.mpr z))
        obtain ⟨q, hq, e3⟩ := nI_of2 (x := x) (M := 8) (n := 8) rfl h1 h2
        have ha : aliveS S x = nI (cntS S (fun e => e.2.1 && e.2.2.2 / 4 == q)) := by unfold aliveS; rw [if_neg hx2, if_neg hin, e3, nI_clamp (by omega)]
        rw [ha]
        have loop : ∀ j i : Nat, i + j = (sL S).length → K p l e s m ([.ref mo, .int x] : List Value).toArray below meth c (rmm 0 0 0) yX5_alive.cls cX5_alive 4 (some .int) G A (MQ below (Qd (some (.int (aliveS S x))) (MPS G A mo ad sl S) A) ([.ref mo, .int x] : List Value).toArray s 0 0 A) 0 0 (MH G A mo ad sl fi ai al) 26 [some (.ref mo), some (.int x), some (.int (nI (((sL S).take i).filter (fun e => e.2.1 && e.2.2.2 / 4 == q)).length)), some (.int (nI i))] [] := by
          rw [ha]
          intro j
          induction j with
          | zero =>
            intro i hi
            have hi6 : i = (sL S).length := by omega
            subst hi6
            refine k_iload_n (pc := 26) dX5_alive_26 rfl ?_
            refine k_aload_n (pc := 27) dX5_alive_27 rfl ?_
            refine mg_96 hst (pc := 28) dX5_alive_28 ?_
            rw [h.1.1]
            refine k_icmp_ge (tgt := 67) (pc := 31) dX5_alive_31 (by decide) (fun _ => ?_) (fun c => absurd (nI_le (Nat.le_refl _) (by omega)) c)
            rw [List.take_length]
            refine k_iload_n (pc := 67) dX5_alive_67 rfl ?_
            exact k_iret (pc := 68) dX5_alive_68 rfl (MPS.of h) (Nat.le_refl _) (Nat.le_refl _)
          | succ j ih =>
            intro i hi
            obtain ⟨e0, he0⟩ : ∃ e0, (sL S)[i]? = some e0 := ⟨(sL S)[i], List.getElem?_eq_getElem (by omega)⟩
            obtain ⟨-, -, -, -, c4, -, c6⟩ := ent_k (h.1.2.2 i e0 he0)
            have hp40 := (hb e0 (List.mem_of_getElem? he0)).1
            have step := ih (i + 1) (by omega)
            rw [← cnt_next _ he0] at step
            refine k_iload_n (pc := 26) dX5_alive_26 rfl ?_
            refine k_aload_n (pc := 27) dX5_alive_27 rfl ?_
            refine mg_96 hst (pc := 28) dX5_alive_28 ?_
            rw [h.1.1]
            refine k_icmp_ge (tgt := 67) (pc := 31) dX5_alive_31 (by decide) (fun c => absurd c (nI_ge (by omega) (by omega))) (fun _ => ?_)
            refine k_iload_n (pc := 34) dX5_alive_34 rfl ?_
            refine k_aload_n (pc := 35) dX5_alive_35 rfl ?_
            refine mg_23 hst (pc := 36) dX5_alive_36 ?_
            refine k_iload_n (pc := 39) dX5_alive_39 rfl ?_
            refine m_zald hst rfl (pc := 40) dX5_alive_40 rfl (by simp only [mln]; omega) (by decide) ?_
            rw [c4]
            cases hal : e0.2.1 with
            | false =>
              simp only [hal, Bool.false_and] at step
              refine k_if_eq (tgt := 58) (pc := 41) dX5_alive_41 (by decide) (fun _ => ?_) (fun c => absurd ((show bI false = 0 by decide)) c)
              refine k_iconst (v := 0) (pc := 58) dX5_alive_58 (by decide) ?_
              refine k_iadd (pc := 59) dX5_alive_59 ?_
              refine k_istore_n (pc := 60) dX5_alive_60 (by decide) rfl ?_
              refine k_iinc (pc := 61) dX5_alive_61 rfl (nI_inc _) (by decide) rfl ?_
              refine k_goto (tgt := 26) (pc := 64) dX5_alive_64 (by decide) ?_
              exact step
            | true =>
              simp only [hal, Bool.true_and] at step
              refine k_if_eq (tgt := 58) (pc := 41) dX5_alive_41 (by decide) (fun c => absurd c ((show ¬ bI true = 0 by decide))) (fun _ => ?_)
              refine k_aload_n (pc := 44) dX5_alive_44 rfl ?_
              refine mg_30 hst (pc := 45) dX5_alive_45 ?_
              refine k_iload_n (pc := 48) dX5_alive_48 rfl ?_
              refine m_iald hst rfl (pc := 49) dX5_alive_49 rfl (by simp only [mln]; omega) (by decide) ?_
              refine k_iload_n (pc := 50) dX5_alive_50 rfl ?_
              rw [c6]
              by_cases hpq : e0.2.2.2 / 4 = q
              · rw [show (e0.2.2.2 / 4 == q) = true by simp [hpq]] at step
                refine k_icmp_ne (tgt := 58) (pc := 51) dX5_alive_51 (by decide) (fun c => absurd (by rw [hpq, e3]) c) (fun _ => ?_)
                refine k_iconst (v := 1) (pc := 54) dX5_alive_54 (by decide) ?_
                refine k_goto (tgt := 59) (pc := 55) dX5_alive_55 (by decide) ?_
                refine k_iadd (pc := 59) dX5_alive_59 ?_
                refine k_istore_n (pc := 60) dX5_alive_60 (by decide) rfl ?_
                refine k_iinc (pc := 61) dX5_alive_61 rfl (nI_inc _) (by decide) rfl ?_
                refine k_goto (tgt := 26) (pc := 64) dX5_alive_64 (by decide) ?_
                exact step
              · rw [show (e0.2.2.2 / 4 == q) = false by simp [hpq]] at step
                refine k_icmp_ne (tgt := 58) (pc := 51) dX5_alive_51 (by decide) (fun _ => ?_) (fun c => absurd ((nI_eq (by omega) (by omega)).mp (c.trans e3)) hpq)
                refine k_iconst (v := 0) (pc := 58) dX5_alive_58 (by decide) ?_
                refine k_iadd (pc := 59) dX5_alive_59 ?_
                refine k_istore_n (pc := 60) dX5_alive_60 (by decide) rfl ?_
                refine k_iinc (pc := 61) dX5_alive_61 rfl (nI_inc _) (by decide) rfl ?_
                refine k_goto (tgt := 26) (pc := 64) dX5_alive_64 (by decide) ?_
                exact step
        have l0 := loop (sL S).length 0 (by omega)
        rw [ha] at l0
        refine k_iconst (v := 0) (pc := 22) dX5_alive_22 (by decide) ?_
        refine k_istore_n (pc := 23) dX5_alive_23 (by decide) rfl ?_
        refine k_iconst (v := 0) (pc := 24) dX5_alive_24 (by decide) ?_
        refine k_istore_n (pc := 25) dX5_alive_25 (by decide) rfl ?_
        exact l0
      · refine k_iconst (v := -1) (pc := 20) dX5_alive_20 (by decide) ?_
        exact k_iret (pc := 21) dX5_alive_21 (by unfold aliveS; rw [if_neg hx2, if_pos (Or.inr (Int32.not_le.mp h2))]) (MPS.of h) (Nat.le_refl _) (Nat.le_refl _)
end REFO
