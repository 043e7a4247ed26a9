section REFN
variable {p : Program} {l : Launch} {e : Env} {s : State} {m : MethodId} {args : Array Value} {below : List Frame} {meth : Method} {c : Code} {R : Room} {G : Gd} {A : Nat → Prop} {Q : State → Prop} {k n : Nat} {mo : Nat} {ad sl : Nat → Nat} {S : SS} {nw : List Ne}
set_option maxRecDepth 4000 in
theorem c_get (hst : MSt mo ad sl) (key : Int64) : Ct 4 0 0 yX5_get cX5_get 5 (some .int) G A [.ref mo, .long key] (MPS G A mo ad sl S) (some (.int (getS S key).1)) (MPS G A mo ad sl (getS S key).2) := by
  refine Ct.of 2 rfl rfl (Nat.le_of_ble_eq_true rfl) ?_
  intro p l e s m below meth c hini
  refine k_openS fun nw => ?_
  refine k_open fun fi ai al h => ?_
  refine k_aload_n (pc := 0) dX5_get_0 rfl ?_
  refine mg_157 hst (pc := 1) dX5_get_1 ?_
  rw [rX h]
  cases hx : sX S with
  | true =>
    have hp : getS S key = (-2, S) := if_pos hx
    rw [hp]
    refine k_if_eq (tgt := 10) (pc := 4) dX5_get_4 (by decide) (fun c => absurd c ((show ¬ bI true = 0 by decide))) (fun _ => ?_)
    refine k_bipush (v := -2) (pc := 7) dX5_get_7 (by decide) ?_
    exact k_iret (pc := 9) dX5_get_9 rfl (MPS.of h) (Nat.le_refl _) (Nat.le_refl _)
  | false =>
    refine k_if_eq (tgt := 10) (pc := 4) dX5_get_4 (by decide) (fun _ => ?_) (fun c => absurd (show bI false = 0 by decide) c)
    refine k_close h ?_
    refine k_aload_n (pc := 10) dX5_get_10 rfl ?_
    refine k_lload_n (pc := 11) dX5_get_11 rfl ?_
    refine k_callM sv_X5_133 hst (n_inLog hst key) (pc := 12) dX5_get_12 rfl rfl (Nat.le_of_ble_eq_true rfl) (by decide) (by decide) (Nat.le_refl _) (Nat.le_refl _) ?_
    refine k_istore_n (pc := 15) dX5_get_15 (by decide) rfl ?_
    refine k_iload_n (pc := 16) dX5_get_16 rfl ?_
    cases hq : lastIx (sL S) key (sL S).length with
    | some q =>
      obtain ⟨e0, he0, -⟩ := lastIx_at hq
      have hp : getS S key = (nI e0.1.2.1, uG (uL S ((sL S).modify q mark1)) (nI e0.1.2.1, e0.1.2.2.1, e0.1.2.2.2)) := by
        unfold getS
        rw [if_neg (by rw [hx]; decide), hq]
        simp only [he0]
      rw [hp]
      have hql := lastIx_lt hq
      refine k_open fun fi2 ai2 al2 h2 => ?_
      have hlen := h2.1.2.1
      obtain ⟨c0, c1, c2, c3, c4, c5, c6⟩ := ent_k (h2.1.2.2 q e0 he0)
      have q1 : up2 ai2 5 q 1 1 q = nI e0.1.2.1 := by rw [up2_at, if_neg (by omega), c1]
      have q2 : up2 ai2 5 q 1 2 q = e0.1.2.2.1 := by rw [up2_at, if_neg (by omega), c2]
      have q3 : up2 ai2 5 q 1 3 q = e0.1.2.2.2 := by rw [up2_at, if_neg (by omega), c3]
      refine k_if_lt (tgt := 62) (pc := 17) dX5_get_17 (by decide) (fun c => absurd c ((oI_some_lt (k := q) (by omega)))) (fun _ => ?_)
      refine k_aload_n (pc := 20) dX5_get_20 rfl ?_
      refine mg_27 hst (pc := 21) dX5_get_21 ?_
      refine k_iload_n (pc := 24) dX5_get_24 rfl ?_
      refine k_iconst (v := 1) (pc := 25) dX5_get_25 (by decide) ?_
      refine m_zast hst rfl (pc := 26) dX5_get_26 (show oI (some q) = nI q from rfl) (by simp only [mln]; omega) (by decide) rfl ?_
      refine k_aload_n (pc := 27) dX5_get_27 rfl ?_
      refine k_aload_n (pc := 28) dX5_get_28 rfl ?_
      refine mg_13 hst (pc := 29) dX5_get_29 ?_
      refine k_iload_n (pc := 32) dX5_get_32 rfl ?_
      refine m_iald hst rfl (pc := 33) dX5_get_33 (show oI (some q) = nI q from rfl) (by simp only [mln]; omega) (by decide) ?_
      rw [q1]
      refine mp_161 hst (pc := 34) dX5_get_34 rfl rfl ?_
      refine k_aload_n (pc := 37) dX5_get_37 rfl ?_
      refine k_aload_n (pc := 38) dX5_get_38 rfl ?_
      refine mg_17 hst (pc := 39) dX5_get_39 ?_
      refine k_iload_n (pc := 42) dX5_get_42 rfl ?_
      refine m_iald hst rfl (pc := 43) dX5_get_43 (show oI (some q) = nI q from rfl) (by simp only [mln]; omega) (by decide) ?_
      rw [q2]
      refine mp_164 hst (pc := 44) dX5_get_44 rfl rfl ?_
      refine k_aload_n (pc := 47) dX5_get_47 rfl ?_
      refine k_aload_n (pc := 48) dX5_get_48 rfl ?_
      refine mg_20 hst (pc := 49) dX5_get_49 ?_
      refine k_iload_n (pc := 52) dX5_get_52 rfl ?_
      refine m_iald hst rfl (pc := 53) dX5_get_53 (show oI (some q) = nI q from rfl) (by simp only [mln]; omega) (by decide) ?_
      rw [q3]
      refine mp_167 hst (pc := 54) dX5_get_54 rfl rfl ?_
      refine k_aload_n (pc := 57) dX5_get_57 rfl ?_
      refine mg_161 hst (pc := 58) dX5_get_58 ?_
      exact k_iret (pc := 61) dX5_get_61 rfl (MPS.of (rep_got (rep_mark h2 q) _ _ _)) (Nat.le_refl _) (Nat.le_refl _)
    | none =>
      have hp : getS S key = pageGet S key := by
        unfold getS
        rw [if_neg (by rw [hx]; decide), hq]
      rw [hp]
      refine k_if_lt (tgt := 62) (pc := 17) dX5_get_17 (by decide) (fun _ => ?_) (fun c => absurd (oI_neg) c)
      refine k_aload_n (pc := 62) dX5_get_62 rfl ?_
      refine k_lload_n (pc := 63) dX5_get_63 rfl ?_
      refine k_callM sv_X5_150 hst (n_mayHave hst key) (pc := 64) dX5_get_64 rfl rfl (Nat.le_of_ble_eq_true rfl) (by decide) (by decide) (Nat.le_refl _) (Nat.le_refl _) ?_
      cases hm : mayS (sP S (setN key)) key with
      | false =>
        have hp2 : pageGet S key = (0, S) := by unfold pageGet; rw [if_neg (by rw [hm]; decide)]
        rw [hp2]
        refine k_if_ne (tgt := 72) (pc := 67) dX5_get_67 (by decide) (fun c => absurd ((show bI false = 0 by decide)) c) (fun _ => ?_)
        refine k_iconst (v := 0) (pc := 70) dX5_get_70 (by decide) ?_
        exact k_iret (pc := 71) dX5_get_71 rfl (fun _ h => ⟨_, h⟩) (Nat.le_refl _) (Nat.le_refl _)
      | true =>
        refine k_open fun fi2 ai2 al2 h2 => ?_
        refine k_if_ne (tgt := 72) (pc := 67) dX5_get_67 (by decide) (fun _ => ?_) (fun c => absurd c ((show ¬ bI true = 0 by decide)))
        refine k_aload_n (pc := 72) dX5_get_72 rfl ?_
        refine mg_72 hst (pc := 73) dX5_get_73 ?_
        refine k_bipush (v := 11) (pc := 76) dX5_get_76 (by decide) ?_
        refine k_dup2 (pc := 78) dX5_get_78 rfl rfl ?_
        refine m_iald hst rfl (pc := 79) dX5_get_79 (show (11 : Int32) = nI 11 from rfl) (by decide) (by decide) ?_
        refine k_iconst (v := 1) (pc := 80) dX5_get_80 (by decide) ?_
        refine k_iadd (pc := 81) dX5_get_81 ?_
        refine m_iast hst rfl (pc := 82) dX5_get_82 (show (11 : Int32) = nI 11 from rfl) (by decide) (by decide) ?_
        refine k_close (rep_inc h2 (j := 11) (by decide)) ?_
        refine k_aload_n (pc := 83) dX5_get_83 rfl ?_
        refine k_lload_n (pc := 84) dX5_get_84 rfl ?_
        refine k_callM sv_X5_154 hst (n_inPage hst key) (pc := 85) dX5_get_85 rfl rfl (Nat.le_of_ble_eq_true rfl) (by decide) (by decide) (Nat.le_refl _) (Nat.le_refl _) ?_
        refine k_istore (pc := 88) dX5_get_88 (by decide) rfl ?_
        refine k_iload (pc := 90) dX5_get_90 rfl ?_
        rw [uC_P]
        cases hi : ixS (sP S (setN key)) key with
        | none =>
          have hp2 : pageGet S key = (0, uC S (inc (sC S) 11)) := by unfold pageGet; rw [if_pos hm, hi]
          rw [hp2]
          refine k_if_ge (tgt := 97) (pc := 92) dX5_get_92 (by decide) (fun c => absurd c ((show ¬ (0 : Int32) ≤ -1 by decide))) (fun _ => ?_)
          refine k_iconst (v := 0) (pc := 95) dX5_get_95 (by decide) ?_
          exact k_iret (pc := 96) dX5_get_96 rfl (fun _ h => ⟨_, h⟩) (Nat.le_refl _) (Nat.le_refl _)
        | some i =>
          have hil := ixS_lt hi
          have hs := setN_lt key
          obtain ⟨e0, he0⟩ : ∃ e0, (sP S (setN key))[i]? = some e0 := ⟨_, List.getElem?_eq_getElem hil⟩
          have hp2 : pageGet S key = (nI e0.1.2.1, uG (uP (uC S (inc (sC S) 11)) (va_up (sP S) (setN key) ((sP S (setN key)).modify i markP))) (nI e0.1.2.1, e0.1.2.2.1, e0.1.2.2.2)) := by
            unfold pageGet
            rw [if_pos hm, hi]
            simp only [he0]
          rw [hp2]
          refine k_open fun fi3 ai3 al3 h3 => ?_
          obtain ⟨g1, g2, g3⟩ := h3.2.2.1 (setN key) hs
          rw [uC_P] at g2 g3
          obtain ⟨c0, c1, c2, c3, c4⟩ := pent_k (g3 i e0 he0)
          have q1 : up2 ai3 15 (8 * setN key + i) 1 12 (8 * setN key + i) = nI e0.1.2.1 := by rw [up2_at, if_neg (by omega), c1]
          have q2 : up2 ai3 15 (8 * setN key + i) 1 13 (8 * setN key + i) = e0.1.2.2.1 := by rw [up2_at, if_neg (by omega), c2]
          have q3 : up2 ai3 15 (8 * setN key + i) 1 14 (8 * setN key + i) = e0.1.2.2.2 := by rw [up2_at, if_neg (by omega), c3]
          refine k_if_ge (tgt := 97) (pc := 92) dX5_get_92 (by decide) (fun _ => ?_) (fun c => absurd ((show (0 : Int32) ≤ oI (some (8 * setN key + i)) from nI_pos' (by omega))) c)
          refine k_aload_n (pc := 97) dX5_get_97 rfl ?_
          refine mg_48 hst (pc := 98) dX5_get_98 ?_
          refine k_iload (pc := 101) dX5_get_101 rfl ?_
          refine k_iconst (v := 1) (pc := 103) dX5_get_103 (by decide) ?_
          refine m_zast hst rfl (pc := 104) dX5_get_104 (show oI (some (8 * setN key + i)) = nI (8 * setN key + i) from rfl) (by simp only [mln]; omega) (by decide) rfl ?_
          refine k_aload_n (pc := 105) dX5_get_105 rfl ?_
          refine k_aload_n (pc := 106) dX5_get_106 rfl ?_
          refine mg_39 hst (pc := 107) dX5_get_107 ?_
          refine k_iload (pc := 110) dX5_get_110 rfl ?_
          refine m_iald hst rfl (pc := 112) dX5_get_112 (show oI (some (8 * setN key + i)) = nI (8 * setN key + i) from rfl) (by simp only [mln]; omega) (by decide) ?_
          rw [q1]
          refine mp_161 hst (pc := 113) dX5_get_113 rfl rfl ?_
          refine k_aload_n (pc := 116) dX5_get_116 rfl ?_
          refine k_aload_n (pc := 117) dX5_get_117 rfl ?_
          refine mg_42 hst (pc := 118) dX5_get_118 ?_
          refine k_iload (pc := 121) dX5_get_121 rfl ?_
          refine m_iald hst rfl (pc := 123) dX5_get_123 (show oI (some (8 * setN key + i)) = nI (8 * setN key + i) from rfl) (by simp only [mln]; omega) (by decide) ?_
          rw [q2]
          refine mp_164 hst (pc := 124) dX5_get_124 rfl rfl ?_
          refine k_aload_n (pc := 127) dX5_get_127 rfl ?_
          refine k_aload_n (pc := 128) dX5_get_128 rfl ?_
          refine mg_45 hst (pc := 129) dX5_get_129 ?_
          refine k_iload (pc := 132) dX5_get_132 rfl ?_
          refine m_iald hst rfl (pc := 134) dX5_get_134 (show oI (some (8 * setN key + i)) = nI (8 * setN key + i) from rfl) (by simp only [mln]; omega) (by decide) ?_
          rw [q3]
          refine mp_167 hst (pc := 135) dX5_get_135 rfl rfl ?_
          refine k_aload_n (pc := 138) dX5_get_138 rfl ?_
          refine mg_161 hst (pc := 139) dX5_get_139 ?_
          exact k_iret (pc := 142) dX5_get_142 rfl (MPS.of (rep_got (rep_markP h3 (by rw [uC_P]; exact hil) hs) _ _ _)) (Nat.le_refl _) (Nat.le_refl _)
set_option maxRecDepth 4000 in
theorem c_got (hst : MSt mo ad sl) (i : Int32) : Ct 0 0 0 yX5_got cX5_got 2 (some .int) G A [.ref mo, .int i] (MPS G A mo ad sl S) (some (.int (gotS S i))) (MPS G A mo ad sl S) := by
  refine Ct.of 0 rfl rfl (Nat.le_of_ble_eq_true rfl) ?_
  intro p l e s m below meth c hini
  refine k_openS fun nw => ?_
  refine k_open fun fi ai al h => ?_
  obtain ⟨-, -, -, -, -, -, -, -, r6, r7, r8⟩ := id h
  refine k_iload_n (pc := 0) dX5_got_0 rfl ?_
  refine k_if_lt (tgt := 26) (pc := 1) dX5_got_1 (by decide) (fun h1 => ?_) (fun h1 => ?_)
  · refine k_iconst (v := 0) (pc := 26) dX5_got_26 (by decide) ?_
    exact k_iret (pc := 27) dX5_got_27 (by unfold gotS; rw [if_neg (fun z => z.1 h1)]) (MPS.of h) (Nat.le_refl _) (Nat.le_refl _)
  · refine k_iload_n (pc := 4) dX5_got_4 rfl ?_
    refine k_aload_n (pc := 5) dX5_got_5 rfl ?_
    refine mg_161 hst (pc := 6) dX5_got_6 ?_
    rw [r6]
    refine k_icmp_ge (tgt := 26) (pc := 9) dX5_got_9 (by decide) (fun h2 => ?_) (fun h2 => ?_)
    · refine k_iconst (v := 0) (pc := 26) dX5_got_26 (by decide) ?_
      exact k_iret (pc := 27) dX5_got_27 (by unfold gotS; rw [if_neg (fun z => z.2 h2)]) (MPS.of h) (Nat.le_refl _) (Nat.le_refl _)
    · refine k_aload_n (pc := 12) dX5_got_12 rfl ?_
      refine mg_164 hst (pc := 13) dX5_got_13 ?_
      refine k_iload_n (pc := 16) dX5_got_16 rfl ?_
      refine k_aload_n (pc := 17) dX5_got_17 rfl ?_
      refine mg_167 hst (pc := 18) dX5_got_18 ?_
      refine k_imul (pc := 21) dX5_got_21 ?_
      refine k_iadd (pc := 22) dX5_got_22 ?_
      refine k_goto (tgt := 27) (pc := 23) dX5_got_23 (by decide) ?_
      exact k_iret (pc := 27) dX5_got_27 (by unfold gotS; rw [if_pos ⟨h1, h2⟩, r7, r8]) (MPS.of h) (Nat.le_refl _) (Nat.le_refl _)
set_option maxRecDepth 4000 in
theorem c_remove (hst : MSt mo ad sl) (key : Int64) : Ct 5 0 0 yX5_remove cX5_remove 5 (some .int) G A [.ref mo, .long key] (MPS G A mo ad sl S) (some (.int (removeS S key).1)) (MPS G A mo ad sl (removeS S key).2) := by
  refine Ct.of 2 rfl rfl (Nat.le_of_ble_eq_true rfl) ?_
  intro p l e s m below meth c hini
  refine k_openS fun nw => ?_
  refine k_open fun fi ai al h => ?_
  refine k_aload_n (pc := 0) dX5_remove_0 rfl ?_
  refine mg_157 hst (pc := 1) dX5_remove_1 ?_
  rw [rX h]
  cases hx : sX S with
  | true =>
    have hp : removeS S key = (-2, S) := if_pos hx
    rw [hp]
    refine k_if_eq (tgt := 10) (pc := 4) dX5_remove_4 (by decide) (fun c => absurd c ((show ¬ bI true = 0 by decide))) (fun _ => ?_)
    refine k_bipush (v := -2) (pc := 7) dX5_remove_7 (by decide) ?_
    exact k_iret (pc := 9) dX5_remove_9 rfl (MPS.of h) (Nat.le_refl _) (Nat.le_refl _)
  | false =>
    have hp : removeS S key = (bI ((lastIx (sL S) key (sL S).length).isSome || (takeS (killKey S key) key 4).2), (takeS (killKey S key) key 4).1) := if_neg (by rw [hx]; decide)
    refine k_if_eq (tgt := 10) (pc := 4) dX5_remove_4 (by decide) (fun _ => ?_) (fun c => absurd (show bI false = 0 by decide) c)
    refine k_close h ?_
    have tail : ∀ (nw' : List Ne), K p l e s m ([.ref mo, .long key] : List Value).toArray below meth c (rmm 5 0 0) yX5_remove.cls cX5_remove 5 (some .int) G A (MQ below (Qd (some (.int (removeS S key).1)) (MPS G A mo ad sl (removeS S key).2) A) ([.ref mo, .long key] : List Value).toArray s 0 0 A) 0 0 (MPN G A mo ad sl (killKey S key) nw') 27 [some (.ref mo), some (.long key), none, some (.int (oI (lastIx (sL S) key (sL S).length))), none] [] := by
      intro nw'
      refine k_aload_n (pc := 27) dX5_remove_27 rfl ?_
      refine k_lload_n (pc := 28) dX5_remove_28 rfl ?_
      refine k_iconst (v := 4) (pc := 29) dX5_remove_29 (by decide) ?_
      refine k_callM sv_X5_126 hst (c_takeOut hst key 4 (by decide)) (pc := 30) dX5_remove_30 rfl rfl (Nat.le_of_ble_eq_true rfl) (by decide) (by decide) (Nat.le_refl _) (Nat.le_refl _) ?_
      refine k_istore (pc := 33) dX5_remove_33 (by decide) rfl ?_
      refine k_iload_n (pc := 35) dX5_remove_35 rfl ?_
      rw [hp]
      cases hq : lastIx (sL S) key (sL S).length with
      | some q =>
        have hql := lastIx_lt hq
        have hlen := h.1.2.1
        refine k_if_ge (tgt := 44) (pc := 36) dX5_remove_36 (by decide) (fun _ => ?_) (fun c => absurd ((show (0 : Int32) ≤ oI (some q) from nI_pos' (by omega))) c)
        refine k_iconst (v := 1) (pc := 44) dX5_remove_44 (by decide) ?_
        refine k_goto (tgt := 49) (pc := 45) dX5_remove_45 (by decide) ?_
        exact k_iret (pc := 49) dX5_remove_49 rfl (fun _ h => ⟨_, h⟩) (Nat.le_refl _) (Nat.le_refl _)
      | none =>
        refine k_if_ge (tgt := 44) (pc := 36) dX5_remove_36 (by decide) (fun c => absurd c ((show ¬ (0 : Int32) ≤ -1 by decide))) (fun _ => ?_)
        refine k_iload (pc := 39) dX5_remove_39 rfl ?_
        cases ht : (takeS (killKey S key) key 4).2 with
        | true =>
          refine k_if_eq (tgt := 48) (pc := 41) dX5_remove_41 (by decide) (fun c => absurd c ((show ¬ bI true = 0 by decide))) (fun _ => ?_)
          refine k_iconst (v := 1) (pc := 44) dX5_remove_44 (by decide) ?_
          refine k_goto (tgt := 49) (pc := 45) dX5_remove_45 (by decide) ?_
          exact k_iret (pc := 49) dX5_remove_49 rfl (fun _ h => ⟨_, h⟩) (Nat.le_refl _) (Nat.le_refl _)
        | false =>
          refine k_if_eq (tgt := 48) (pc := 41) dX5_remove_41 (by decide) (fun _ => ?_) (fun c => absurd ((show bI false = 0 by decide)) c)
          refine k_iconst (v := 0) (pc := 48) dX5_remove_48 (by decide) ?_
          exact k_iret (pc := 49) dX5_remove_49 rfl (fun _ h => ⟨_, h⟩) (Nat.le_refl _) (Nat.le_refl _)
    refine k_aload_n (pc := 10) dX5_remove_10 rfl ?_
    refine k_lload_n (pc := 11) dX5_remove_11 rfl ?_
    refine k_callM sv_X5_133 hst (n_inLog hst key) (pc := 12) dX5_remove_12 rfl rfl (Nat.le_of_ble_eq_true rfl) (by decide) (by decide) (Nat.le_refl _) (Nat.le_refl _) ?_
    refine k_istore_n (pc := 15) dX5_remove_15 (by decide) rfl ?_
    refine k_iload_n (pc := 16) dX5_remove_16 rfl ?_
    cases hq : lastIx (sL S) key (sL S).length with
    | none =>
      have hk : killKey S key = S := by unfold killKey; rw [hq]
      have t6 := tail nw
      rw [hq] at t6
      refine k_if_lt (tgt := 27) (pc := 17) dX5_remove_17 (by decide) (fun _ => ?_) (fun c => absurd (oI_neg) c)
      exact k_I (I2 := MPN G A mo ad sl (killKey S key) nw) (fun H hH => by rw [hk]; exact hH) t6
    | some q =>
      have hk : killKey S key = uL S (killAt (sL S) q) := by unfold killKey; rw [hq]
      have hql := lastIx_lt hq
      have t6 := tail nw
      rw [hq] at t6
      refine k_open fun fi2 ai2 al2 h2 => ?_
      have hlen := h2.1.2.1
      refine k_if_lt (tgt := 27) (pc := 17) dX5_remove_17 (by decide) (fun c => absurd c ((oI_some_lt (k := q) (by omega)))) (fun _ => ?_)
      refine k_aload_n (pc := 20) dX5_remove_20 rfl ?_
      refine mg_23 hst (pc := 21) dX5_remove_21 ?_
      refine k_iload_n (pc := 24) dX5_remove_24 rfl ?_
      refine k_iconst (v := 0) (pc := 25) dX5_remove_25 (by decide) ?_
      refine m_zast hst rfl (pc := 26) dX5_remove_26 (show oI (some q) = nI q from rfl) (by simp only [mln]; omega) (by decide) rfl ?_
      exact k_I (I2 := MPN G A mo ad sl (killKey S key) nw) (fun H hH => by rw [hk]; exact MPN.of (rep_kill h2 q) H hH) t6
set_option maxRecDepth 4000 in
theorem c_where (hst : MSt mo ad sl) (key : Int64) : Ct 3 0 0 yX5_where cX5_where 3 (some .int) G A [.ref mo, .long key] (MPS G A mo ad sl S) (some (.int (whereS S key))) (MPS G A mo ad sl S) := by
  refine Ct.of 0 rfl rfl (Nat.le_of_ble_eq_true rfl) ?_
  intro p l e s m below meth c hini
  refine k_openS fun nw => ?_
  refine k_open fun fi ai al h => ?_
  have hlen := h.1.2.1
  refine k_aload_n (pc := 0) dX5_where_0 rfl ?_
  refine mg_157 hst (pc := 1) dX5_where_1 ?_
  rw [rX h]
  cases hx : sX S with
  | true =>
    refine k_if_eq (tgt := 12) (pc := 4) dX5_where_4 (by decide) (fun c => absurd c ((show ¬ bI true = 0 by decide))) (fun _ => ?_)
    refine k_bipush (v := -2) (pc := 7) dX5_where_7 (by decide) ?_
    refine k_goto (tgt := 37) (pc := 9) dX5_where_9 (by decide) ?_
    exact k_iret (pc := 37) dX5_where_37 (by unfold whereS; rw [if_pos hx]) (MPS.of h) (Nat.le_refl _) (Nat.le_refl _)
  | false =>
    have hx2 : ¬ sX S = true := by rw [hx]; decide
    refine k_if_eq (tgt := 12) (pc := 4) dX5_where_4 (by decide) (fun _ => ?_) (fun c => absurd (show bI false = 0 by decide) c)
    have hP8 := (h.2.2.1 (setN key) (setN_lt key)).2.1
    refine k_close h ?_
    refine k_aload_n (pc := 12) dX5_where_12 rfl ?_
    refine k_lload_n (pc := 13) dX5_where_13 rfl ?_
    refine k_callM sv_X5_133 hst (n_inLog hst key) (pc := 14) dX5_where_14 rfl rfl (Nat.le_of_ble_eq_true rfl) (by decide) (by decide) (Nat.le_refl _) (Nat.le_refl _) ?_
    cases hq : lastIx (sL S) key (sL S).length with
    | some q =>
      have hql := lastIx_lt hq
      refine k_if_lt (tgt := 24) (pc := 17) dX5_where_17 (by decide) (fun c => absurd c ((oI_some_lt (k := q) (by omega)))) (fun _ => ?_)
      refine k_iconst (v := 1) (pc := 20) dX5_where_20 (by decide) ?_
      refine k_goto (tgt := 37) (pc := 21) dX5_where_21 (by decide) ?_
      exact k_iret (pc := 37) dX5_where_37 (by unfold whereS; rw [if_neg hx2, hq]; rfl) (fun _ h => ⟨_, h⟩) (Nat.le_refl _) (Nat.le_refl _)
    | none =>
      refine k_if_lt (tgt := 24) (pc := 17) dX5_where_17 (by decide) (fun _ => ?_) (fun c => absurd (oI_neg) c)
      refine k_aload_n (pc := 24) dX5_where_24 rfl ?_
      refine k_lload_n (pc := 25) dX5_where_25 rfl ?_
      refine k_callM sv_X5_154 hst (n_inPage hst key) (pc := 26) dX5_where_26 rfl rfl (Nat.le_of_ble_eq_true rfl) (by decide) (by decide) (Nat.le_refl _) (Nat.le_refl _) ?_
      cases hi : ixS (sP S (setN key)) key with
      | some i =>
        have hil := ixS_lt hi
        have hs := setN_lt key
        refine k_if_lt (tgt := 36) (pc := 29) dX5_where_29 (by decide) (fun c => absurd c ((show ¬ oI (some (8 * setN key + i)) < 0 from nI_pos (by omega)))) (fun _ => ?_)
        refine k_iconst (v := 2) (pc := 32) dX5_where_32 (by decide) ?_
        refine k_goto (tgt := 37) (pc := 33) dX5_where_33 (by decide) ?_
        exact k_iret (pc := 37) dX5_where_37 (by unfold whereS; rw [if_neg hx2, hq, hi]; rfl) (fun _ h => ⟨_, h⟩) (Nat.le_refl _) (Nat.le_refl _)
      | none =>
        refine k_if_lt (tgt := 36) (pc := 29) dX5_where_29 (by decide) (fun _ => ?_) (fun c => absurd (oI_neg) c)
        refine k_iconst (v := 0) (pc := 36) dX5_where_36 (by decide) ?_
        exact k_iret (pc := 37) dX5_where_37 (by unfold whereS; rw [if_neg hx2, hq, hi]; rfl) (fun _ h => ⟨_, h⟩) (Nat.le_refl _) (Nat.le_refl _)
set_option maxRecDepth 4000 in
theorem c_mark (hst : MSt mo ad sl) (key : Int64) : Ct 3 0 0 yX5_mark cX5_mark 5 (some .int) G A [.ref mo, .long key] (MPS G A mo ad sl S) (some (.int (markS S key))) (MPS G A mo ad sl S) := by
  refine Ct.of 2 rfl rfl (Nat.le_of_ble_eq_true rfl) ?_
  intro p l e s m below meth c hini
  refine k_openS fun nw => ?_
  refine k_open fun fi ai al h => ?_
  have hlen := h.1.2.1
  refine k_aload_n (pc := 0) dX5_mark_0 rfl ?_
  refine mg_157 hst (pc := 1) dX5_mark_1 ?_
  rw [rX h]
  cases hx : sX S with
  | true =>
    refine k_if_eq (tgt := 10) (pc := 4) dX5_mark_4 (by decide) (fun c => absurd c ((show ¬ bI true = 0 by decide))) (fun _ => ?_)
    refine k_bipush (v := -2) (pc := 7) dX5_mark_7 (by decide) ?_
    exact k_iret (pc := 9) dX5_mark_9 (by unfold markS; rw [if_pos hx]) (MPS.of h) (Nat.le_refl _) (Nat.le_refl _)
  | false =>
    have hx2 : ¬ sX S = true := by rw [hx]; decide
    refine k_if_eq (tgt := 10) (pc := 4) dX5_mark_4 (by decide) (fun _ => ?_) (fun c => absurd (show bI false = 0 by decide) c)
    refine k_close h ?_
    refine k_aload_n (pc := 10) dX5_mark_10 rfl ?_
    refine k_lload_n (pc := 11) dX5_mark_11 rfl ?_
    refine k_callM sv_X5_133 hst (n_inLog hst key) (pc := 12) dX5_mark_12 rfl rfl (Nat.le_of_ble_eq_true rfl) (by decide) (by decide) (Nat.le_refl _) (Nat.le_refl _) ?_
    refine k_istore_n (pc := 15) dX5_mark_15 (by decide) rfl ?_
    refine k_iload_n (pc := 16) dX5_mark_16 rfl ?_
    cases hq : lastIx (sL S) key (sL S).length with
    | some q =>
      have hql := lastIx_lt hq
      obtain ⟨e0, he0, -⟩ := lastIx_at hq
      refine k_open fun fi2 ai2 al2 h2 => ?_
      obtain ⟨-, -, -, -, -, c5, -⟩ := ent_k (h2.1.2.2 q e0 he0)
      have hm : markS S key = bI e0.2.2.1 := by unfold markS; rw [if_neg hx2, hq]; simp [he0]
      rw [hm]
      refine k_if_lt (tgt := 35) (pc := 17) dX5_mark_17 (by decide) (fun c => absurd c ((oI_some_lt (k := q) (by omega)))) (fun _ => ?_)
      refine k_aload_n (pc := 20) dX5_mark_20 rfl ?_
      refine mg_27 hst (pc := 21) dX5_mark_21 ?_
      refine k_iload_n (pc := 24) dX5_mark_24 rfl ?_
      refine m_zald hst rfl (pc := 25) dX5_mark_25 (show oI (some q) = nI q from rfl) (by simp only [mln]; omega) (by decide) ?_
      rw [c5]
      cases hb : e0.2.2.1 with
      | true =>
        refine k_if_eq (tgt := 33) (pc := 26) dX5_mark_26 (by decide) (fun c => absurd c ((show ¬ bI true = 0 by decide))) (fun _ => ?_)
        refine k_iconst (v := 1) (pc := 29) dX5_mark_29 (by decide) ?_
        refine k_goto (tgt := 34) (pc := 30) dX5_mark_30 (by decide) ?_
        exact k_iret (pc := 34) dX5_mark_34 rfl (MPS.of h2) (Nat.le_refl _) (Nat.le_refl _)
      | false =>
        refine k_if_eq (tgt := 33) (pc := 26) dX5_mark_26 (by decide) (fun _ => ?_) (fun c => absurd ((show bI false = 0 by decide)) c)
        refine k_iconst (v := 0) (pc := 33) dX5_mark_33 (by decide) ?_
        exact k_iret (pc := 34) dX5_mark_34 rfl (MPS.of h2) (Nat.le_refl _) (Nat.le_refl _)
    | none =>
      refine k_if_lt (tgt := 35) (pc := 17) dX5_mark_17 (by decide) (fun _ => ?_) (fun c => absurd (oI_neg) c)
      refine k_aload_n (pc := 35) dX5_mark_35 rfl ?_
      refine k_lload_n (pc := 36) dX5_mark_36 rfl ?_
      refine k_callM sv_X5_154 hst (n_inPage hst key) (pc := 37) dX5_mark_37 rfl rfl (Nat.le_of_ble_eq_true rfl) (by decide) (by decide) (Nat.le_refl _) (Nat.le_refl _) ?_
      refine k_istore (pc := 40) dX5_mark_40 (by decide) rfl ?_
      refine k_iload (pc := 42) dX5_mark_42 rfl ?_
      cases hi : ixS (sP S (setN key)) key with
      | some i =>
        have hil := ixS_lt hi
        have hs := setN_lt key
        obtain ⟨e0, he0⟩ : ∃ e0, (sP S (setN key))[i]? = some e0 := ⟨_, List.getElem?_eq_getElem hil⟩
        have hm : markS S key = bI e0.2 := by unfold markS; rw [if_neg hx2, hq]; simp [hi, he0]
        rw [hm]
        refine k_open fun fi2 ai2 al2 h2 => ?_
        obtain ⟨g1, g2, g3⟩ := h2.2.2.1 (setN key) hs
        obtain ⟨-, -, -, -, c4⟩ := pent_k (g3 i e0 he0)
        refine k_if_lt (tgt := 61) (pc := 44) dX5_mark_44 (by decide) (fun c => absurd c ((show ¬ oI (some (8 * setN key + i)) < 0 from nI_pos (by omega)))) (fun _ => ?_)
        refine k_aload_n (pc := 47) dX5_mark_47 rfl ?_
        refine mg_48 hst (pc := 48) dX5_mark_48 ?_
        refine k_iload (pc := 51) dX5_mark_51 rfl ?_
        refine m_zald hst rfl (pc := 53) dX5_mark_53 (show oI (some (8 * setN key + i)) = nI (8 * setN key + i) from rfl) (by simp only [mln]; omega) (by decide) ?_
        rw [c4]
        cases hb : e0.2 with
        | true =>
          refine k_if_eq (tgt := 61) (pc := 54) dX5_mark_54 (by decide) (fun c => absurd c ((show ¬ bI true = 0 by decide))) (fun _ => ?_)
          refine k_iconst (v := 1) (pc := 57) dX5_mark_57 (by decide) ?_
          refine k_goto (tgt := 62) (pc := 58) dX5_mark_58 (by decide) ?_
          exact k_iret (pc := 62) dX5_mark_62 rfl (MPS.of h2) (Nat.le_refl _) (Nat.le_refl _)
        | false =>
          refine k_if_eq (tgt := 61) (pc := 54) dX5_mark_54 (by decide) (fun _ => ?_) (fun c => absurd ((show bI false = 0 by decide)) c)
          refine k_iconst (v := 0) (pc := 61) dX5_mark_61 (by decide) ?_
          exact k_iret (pc := 62) dX5_mark_62 rfl (MPS.of h2) (Nat.le_refl _) (Nat.le_refl _)
      | none =>
        have hm : markS S key = 0 := by unfold markS; rw [if_neg hx2, hq]; simp [hi]
        rw [hm]
        refine k_if_lt (tgt := 61) (pc := 44) dX5_mark_44 (by decide) (fun _ => ?_) (fun c => absurd (oI_neg) c)
        refine k_iconst (v := 0) (pc := 61) dX5_mark_61 (by decide) ?_
        exact k_iret (pc := 62) dX5_mark_62 rfl (fun _ h => ⟨_, h⟩) (Nat.le_refl _) (Nat.le_refl _)
end REFN
