theorem rep_push {S : SS} {nw : List Ne} {fi : Nat → Int32} {ai : Nat → Nat → Int32} {al : Nat → Nat → Int64} (h : Rep S nw fi ai al) (hl : (sL S).length < 700) (key : Int64) (w : Nat) (f t : Int32) : Rep (pushS S (key, w, f, t)) nw (va_up (va_up fi 7 (fi 7 + 1)) 10 (fi 10 + (3 + nI w))) (up2 (up2 (up2 (up2 (up2 (up2 ai 1 (sL S).length (nI w)) 2 (sL S).length f) 3 (sL S).length t) 4 (sL S).length 1) 5 (sL S).length 0) 6 (sL S).length 8) (up2 al 0 (sL S).length key) := by
  obtain ⟨⟨l1, l2, l3⟩, ⟨n1, n2, n3⟩, hP, r1, r2, r3, r4, r5⟩ := h
  refine ⟨⟨?_, ?_, ?_⟩, ⟨?_, n2, ?_⟩, ?_, ?_, ?_, ?_, ?_, ?_⟩
  · simp [pushS_L, va_up, l1, nI_1]
  · simp [pushS_L]; omega
  · intro k e he
    rw [pushS_L] at he
    by_cases hk : k < (sL S).length
    · rw [List.getElem?_append_left hk] at he
      have hk2 : ¬ k = (sL S).length := by omega
      simpa [ent, up2_at, hk2] using l3 k e he
    · rw [List.getElem?_append_right (by omega)] at he
      have hk2 : k = (sL S).length := by
        have := (List.getElem?_eq_some_iff.mp he).1
        simp at this
        omega
      subst hk2
      simp at he
      subst he
      simp [ent, enc, up2_at, bI]
      rfl
  · simpa [va_up] using n1
  · intro k e he
    simpa [nent, up2_at, va_up] using n3 k e he
  · intro s hs
    simpa [pushS_P, pent, up2_at, va_up] using hP s hs
  · simpa [pushS_H, va_up] using r1
  · simp [pushS_O, va_up, r2, plc, show (3 : Int32) = nI 3 from rfl, nI_add]
  · intro j hj
    simpa [up2_at, pushS_N] using r3 j hj
  · intro j hj
    simpa [up2_at, pushS_C] using r4 j hj
  · simpa [pushS_X, pushS_G, va_up] using r5
section REFD
variable {p : Program} {l : Launch} {e : Env} {s : State} {m : MethodId} {args : Array Value} {below : List Frame} {meth : Method} {c : Code} {R : Room} {G : Gd} {A : Nat → Prop} {Q : State → Prop} {k n : Nat} {mo : Nat} {ad sl : Nat → Nat} {S : SS} {nw : List Ne}
set_option maxRecDepth 4000 in
theorem c_wop0 (hst : MSt mo ad sl) (hH : sH S < 8) (hN : sN S (sH S) ≤ 2) (hb : Lb S) : Ct 0 0 0 yX5_writeOpenPage cX5_writeOpenPage 2 (none) G A [.ref mo] (MPN G A mo ad sl S nw) (none) (MPN G A mo ad sl (wr0 S) nw) := by
  refine Ct.of 1 rfl rfl (Nat.le_of_ble_eq_true rfl) ?_
  intro p l e s m below meth c hini
  refine w_wop hst hH (by omega) hb ?_
  refine k_open fun fi ai al h => ?_
  have r8 := h.2.2.2.2.2.1 (sH S) hH
  have r1 : fi 9 = nI (sH S) := h.2.2.2.1
  rw [wr0_N, va_up_self] at r8
  refine k_aload_n (pc := 65) dX5_writeOpenPage_65 rfl ?_
  refine mg_33 hst (pc := 66) dX5_writeOpenPage_66 ?_
  refine k_aload_n (pc := 69) dX5_writeOpenPage_69 rfl ?_
  refine mg_106 hst (pc := 70) dX5_writeOpenPage_70 ?_
  refine m_iald hst rfl (pc := 73) dX5_writeOpenPage_73 r1 (by simpa [mln] using hH) (by decide) ?_
  refine k_iconst (v := 4) (pc := 74) dX5_writeOpenPage_74 (by decide) ?_
  rw [r8]
  refine k_icmp_ne (tgt := 121) (pc := 75) dX5_writeOpenPage_75 (by decide) (fun _ => ?_) (fun c => absurd ((nI_eq (by omega) (by decide)).mp (c.trans (show (4 : Int32) = nI 4 from rfl))) (by omega))
  exact k_vret (pc := 121) dX5_writeOpenPage_121 (MPN.of h) (Nat.le_refl _) (Nat.le_refl _)
theorem w_push (hst : MSt mo ad sl) (hl : (sL S).length < 700) {key : Int64} {w : Nat} {f t : Int32} (kk : K p l e s m args below meth c R RX5 cX5_append 6 (none) G A Q k n (MPN G A mo ad sl (pushS S (key, w, f, t)) nw) 115 [some (.ref mo), some (.long key), none, some (.int (nI w)), some (.int f), some (.int t)] []) : K p l e s m args below meth c R RX5 cX5_append 6 (none) G A Q k n (MPN G A mo ad sl S nw) 20 [some (.ref mo), some (.long key), none, some (.int (nI w)), some (.int f), some (.int t)] [] := by
  refine k_open fun fi ai al h => ?_
  have l1 := h.1.1
  refine k_aload_n (pc := 20) dX5_append_20 rfl ?_
  refine mg_7 hst (pc := 21) dX5_append_21 ?_
  refine k_aload_n (pc := 24) dX5_append_24 rfl ?_
  refine mg_96 hst (pc := 25) dX5_append_25 ?_
  refine k_lload_n (pc := 28) dX5_append_28 rfl ?_
  refine m_last hst rfl (pc := 29) dX5_append_29 l1 hl (by decide) ?_
  refine k_aload_n (pc := 30) dX5_append_30 rfl ?_
  refine mg_13 hst (pc := 31) dX5_append_31 ?_
  refine k_aload_n (pc := 34) dX5_append_34 rfl ?_
  refine mg_96 hst (pc := 35) dX5_append_35 ?_
  refine k_iload_n (pc := 38) dX5_append_38 rfl ?_
  refine m_iast hst rfl (pc := 39) dX5_append_39 l1 hl (by decide) ?_
  refine k_aload_n (pc := 40) dX5_append_40 rfl ?_
  refine mg_17 hst (pc := 41) dX5_append_41 ?_
  refine k_aload_n (pc := 44) dX5_append_44 rfl ?_
  refine mg_96 hst (pc := 45) dX5_append_45 ?_
  refine k_iload (pc := 48) dX5_append_48 rfl ?_
  refine m_iast hst rfl (pc := 50) dX5_append_50 l1 hl (by decide) ?_
  refine k_aload_n (pc := 51) dX5_append_51 rfl ?_
  refine mg_20 hst (pc := 52) dX5_append_52 ?_
  refine k_aload_n (pc := 55) dX5_append_55 rfl ?_
  refine mg_96 hst (pc := 56) dX5_append_56 ?_
  refine k_iload (pc := 59) dX5_append_59 rfl ?_
  refine m_iast hst rfl (pc := 61) dX5_append_61 l1 hl (by decide) ?_
  refine k_aload_n (pc := 62) dX5_append_62 rfl ?_
  refine mg_23 hst (pc := 63) dX5_append_63 ?_
  refine k_aload_n (pc := 66) dX5_append_66 rfl ?_
  refine mg_96 hst (pc := 67) dX5_append_67 ?_
  refine k_iconst (v := 1) (pc := 70) dX5_append_70 (by decide) ?_
  refine m_zast hst rfl (pc := 71) dX5_append_71 l1 hl (by decide) rfl ?_
  refine k_aload_n (pc := 72) dX5_append_72 rfl ?_
  refine mg_27 hst (pc := 73) dX5_append_73 ?_
  refine k_aload_n (pc := 76) dX5_append_76 rfl ?_
  refine mg_96 hst (pc := 77) dX5_append_77 ?_
  refine k_iconst (v := 0) (pc := 80) dX5_append_80 (by decide) ?_
  refine m_zast hst rfl (pc := 81) dX5_append_81 l1 hl (by decide) rfl ?_
  refine k_aload_n (pc := 82) dX5_append_82 rfl ?_
  refine mg_30 hst (pc := 83) dX5_append_83 ?_
  refine k_aload_n (pc := 86) dX5_append_86 rfl ?_
  refine mg_96 hst (pc := 87) dX5_append_87 ?_
  refine k_bipush (v := 8) (pc := 90) dX5_append_90 (by decide) ?_
  refine m_iast hst rfl (pc := 92) dX5_append_92 l1 hl (by decide) ?_
  refine k_aload_n (pc := 93) dX5_append_93 rfl ?_
  refine k_dup (pc := 94) dX5_append_94 rfl ?_
  refine mg_96 hst (pc := 95) dX5_append_95 ?_
  refine k_iconst (v := 1) (pc := 98) dX5_append_98 (by decide) ?_
  refine k_iadd (pc := 99) dX5_append_99 ?_
  refine mp_96 hst (pc := 100) dX5_append_100 rfl rfl ?_
  refine k_aload_n (pc := 103) dX5_append_103 rfl ?_
  refine k_dup (pc := 104) dX5_append_104 rfl ?_
  refine mg_100 hst (pc := 105) dX5_append_105 ?_
  refine k_iconst (v := 3) (pc := 108) dX5_append_108 (by decide) ?_
  refine k_iload_n (pc := 109) dX5_append_109 rfl ?_
  refine k_iadd (pc := 110) dX5_append_110 ?_
  refine k_iadd (pc := 111) dX5_append_111 ?_
  refine mp_100 hst (pc := 112) dX5_append_112 rfl rfl ?_
  exact k_close (rep_push h hl key w f t) kk
theorem nI_3w (o w : Nat) : nI o + 3 + nI w = nI (o + (3 + w)) := by
  rw [show (3 : Int32) = nI 3 from rfl, nI_add, nI_add, Nat.add_assoc]
set_option maxRecDepth 4000 in
theorem c_app0 (hst : MSt mo ad sl) (key : Int64) (w : Nat) (f t : Int32) (hw : w ≤ 12) (hO : sO S ≤ 32) (hH : sH S < 8) (hN : sO S + plc (key, w, f, t) > 32 → sN S (sH S) ≤ 2) (hb : Lb S) (hl : (sL S).length < 700) : Ct 1 0 0 yX5_append cX5_append 6 (none) G A [.ref mo, .long key, .int (nI w), .int f, .int t] (MPN G A mo ad sl S nw) (none) (MPN G A mo ad sl (anewS S (key, w, f, t)) nw) := by
  refine Ct.of 0 rfl rfl (Nat.le_of_ble_eq_true rfl) ?_
  intro p l e s m below meth c hini
  have fin : ∀ S' : SS, sO S' + plc (key, w, f, t) ≤ 32 → (sL S').length < 700 → pushS S' (key, w, f, t) = anewS S (key, w, f, t) → K p l e s m ([.ref mo, .long key, .int (nI w), .int f, .int t] : List Value).toArray below meth c (rmm 1 0 0) yX5_append.cls cX5_append 6 (none) G A (MQ below (Qd (none) (MPN G A mo ad sl (anewS S (key, w, f, t)) nw) A) ([.ref mo, .long key, .int (nI w), .int f, .int t] : List Value).toArray s 0 0 A) 0 0 (MPN G A mo ad sl S' nw) 0 [some (.ref mo), some (.long key), none, some (.int (nI w)), some (.int f), some (.int t)] [] := by
    intro S' hO' hl' he
    have hpl : sO S' + (3 + w) ≤ 32 := hO'
    refine k_open fun fi ai al h => ?_
    refine k_aload_n (pc := 0) dX5_append_0 rfl ?_
    refine mg_100 hst (pc := 1) dX5_append_1 ?_
    refine k_iconst (v := 3) (pc := 4) dX5_append_4 (by decide) ?_
    refine k_iadd (pc := 5) dX5_append_5 ?_
    refine k_iload_n (pc := 6) dX5_append_6 rfl ?_
    refine k_iadd (pc := 7) dX5_append_7 ?_
    refine k_bipush (v := 32) (pc := 8) dX5_append_8 (by decide) ?_
    rw [show fi 10 = nI (sO S') from h.2.2.2.2.1, nI_3w]
    refine k_icmp_le (tgt := 20) (pc := 10) dX5_append_10 (by decide) (fun _ => ?_) (fun c => absurd (nI_le hpl (by decide)) c)
    refine k_close h (w_push hst hl' ?_)
    rw [he]
    exact k_vret (pc := 115) dX5_append_115 (fun _ h => h) (Nat.le_refl _) (Nat.le_refl _)
  by_cases hf : sO S + plc (key, w, f, t) > 32
  · have hpl : 32 < sO S + (3 + w) := hf
    refine k_open fun fi ai al h => ?_
    refine k_aload_n (pc := 0) dX5_append_0 rfl ?_
    refine mg_100 hst (pc := 1) dX5_append_1 ?_
    refine k_iconst (v := 3) (pc := 4) dX5_append_4 (by decide) ?_
    refine k_iadd (pc := 5) dX5_append_5 ?_
    refine k_iload_n (pc := 6) dX5_append_6 rfl ?_
    refine k_iadd (pc := 7) dX5_append_7 ?_
    refine k_bipush (v := 32) (pc := 8) dX5_append_8 (by decide) ?_
    rw [show fi 10 = nI (sO S) from h.2.2.2.2.1, nI_3w]
    refine k_icmp_le (tgt := 20) (pc := 10) dX5_append_10 (by decide) (fun c => absurd c (nI_ge hpl (by omega))) (fun _ => ?_)
    refine k_close h ?_
    refine k_aload_n (pc := 13) dX5_append_13 rfl ?_
    refine k_callM sv_X5_103 hst (c_wop0 hst hH (hN hf) hb) (pc := 14) dX5_append_14 rfl rfl (Nat.le_of_ble_eq_true rfl) (by decide) (by decide) (Nat.le_refl _) (Nat.le_refl _) ?_
    refine k_goto (tgt := 0) (pc := 17) dX5_append_17 (by decide) ?_
    refine fin (wr0 S) ?_ ?_ ?_
    · rw [wr0_O]; show 0 + (3 + w) ≤ 32; omega
    · rw [wr0_L, List.length_map]; exact hl
    · unfold anewS; rw [if_pos hf]
  · refine fin S (by omega) hl ?_
    unfold anewS; rw [if_neg hf]
end REFD
