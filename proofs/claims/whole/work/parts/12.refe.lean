def keepE (e : En) : Bool := !(isOut e && !e.2.1)
/-- forgetDead in its midst: the first i are gone through -/
def FdI (L : List En) (ai ai' : Nat → Nat → Int32) (al al' : Nat → Nat → Int64) (i : Nat) : Prop := (∀ (j : Nat) (e : En), ((L.take i).filter keepE)[j]? = some e → ent ai' al' j = enc e) ∧ (∀ (j : Nat) (e : En), i ≤ j → L[j]? = some e → ent ai' al' j = enc e) ∧ (∀ q, 7 ≤ q → ai' q = ai q) ∧ (∀ q, 1 ≤ q → al' q = al q)
theorem fd_len (L : List En) (i : Nat) : ((L.take i).filter keepE).length ≤ i := Nat.le_trans (List.length_filter_le _ _) (by rw [List.length_take]; omega)
theorem fd_next {L : List En} {i : Nat} {e : En} (he : L[i]? = some e) : (L.take (i + 1)).filter keepE = (L.take i).filter keepE ++ (if keepE e then [e] else []) := by
  rw [List.take_add_one, he, List.filter_append]
  simp only [Option.toList, List.filter_cons, List.filter_nil]
theorem fd_skip {L : List En} {ai ai' : Nat → Nat → Int32} {al al' : Nat → Nat → Int64} {i : Nat} {e : En} (h : FdI L ai ai' al al' i) (he : L[i]? = some e) (hk : keepE e = false) : FdI L ai ai' al al' (i + 1) := by
  refine ⟨?_, fun j e h1 h2 => h.2.1 j e (by omega) h2, h.2.2⟩
  rw [fd_next he, hk]
  simpa using h.1
theorem fd_copy {L : List En} {ai ai' : Nat → Nat → Int32} {al al' : Nat → Nat → Int64} {i : Nat} {e : En} (h : FdI L ai ai' al al' i) (he : L[i]? = some e) (hk : keepE e = true) {x0 : Int64} {x1 x2 x3 x4 x5 x6 : Int32} (h0 : x0 = al' 0 i) (h1 : x1 = ai' 1 i) (h2 : x2 = ai' 2 i) (h3 : x3 = ai' 3 i) (h4 : x4 = ai' 4 i) (h5 : x5 = ai' 5 i) (h6 : x6 = ai' 6 i) :
    FdI L ai (up2 (up2 (up2 (up2 (up2 (up2 ai' 1 ((L.take i).filter keepE).length x1) 2 ((L.take i).filter keepE).length x2) 3 ((L.take i).filter keepE).length x3) 4 ((L.take i).filter keepE).length x4) 5 ((L.take i).filter keepE).length x5) 6 ((L.take i).filter keepE).length x6) al (up2 al' 0 ((L.take i).filter keepE).length x0) (i + 1) := by
  have hn := fd_len L i
  have hnx := fd_next he
  rw [hk] at hnx
  have hei := h.2.1 i e (Nat.le_refl _) he
  generalize hF : (L.take i).filter keepE = F at *
  refine ⟨?_, ?_, ?_, ?_⟩
  · intro j e' hj
    rw [hnx] at hj
    by_cases hj2 : j < F.length
    · rw [List.getElem?_append_left hj2] at hj
      have hne : ¬ j = F.length := by omega
      have := h.1 j e' (by rw [hF]; exact hj)
      simpa [ent, up2_at, hne] using this
    · rw [List.getElem?_append_right (by omega)] at hj
      have hj3 : j = F.length := by
        have := (List.getElem?_eq_some_iff.mp hj).1
        simp at this
        omega
      subst hj3
      simp at hj
      subst hj
      rw [← hei]
      simp [ent, up2_at, h0, h1, h2, h3, h4, h5, h6]
  · intro j e' hj1 hj2
    have hne : ¬ j = F.length := by omega
    have := h.2.1 j e' (by omega) hj2
    simpa [ent, up2_at, hne] using this
  · intro q hq
    rw [← h.2.2.1 q hq]
    funext b
    simp [up2_at, show ¬ q = 1 by omega, show ¬ q = 2 by omega, show ¬ q = 3 by omega, show ¬ q = 4 by omega, show ¬ q = 5 by omega, show ¬ q = 6 by omega]
  · intro q hq
    rw [← h.2.2.2 q hq]
    funext b
    simp [up2_at, show ¬ q = 0 by omega]
theorem rep_fd {S : SS} {nw : List Ne} {fi : Nat → Int32} {ai ai' : Nat → Nat → Int32} {al al' : Nat → Nat → Int64} (h : Rep S nw fi ai al) (hf : FdI (sL S) ai ai' al al' (sL S).length) : Rep (forget S) nw (va_up fi 7 (nI ((sL S).filter keepE).length)) ai' al' := by
  obtain ⟨⟨l1, l2, l3⟩, ⟨n1, n2, n3⟩, hP, r1, r2, r3, r4, r5⟩ := h
  obtain ⟨f1, f2, f3, f4⟩ := hf
  rw [List.take_length] at f1
  refine ⟨⟨?_, ?_, ?_⟩, ⟨?_, n2, ?_⟩, ?_, ?_, ?_, ?_, ?_, ?_⟩
  · rw [va_up_self]; rfl
  · rw [forget_L]; exact Nat.le_trans (List.length_filter_le _ _) l2
  · exact f1
  · exact n1
  · intro k e he
    have := n3 k e he
    simpa [nent, f3 18 (by decide), f3 19 (by decide), f3 20 (by decide), f3 21 (by decide), f3 22 (by decide), f4 17 (by decide)] using this
  · intro s hs
    obtain ⟨p1, p2, p3⟩ := hP s hs
    refine ⟨by rw [f3 16 (by decide)]; exact p1, p2, fun k e he => ?_⟩
    have := p3 k e he
    simpa [pent, f3 12 (by decide), f3 13 (by decide), f3 14 (by decide), f3 15 (by decide), f4 11 (by decide)] using this
  · exact r1
  · exact r2
  · intro j hj; rw [f3 8 (by decide)]; exact r3 j hj
  · intro j hj; rw [f3 24 (by decide)]; exact r4 j hj
  · exact r5
section REFE
variable {p : Program} {l : Launch} {e : Env} {s : State} {m : MethodId} {args : Array Value} {below : List Frame} {meth : Method} {c : Code} {R : Room} {G : Gd} {A : Nat → Prop} {Q : State → Prop} {k n : Nat} {mo : Nat} {ad sl : Nat → Nat} {S : SS} {nw : List Ne}
set_option maxRecDepth 4000 in
theorem c_forget (hst : MSt mo ad sl) (hb : Lb S) : Ct 0 0 0 yX5_forgetDead cX5_forgetDead 3 (none) G A [.ref mo] (MPN G A mo ad sl S nw) (none) (MPN G A mo ad sl (forget S) nw) := by
  refine Ct.of 2 rfl rfl (Nat.le_of_ble_eq_true rfl) ?_
  intro p l e s m below meth c hini
  refine k_open fun fi ai al h => ?_
  have hlen := h.1.2.1
  have loop : ∀ j i : Nat, i + j = (sL S).length → ∀ ai' al', FdI (sL S) ai ai' al al' i → K p l e s m ([.ref mo] : List Value).toArray below meth c (rmm 0 0 0) yX5_forgetDead.cls cX5_forgetDead 3 (none) G A (MQ below (Qd (none) (MPN G A mo ad sl (forget S) nw) A) ([.ref mo] : List Value).toArray s 0 0 A) 0 0 (MH G A mo ad sl fi ai' al') 4 [some (.ref mo), some (.int (nI (((sL S).take i).filter keepE).length)), some (.int (nI i))] [] := by
    intro j
    induction j with
    | zero =>
      intro i hi ai' al' hf
      have hi6 : i = (sL S).length := by omega
      subst hi6
      refine k_iload_n (pc := 4) dX5_forgetDead_4 rfl ?_
      refine k_aload_n (pc := 5) dX5_forgetDead_5 rfl ?_
      refine mg_96 hst (pc := 6) dX5_forgetDead_6 ?_
      rw [h.1.1]
      refine k_icmp_ge (tgt := 128) (pc := 9) dX5_forgetDead_9 (by decide) (fun _ => ?_) (fun c => absurd (nI_le (Nat.le_refl _) (by omega)) c)
      rw [List.take_length]
      refine k_aload_n (pc := 128) dX5_forgetDead_128 rfl ?_
      refine k_iload_n (pc := 129) dX5_forgetDead_129 rfl ?_
      refine mp_96 hst (pc := 130) dX5_forgetDead_130 rfl rfl ?_
      exact k_vret (pc := 133) dX5_forgetDead_133 (MPN.of (rep_fd h hf)) (Nat.le_refl _) (Nat.le_refl _)
    | succ j ih =>
      intro i hi ai' al' hf
      obtain ⟨e0, he0⟩ : ∃ e0, (sL S)[i]? = some e0 := ⟨(sL S)[i], List.getElem?_eq_getElem (by omega)⟩
      obtain ⟨-, -, -, -, c4, -, c6⟩ := ent_k (hf.2.1 i e0 (Nat.le_refl _) he0)
      have hn := fd_len (sL S) i
      have hnx := fd_next he0
      have hcopy : keepE e0 = true → K p l e s m ([.ref mo] : List Value).toArray below meth c (rmm 0 0 0) yX5_forgetDead.cls cX5_forgetDead 3 (none) G A (MQ below (Qd (none) (MPN G A mo ad sl (forget S) nw) A) ([.ref mo] : List Value).toArray s 0 0 A) 0 0 (MH G A mo ad sl fi ai' al') 35 [some (.ref mo), some (.int (nI (((sL S).take i).filter keepE).length)), some (.int (nI i))] [] := by
        intro hk
        refine k_aload_n (pc := 35) dX5_forgetDead_35 rfl ?_
        refine mg_7 hst (pc := 36) dX5_forgetDead_36 ?_
        refine k_iload_n (pc := 39) dX5_forgetDead_39 rfl ?_
        refine k_aload_n (pc := 40) dX5_forgetDead_40 rfl ?_
        refine mg_7 hst (pc := 41) dX5_forgetDead_41 ?_
        refine k_iload_n (pc := 44) dX5_forgetDead_44 rfl ?_
        refine m_lald hst rfl (pc := 45) dX5_forgetDead_45 rfl (by simp only [mln]; omega) (by decide) ?_
        refine m_last hst rfl (pc := 46) dX5_forgetDead_46 rfl (by simp only [mln]; omega) (by decide) ?_
        refine k_aload_n (pc := 47) dX5_forgetDead_47 rfl ?_
        refine mg_13 hst (pc := 48) dX5_forgetDead_48 ?_
        refine k_iload_n (pc := 51) dX5_forgetDead_51 rfl ?_
        refine k_aload_n (pc := 52) dX5_forgetDead_52 rfl ?_
        refine mg_13 hst (pc := 53) dX5_forgetDead_53 ?_
        refine k_iload_n (pc := 56) dX5_forgetDead_56 rfl ?_
        refine m_iald hst rfl (pc := 57) dX5_forgetDead_57 rfl (by simp only [mln]; omega) (by decide) ?_
        refine m_iast hst rfl (pc := 58) dX5_forgetDead_58 rfl (by simp only [mln]; omega) (by decide) ?_
        refine k_aload_n (pc := 59) dX5_forgetDead_59 rfl ?_
        refine mg_17 hst (pc := 60) dX5_forgetDead_60 ?_
        refine k_iload_n (pc := 63) dX5_forgetDead_63 rfl ?_
        refine k_aload_n (pc := 64) dX5_forgetDead_64 rfl ?_
        refine mg_17 hst (pc := 65) dX5_forgetDead_65 ?_
        refine k_iload_n (pc := 68) dX5_forgetDead_68 rfl ?_
        refine m_iald hst rfl (pc := 69) dX5_forgetDead_69 rfl (by simp only [mln]; omega) (by decide) ?_
        refine m_iast hst rfl (pc := 70) dX5_forgetDead_70 rfl (by simp only [mln]; omega) (by decide) ?_
        refine k_aload_n (pc := 71) dX5_forgetDead_71 rfl ?_
        refine mg_20 hst (pc := 72) dX5_forgetDead_72 ?_
        refine k_iload_n (pc := 75) dX5_forgetDead_75 rfl ?_
        refine k_aload_n (pc := 76) dX5_forgetDead_76 rfl ?_
        refine mg_20 hst (pc := 77) dX5_forgetDead_77 ?_
        refine k_iload_n (pc := 80) dX5_forgetDead_80 rfl ?_
        refine m_iald hst rfl (pc := 81) dX5_forgetDead_81 rfl (by simp only [mln]; omega) (by decide) ?_
        refine m_iast hst rfl (pc := 82) dX5_forgetDead_82 rfl (by simp only [mln]; omega) (by decide) ?_
        refine k_aload_n (pc := 83) dX5_forgetDead_83 rfl ?_
        refine mg_23 hst (pc := 84) dX5_forgetDead_84 ?_
        refine k_iload_n (pc := 87) dX5_forgetDead_87 rfl ?_
        refine k_aload_n (pc := 88) dX5_forgetDead_88 rfl ?_
        refine mg_23 hst (pc := 89) dX5_forgetDead_89 ?_
        refine k_iload_n (pc := 92) dX5_forgetDead_92 rfl ?_
        refine m_zald hst rfl (pc := 93) dX5_forgetDead_93 rfl (by simp only [mln]; omega) (by decide) ?_
        refine m_zast hst rfl (pc := 94) dX5_forgetDead_94 rfl (by simp only [mln]; omega) (by decide) (by simp only [up2_at, c4]; simpa using bI_nar _) ?_
        refine k_aload_n (pc := 95) dX5_forgetDead_95 rfl ?_
        refine mg_27 hst (pc := 96) dX5_forgetDead_96 ?_
        refine k_iload_n (pc := 99) dX5_forgetDead_99 rfl ?_
        refine k_aload_n (pc := 100) dX5_forgetDead_100 rfl ?_
        refine mg_27 hst (pc := 101) dX5_forgetDead_101 ?_
        refine k_iload_n (pc := 104) dX5_forgetDead_104 rfl ?_
        refine m_zald hst rfl (pc := 105) dX5_forgetDead_105 rfl (by simp only [mln]; omega) (by decide) ?_
        refine m_zast hst rfl (pc := 106) dX5_forgetDead_106 rfl (by simp only [mln]; omega) (by decide) (by simp only [up2_at, (ent_k (hf.2.1 i e0 (Nat.le_refl _) he0)).2.2.2.2.2.1]; simpa using bI_nar _) ?_
        refine k_aload_n (pc := 107) dX5_forgetDead_107 rfl ?_
        refine mg_30 hst (pc := 108) dX5_forgetDead_108 ?_
        refine k_iload_n (pc := 111) dX5_forgetDead_111 rfl ?_
        refine k_aload_n (pc := 112) dX5_forgetDead_112 rfl ?_
        refine mg_30 hst (pc := 113) dX5_forgetDead_113 ?_
        refine k_iload_n (pc := 116) dX5_forgetDead_116 rfl ?_
        refine m_iald hst rfl (pc := 117) dX5_forgetDead_117 rfl (by simp only [mln]; omega) (by decide) ?_
        refine m_iast hst rfl (pc := 118) dX5_forgetDead_118 rfl (by simp only [mln]; omega) (by decide) ?_
        refine k_iinc (pc := 119) dX5_forgetDead_119 rfl (nI_inc _) (by decide) rfl ?_
        refine k_iinc (pc := 122) dX5_forgetDead_122 rfl (nI_inc _) (by decide) rfl ?_
        refine k_goto (tgt := 4) (pc := 125) dX5_forgetDead_125 (by decide) ?_
        rw [hk] at hnx
        have step := ih (i + 1) (by omega) _ _ (fd_copy hf he0 hk rfl rfl rfl rfl rfl rfl rfl)
        rw [hnx] at step
        simp only [if_true, List.length_append, List.length_singleton] at step
        simp only [up2_at, show ¬ (2 : Nat) = 1 by decide, show ¬ (3 : Nat) = 1 by decide, show ¬ (3 : Nat) = 2 by decide, show ¬ (4 : Nat) = 1 by decide, show ¬ (4 : Nat) = 2 by decide, show ¬ (4 : Nat) = 3 by decide, show ¬ (5 : Nat) = 1 by decide, show ¬ (5 : Nat) = 2 by decide, show ¬ (5 : Nat) = 3 by decide, show ¬ (5 : Nat) = 4 by decide, show ¬ (6 : Nat) = 1 by decide, show ¬ (6 : Nat) = 2 by decide, show ¬ (6 : Nat) = 3 by decide, show ¬ (6 : Nat) = 4 by decide, show ¬ (6 : Nat) = 5 by decide, false_and, if_false]
        exact step
      have hskip : keepE e0 = false → K p l e s m ([.ref mo] : List Value).toArray below meth c (rmm 0 0 0) yX5_forgetDead.cls cX5_forgetDead 3 (none) G A (MQ below (Qd (none) (MPN G A mo ad sl (forget S) nw) A) ([.ref mo] : List Value).toArray s 0 0 A) 0 0 (MH G A mo ad sl fi ai' al') 122 [some (.ref mo), some (.int (nI (((sL S).take i).filter keepE).length)), some (.int (nI i))] [] := by
        intro hk
        refine k_iinc (pc := 122) dX5_forgetDead_122 rfl (nI_inc _) (by decide) rfl ?_
        refine k_goto (tgt := 4) (pc := 125) dX5_forgetDead_125 (by decide) ?_
        rw [hk] at hnx
        have step := ih (i + 1) (by omega) _ _ (fd_skip hf he0 hk)
        rw [hnx] at step
        simpa using step
      refine k_iload_n (pc := 4) dX5_forgetDead_4 rfl ?_
      refine k_aload_n (pc := 5) dX5_forgetDead_5 rfl ?_
      refine mg_96 hst (pc := 6) dX5_forgetDead_6 ?_
      rw [h.1.1]
      refine k_icmp_ge (tgt := 128) (pc := 9) dX5_forgetDead_9 (by decide) (fun c => absurd c (nI_ge (by omega) (by omega))) (fun _ => ?_)
      have hp40 := (hb e0 (List.mem_of_getElem? he0)).1
      refine k_aload_n (pc := 12) dX5_forgetDead_12 rfl ?_
      refine mg_30 hst (pc := 13) dX5_forgetDead_13 ?_
      refine k_iload_n (pc := 16) dX5_forgetDead_16 rfl ?_
      refine m_iald hst rfl (pc := 17) dX5_forgetDead_17 rfl (by simp only [mln]; omega) (by decide) ?_
      refine k_bipush (v := 9) (pc := 18) dX5_forgetDead_18 (by decide) ?_
      rw [c6]
      refine k_icmp_ne (tgt := 35) (pc := 20) dX5_forgetDead_20 (by decide) (fun h1 => ?_) (fun h1 => ?_)
      · refine hcopy ?_
        have : ¬ e0.2.2.2 / 4 = 9 := fun q => h1 (by rw [q]; rfl)
        simp [keepE, isOut, this]
      · have hout : e0.2.2.2 / 4 = 9 := (nI_eq (by omega) (by decide)).mp (h1.trans (show (9 : Int32) = nI 9 from rfl))
        refine k_aload_n (pc := 23) dX5_forgetDead_23 rfl ?_
        refine mg_23 hst (pc := 24) dX5_forgetDead_24 ?_
        refine k_iload_n (pc := 27) dX5_forgetDead_27 rfl ?_
        refine m_zald hst rfl (pc := 28) dX5_forgetDead_28 rfl (by simp only [mln]; omega) (by decide) ?_
        rw [c4]
        refine k_if_ne (tgt := 35) (pc := 29) dX5_forgetDead_29 (by decide) (fun h2 => ?_) (fun h2 => ?_)
        · refine hcopy ?_
          simp [keepE, bI_t h2]
        · refine k_goto (tgt := 122) (pc := 32) dX5_forgetDead_32 (by decide) ?_
          refine hskip ?_
          simp [keepE, isOut, hout, bI_f h2]
  refine k_iconst (v := 0) (pc := 0) dX5_forgetDead_0 (by decide) ?_
  refine k_istore_n (pc := 1) dX5_forgetDead_1 (by decide) rfl ?_
  refine k_iconst (v := 0) (pc := 2) dX5_forgetDead_2 (by decide) ?_
  refine k_istore_n (pc := 3) dX5_forgetDead_3 (by decide) rfl ?_
  exact loop (sL S).length 0 (by omega) ai al ⟨fun j e he => by simp at he, fun j e _ he => h.1.2.2 j e he, fun _ _ => rfl, fun _ _ => rfl⟩
end REFE
