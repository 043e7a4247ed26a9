section REFQ
variable {p : Program} {l : Launch} {e : Env} {s : State} {m : MethodId} {args : Array Value} {below : List Frame} {meth : Method} {c : Code} {R : Room} {G : Gd} {A : Nat → Prop} {Q : State → Prop} {k n : Nat} {mo : Nat} {ad sl : Nat → Nat} {S : SS} {nw : List Ne} {I0 : Heap → Prop}
theorem or00 : (0 : Int32) ||| 0 = 0 := by decide
theorem plP_take {P : List Pe} {i : Nat} {e : Pe} (he : P[i]? = some e) : ((P.take (i + 1)).map (fun e => plc e.1)).sum = ((P.take i).map (fun e => plc e.1)).sum + plc e.1 := by
  rw [List.take_add_one, he]
  simp
set_option maxRecDepth 4000 in
theorem c_check (hst : MSt mo ad sl) (hck : sX S = false → CkS S) : Ct 3 0 0 yX5_check cX5_check 7 (some .int) G A [.ref mo] (MPS G A mo ad sl S) (some (.int (if sX S = true then -2 else 0))) (MPS G A mo ad sl S) := by
  refine Ct.of 6 rfl rfl (Nat.le_of_ble_eq_true rfl) ?_
  intro p l e s m below meth c hini
  refine k_openS fun nw => ?_
  refine k_open fun fi ai al h => ?_
  have hlen := h.1.2.1
  refine k_aload_n (pc := 0) dX5_check_0 rfl ?_
  refine mg_157 hst (pc := 1) dX5_check_1 ?_
  rw [rX h]
  cases hx : sX S with
  | true =>
    refine k_if_eq (tgt := 10) (pc := 4) dX5_check_4 (by decide) (fun c => absurd c ((show ¬ bI true = 0 by decide))) (fun _ => ?_)
    refine k_bipush (v := -2) (pc := 7) dX5_check_7 (by decide) ?_
    exact k_iret (pc := 9) dX5_check_9 rfl (MPS.of h) (Nat.le_refl _) (Nat.le_refl _)
  | false =>
    obtain ⟨k1, k2, k3⟩ := hck hx
    have fin : K p l e s m ([.ref mo] : List Value).toArray below meth c (rmm 3 0 0) yX5_check.cls cX5_check 7 (some .int) G A (MQ below (Qd (some (.int (if sX S = true then -2 else 0))) (MPS G A mo ad sl S) A) ([.ref mo] : List Value).toArray s 0 0 A) 0 0 (MPN G A mo ad sl S nw) 179 [some (.ref mo), some (.int 0), some (.int 0), some (.int 0), none, none, none] [] := by
      rw [hx]
      refine k_iload_n (pc := 179) dX5_check_179 rfl ?_
      refine k_iload_n (pc := 180) dX5_check_180 rfl ?_
      refine k_iadd (pc := 181) dX5_check_181 ?_
      refine k_iload_n (pc := 182) dX5_check_182 rfl ?_
      refine k_iadd (pc := 183) dX5_check_183 ?_
      exact k_iret (pc := 184) dX5_check_184 rfl (fun _ h => ⟨_, h⟩) (Nat.le_refl _) (Nat.le_refl _)
    have outer : ∀ j s0 : Nat, s0 + j = 64 → K p l e s m ([.ref mo] : List Value).toArray below meth c (rmm 3 0 0) yX5_check.cls cX5_check 7 (some .int) G A (MQ below (Qd (some (.int (if sX S = true then -2 else 0))) (MPS G A mo ad sl S) A) ([.ref mo] : List Value).toArray s 0 0 A) 0 0 (MPN G A mo ad sl S nw) 71 [some (.ref mo), some (.int 0), some (.int 0), some (.int 0), some (.int (nI s0)), none, none] [] := by
      intro j
      induction j with
      | zero =>
        intro s0 hs
        have hs6 : s0 = 64 := by omega
        subst hs6
        refine k_iload (pc := 71) dX5_check_71 rfl ?_
        refine k_bipush (v := 64) (pc := 73) dX5_check_73 (by decide) ?_
        refine k_icmp_ge (tgt := 179) (pc := 75) dX5_check_75 (by decide) (fun _ => ?_) (fun c => absurd (by decide) c)
        exact k_lv (fun i v h => by match i, h with | 0, h => exact h | 1, h => exact h | 2, h => exact h | 3, h => exact h | 4, h => cases h | 5, h => cases h | 6, h => cases h | i + 7, h => cases h) fin
      | succ j ih =>
        intro s0 hs
        have step := ih (s0 + 1) (by omega)
        have inner : ∀ j2 i : Nat, i + j2 = (sP S s0).length → K p l e s m ([.ref mo] : List Value).toArray below meth c (rmm 3 0 0) yX5_check.cls cX5_check 7 (some .int) G A (MQ below (Qd (some (.int (if sX S = true then -2 else 0))) (MPS G A mo ad sl S) A) ([.ref mo] : List Value).toArray s 0 0 A) 0 0 (MPN G A mo ad sl S nw) 84 [some (.ref mo), some (.int 0), some (.int 0), some (.int 0), some (.int (nI s0)), some (.int (nI (((sP S s0).take i).map (fun e => plc e.1)).sum)), some (.int (nI i))] [] := by
          intro j2
          induction j2 with
          | zero =>
            intro i hi
            have hi6 : i = (sP S s0).length := by omega
            subst hi6
            refine k_open fun fi2 ai2 al2 h2 => ?_
            obtain ⟨g1, g2, g3⟩ := h2.2.2.1 s0 (by omega)
            refine k_iload (pc := 84) dX5_check_84 rfl ?_
            refine k_aload_n (pc := 86) dX5_check_86 rfl ?_
            refine mg_51 hst (pc := 87) dX5_check_87 ?_
            refine k_iload (pc := 90) dX5_check_90 rfl ?_
            refine m_iald hst rfl (pc := 92) dX5_check_92 rfl (by simp only [mln]; omega) (by decide) ?_
            rw [g1]
            refine k_icmp_ge (tgt := 158) (pc := 93) dX5_check_93 (by decide) (fun _ => ?_) (fun c => absurd (nI_le (Nat.le_refl _) (by omega)) c)
            rw [List.take_length]
            refine k_close h2 ?_
            refine k_iload_n (pc := 158) dX5_check_158 rfl ?_
            refine k_iload (pc := 159) dX5_check_159 rfl ?_
            refine k_bipush (v := 32) (pc := 161) dX5_check_161 (by decide) ?_
            refine k_icmp_le (tgt := 170) (pc := 163) dX5_check_163 (by decide) (fun _ => ?_) (fun c => absurd (nI_le (b := 32) (k2 s0 (by omega)) (by decide)) c)
            refine k_iconst (v := 0) (pc := 170) dX5_check_170 (by decide) ?_
            refine k_ior (pc := 171) dX5_check_171 ?_
            refine k_istore_n (pc := 172) dX5_check_172 (by decide) rfl ?_
            refine k_iinc (pc := 173) dX5_check_173 rfl (nI_inc _) (by decide) rfl ?_
            refine k_goto (tgt := 71) (pc := 176) dX5_check_176 (by decide) ?_
            rw [or00]
            exact k_lv (fun i v h => by match i, h with | 0, h => exact h | 1, h => exact h | 2, h => exact h | 3, h => exact h | 4, h => exact h | 5, h => cases h | 6, h => cases h | i + 7, h => cases h) step
          | succ j2 ih2 =>
            intro i hi
            obtain ⟨e0, he0⟩ : ∃ e0, (sP S s0)[i]? = some e0 := ⟨(sP S s0)[i], List.getElem?_eq_getElem (by omega)⟩
            obtain ⟨hset, hix⟩ := k3 s0 i e0 (by omega) he0
            have step2 := ih2 (i + 1) (by omega)
            rw [plP_take he0] at step2
            refine k_open fun fi2 ai2 al2 h2 => ?_
            obtain ⟨g1, g2, g3⟩ := h2.2.2.1 s0 (by omega)
            obtain ⟨c0, c1, -⟩ := pent_k (g3 i e0 he0)
            refine k_iload (pc := 84) dX5_check_84 rfl ?_
            refine k_aload_n (pc := 86) dX5_check_86 rfl ?_
            refine mg_51 hst (pc := 87) dX5_check_87 ?_
            refine k_iload (pc := 90) dX5_check_90 rfl ?_
            refine m_iald hst rfl (pc := 92) dX5_check_92 rfl (by simp only [mln]; omega) (by decide) ?_
            rw [g1]
            refine k_icmp_ge (tgt := 158) (pc := 93) dX5_check_93 (by decide) (fun c => absurd c (nI_ge (by omega) (by omega))) (fun _ => ?_)
            refine k_iload (pc := 96) dX5_check_96 rfl ?_
            refine k_iconst (v := 3) (pc := 98) dX5_check_98 (by decide) ?_
            refine k_aload_n (pc := 99) dX5_check_99 rfl ?_
            refine mg_39 hst (pc := 100) dX5_check_100 ?_
            refine k_bipush (v := 8) (pc := 103) dX5_check_103 (by decide) ?_
            refine k_iload (pc := 105) dX5_check_105 rfl ?_
            refine k_imul (pc := 107) dX5_check_107 ?_
            refine k_iload (pc := 108) dX5_check_108 rfl ?_
            refine k_iadd (pc := 110) dX5_check_110 ?_
            refine m_iald hst rfl (pc := 111) dX5_check_111 (nI_8 s0 i) (by simp only [mln]; omega) (by decide) ?_
            refine k_iadd (pc := 112) dX5_check_112 ?_
            refine k_iadd (pc := 113) dX5_check_113 ?_
            rw [c1, show (3 : Int32) = nI 3 from rfl, nI_add, nI_add]
            refine k_istore (pc := 114) dX5_check_114 (by decide) rfl ?_
            refine k_iload_n (pc := 116) dX5_check_116 rfl ?_
            refine k_aload_n (pc := 117) dX5_check_117 rfl ?_
            refine k_aload_n (pc := 118) dX5_check_118 rfl ?_
            refine mg_36 hst (pc := 119) dX5_check_119 ?_
            refine k_bipush (v := 8) (pc := 122) dX5_check_122 (by decide) ?_
            refine k_iload (pc := 124) dX5_check_124 rfl ?_
            refine k_imul (pc := 126) dX5_check_126 ?_
            refine k_iload (pc := 127) dX5_check_127 rfl ?_
            refine k_iadd (pc := 129) dX5_check_129 ?_
            refine m_lald hst rfl (pc := 130) dX5_check_130 (nI_8 s0 i) (by simp only [mln]; omega) (by decide) ?_
            rw [c0]
            refine k_close h2 ?_
            refine k_callM sv_X5_154 hst (n_inPage hst e0.1.1) (pc := 131) dX5_check_131 rfl rfl (Nat.le_of_ble_eq_true rfl) (by decide) (by decide) (Nat.le_refl _) (Nat.le_refl _) ?_
            refine k_bipush (v := 8) (pc := 134) dX5_check_134 (by decide) ?_
            refine k_iload (pc := 136) dX5_check_136 rfl ?_
            refine k_imul (pc := 138) dX5_check_138 ?_
            refine k_iload (pc := 139) dX5_check_139 rfl ?_
            refine k_iadd (pc := 141) dX5_check_141 ?_
            rw [hset, hix, nI_8]
            refine k_icmp_eq (tgt := 149) (pc := 142) dX5_check_142 (by decide) (fun _ => ?_) (fun c => absurd rfl c)
            refine k_iconst (v := 0) (pc := 149) dX5_check_149 (by decide) ?_
            refine k_ior (pc := 150) dX5_check_150 ?_
            refine k_istore_n (pc := 151) dX5_check_151 (by decide) rfl ?_
            refine k_iinc (pc := 152) dX5_check_152 rfl (nI_inc _) (by decide) rfl ?_
            refine k_goto (tgt := 84) (pc := 155) dX5_check_155 (by decide) ?_
            rw [or00]
            exact step2
        refine k_iload (pc := 71) dX5_check_71 rfl ?_
        refine k_bipush (v := 64) (pc := 73) dX5_check_73 (by decide) ?_
        refine k_icmp_ge (tgt := 179) (pc := 75) dX5_check_75 (by decide) (fun c => absurd c (nI_ge (a := s0) (b := 64) (by omega) (by decide))) (fun _ => ?_)
        refine k_iconst (v := 0) (pc := 78) dX5_check_78 (by decide) ?_
        refine k_istore (pc := 79) dX5_check_79 (by decide) rfl ?_
        refine k_iconst (v := 0) (pc := 81) dX5_check_81 (by decide) ?_
        refine k_istore (pc := 82) dX5_check_82 (by decide) rfl ?_
        exact inner (sP S s0).length 0 (by omega)
    have loop : ∀ j i : Nat, i + j = (sL S).length → K p l e s m ([.ref mo] : List Value).toArray below meth c (rmm 3 0 0) yX5_check.cls cX5_check 7 (some .int) G A (MQ below (Qd (some (.int (if sX S = true then -2 else 0))) (MPS G A mo ad sl S) A) ([.ref mo] : List Value).toArray s 0 0 A) 0 0 (MPN G A mo ad sl S nw) 19 [some (.ref mo), some (.int 0), some (.int 0), some (.int 0), some (.int (nI i)), none, none] [] := by
      intro j
      induction j with
      | zero =>
        intro i hi
        have hi6 : i = (sL S).length := by omega
        subst hi6
        refine k_open fun fi2 ai2 al2 h2 => ?_
        refine k_iload (pc := 19) dX5_check_19 rfl ?_
        refine k_aload_n (pc := 21) dX5_check_21 rfl ?_
        refine mg_96 hst (pc := 22) dX5_check_22 ?_
        rw [h2.1.1]
        refine k_icmp_ge (tgt := 68) (pc := 25) dX5_check_25 (by decide) (fun _ => ?_) (fun c => absurd (nI_le (Nat.le_refl _) (by omega)) c)
        refine k_close h2 ?_
        refine k_iconst (v := 0) (pc := 68) dX5_check_68 (by decide) ?_
        refine k_istore (pc := 69) dX5_check_69 (by decide) rfl ?_
        exact outer 64 0 (by omega)
      | succ j ih =>
        intro i hi
        obtain ⟨e0, he0⟩ : ∃ e0, (sL S)[i]? = some e0 := ⟨(sL S)[i], List.getElem?_eq_getElem (by omega)⟩
        have step := ih (i + 1) (by omega)
        refine k_open fun fi2 ai2 al2 h2 => ?_
        obtain ⟨c0, -, -, -, c4, -⟩ := ent_k (h2.1.2.2 i e0 he0)
        refine k_iload (pc := 19) dX5_check_19 rfl ?_
        refine k_aload_n (pc := 21) dX5_check_21 rfl ?_
        refine mg_96 hst (pc := 22) dX5_check_22 ?_
        rw [h2.1.1]
        refine k_icmp_ge (tgt := 68) (pc := 25) dX5_check_25 (by decide) (fun c => absurd c (nI_ge (by omega) (by omega))) (fun _ => ?_)
        refine k_iload_n (pc := 28) dX5_check_28 rfl ?_
        refine k_aload_n (pc := 29) dX5_check_29 rfl ?_
        refine mg_23 hst (pc := 30) dX5_check_30 ?_
        refine k_iload (pc := 33) dX5_check_33 rfl ?_
        refine m_zald hst rfl (pc := 35) dX5_check_35 rfl (by simp only [mln]; omega) (by decide) ?_
        rw [c4]
        cases hal : e0.2.1 with
        | false =>
          refine k_close h2 ?_
          refine k_if_eq (tgt := 59) (pc := 36) dX5_check_36 (by decide) (fun _ => ?_) (fun c => absurd ((show bI false = 0 by decide)) c)
          refine k_iconst (v := 0) (pc := 59) dX5_check_59 (by decide) ?_
          refine k_ior (pc := 60) dX5_check_60 ?_
          refine k_istore_n (pc := 61) dX5_check_61 (by decide) rfl ?_
          refine k_iinc (pc := 62) dX5_check_62 rfl (nI_inc _) (by decide) rfl ?_
          refine k_goto (tgt := 19) (pc := 65) dX5_check_65 (by decide) ?_
          rw [or00]
          exact step
        | true =>
          refine k_if_eq (tgt := 59) (pc := 36) dX5_check_36 (by decide) (fun c => absurd c ((show ¬ bI true = 0 by decide))) (fun _ => ?_)
          refine k_aload_n (pc := 39) dX5_check_39 rfl ?_
          refine k_aload_n (pc := 40) dX5_check_40 rfl ?_
          refine mg_7 hst (pc := 41) dX5_check_41 ?_
          refine k_iload (pc := 44) dX5_check_44 rfl ?_
          refine m_lald hst rfl (pc := 46) dX5_check_46 rfl (by simp only [mln]; omega) (by decide) ?_
          rw [c0]
          refine k_close h2 ?_
          refine k_callM sv_X5_133 hst (n_inLog hst e0.1.1) (pc := 47) dX5_check_47 rfl rfl (Nat.le_of_ble_eq_true rfl) (by decide) (by decide) (Nat.le_refl _) (Nat.le_refl _) ?_
          refine k_iload (pc := 50) dX5_check_50 rfl ?_
          rw [k1 i e0 he0 hal]
          refine k_icmp_eq (tgt := 59) (pc := 52) dX5_check_52 (by decide) (fun _ => ?_) (fun c => absurd rfl c)
          refine k_iconst (v := 0) (pc := 59) dX5_check_59 (by decide) ?_
          refine k_ior (pc := 60) dX5_check_60 ?_
          refine k_istore_n (pc := 61) dX5_check_61 (by decide) rfl ?_
          refine k_iinc (pc := 62) dX5_check_62 rfl (nI_inc _) (by decide) rfl ?_
          refine k_goto (tgt := 19) (pc := 65) dX5_check_65 (by decide) ?_
          rw [or00]
          exact step
    refine k_close h ?_
    refine k_if_eq (tgt := 10) (pc := 4) dX5_check_4 (by decide) (fun _ => ?_) (fun c => absurd ((show bI false = 0 by decide)) c)
    refine k_iconst (v := 0) (pc := 10) dX5_check_10 (by decide) ?_
    refine k_istore_n (pc := 11) dX5_check_11 (by decide) rfl ?_
    refine k_iconst (v := 0) (pc := 12) dX5_check_12 (by decide) ?_
    refine k_istore_n (pc := 13) dX5_check_13 (by decide) rfl ?_
    refine k_iconst (v := 0) (pc := 14) dX5_check_14 (by decide) ?_
    refine k_istore_n (pc := 15) dX5_check_15 (by decide) rfl ?_
    refine k_iconst (v := 0) (pc := 16) dX5_check_16 (by decide) ?_
    refine k_istore (pc := 17) dX5_check_17 (by decide) rfl ?_
    have l0 := loop (sL S).length 0 (by omega)
    rw [hx] at l0
    exact l0
end REFQ
