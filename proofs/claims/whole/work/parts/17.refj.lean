/-- what handle needs of the state, at the entry e -/
def HOk (S : SS) (k : Nat) : Prop := Lb S ∧ sH S < 8 ∧ sO S ≤ 32 ∧ (sL S).length ≤ 600 ∧ ∀ e, (sL S)[k]? = some e → e.1.2.1 ≤ 12 ∧ (sO S + plc e.1 > 32 → sN S (sH S) ≤ 2) ∧ ∀ x ∈ newsS S (setN e.1.1), 1 ≤ x.1.2.1 ∧ x.1.2.1 ≤ 12
theorem lb_kill {S : SS} (h : Lb S) (k : Nat) : ∀ e ∈ killAt (sL S) k, e.2.2.2 < 40 ∧ (e.2.2.2 / 4 = 8 → e.2.2.2 = 32) := by
  intro e he
  obtain ⟨j, hj⟩ := List.getElem?_of_mem he
  unfold killAt at hj
  rw [List.getElem?_modify] at hj
  by_cases hkj : k = j
  · simp only [hkj, if_true, Option.map_eq_map, Option.map_eq_some_iff] at hj
    obtain ⟨e0, he0, rfl⟩ := hj
    exact h e0 (List.mem_of_getElem? he0)
  · simp only [hkj, if_false] at hj
    exact h e (List.mem_of_getElem? (by simpa using hj))
theorem mvN_cnt {S : SS} {s i : Nat} {e : En} (he : (sL S)[i]? = some e) : nI (mvN S s i).length + (if inSet s e then 1 else 0) = nI (mvN S s (i + 1)).length := by
  rw [mvN_next he]
  by_cases h : inSet s e
  · simp [h, nI_1]
  · simp [h]
section REFJ
variable {p : Program} {l : Launch} {e : Env} {s : State} {m : MethodId} {args : Array Value} {below : List Frame} {meth : Method} {c : Code} {R : Room} {G : Gd} {A : Nat → Prop} {Q : State → Prop} {k n : Nat} {mo : Nat} {ad sl : Nat → Nat} {S : SS} {nw : List Ne}
set_option maxRecDepth 4000 in
theorem c_handle (hst : MSt mo ad sl) (k0 : Nat) (e0 : En) (he : (sL S)[k0]? = some e0) (hok : HOk S k0) : Ct 5 0 0 yX5_handle cX5_handle 5 (none) G A [.ref mo, .int (nI k0)] (MPN G A mo ad sl S nw) (none) (MPS G A mo ad sl (handleS S k0)) := by
  refine Ct.of 3 rfl rfl (Nat.le_of_ble_eq_true rfl) ?_
  intro p l e s m below meth c hini
  obtain ⟨hb, hH, hO, hlen, hrest⟩ := hok
  obtain ⟨hw, hN, hnews⟩ := hrest e0 he
  have hk0 : k0 < (sL S).length := (List.getElem?_eq_some_iff.mp he).1
  have hs := setN_lt e0.1.1
  have tail : K p l e s m ([.ref mo, .int (nI k0)] : List Value).toArray below meth c (rmm 5 0 0) yX5_handle.cls cX5_handle 5 (none) G A (MQ below (Qd (none) (MPS G A mo ad sl (handleS S k0)) A) ([.ref mo, .int (nI k0)] : List Value).toArray s 0 0 A) 0 0 (MPN G A mo ad sl S nw) 64 [some (.ref mo), some (.int (nI k0)), some (.int (nI (setN e0.1.1))), some (.int (nI (mvN S (setN e0.1.1) (sL S).length).length)), none] [] := by
    have e1 : mvN S (setN e0.1.1) (sL S).length = (sL S).filter (inSet (setN e0.1.1)) := by unfold mvN; rw [List.take_length]
    have hl2 : ((sL S).filter (inSet (setN e0.1.1))).length ≤ (sL S).length := List.length_filter_le _ _
    rw [e1]
    by_cases hmany : ((sL S).filter (inSet (setN e0.1.1))).length > 1
    · have hh : handleS S k0 = moveS S (setN e0.1.1) := by unfold handleS; rw [he]; exact if_pos hmany
      rw [hh]
      refine k_iload_n (pc := 64) dX5_handle_64 rfl ?_
      refine k_iconst (v := 1) (pc := 65) dX5_handle_65 (by decide) ?_
      refine k_icmp_le (tgt := 75) (pc := 66) dX5_handle_66 (by decide) (fun c => absurd c (nI_ge (a := 1) hmany (by omega))) (fun _ => ?_)
      refine k_aload_n (pc := 69) dX5_handle_69 rfl ?_
      refine k_iload_n (pc := 70) dX5_handle_70 rfl ?_
      refine k_callM sv_X5_119 hst (c_move hst (setN e0.1.1) hs hlen hnews) (pc := 71) dX5_handle_71 rfl rfl (Nat.le_of_ble_eq_true rfl) (by decide) (by decide) (Nat.le_refl _) (Nat.le_refl _) ?_
      exact k_vret (pc := 74) dX5_handle_74 (fun _ h => h) (Nat.le_refl _) (Nat.le_refl _)
    · refine k_iload_n (pc := 64) dX5_handle_64 rfl ?_
      refine k_iconst (v := 1) (pc := 65) dX5_handle_65 (by decide) ?_
      refine k_icmp_le (tgt := 75) (pc := 66) dX5_handle_66 (by decide) (fun _ => ?_) (fun c => absurd (nI_le (b := 1) (by omega) (by decide)) c)
      refine k_open fun fi ai al h => ?_
      obtain ⟨c0, c1, c2, c3, c4, c5, c6⟩ := ent_k (h.1.2.2 k0 e0 he)
      refine k_aload_n (pc := 75) dX5_handle_75 rfl ?_
      refine mg_23 hst (pc := 76) dX5_handle_76 ?_
      refine k_iload_n (pc := 79) dX5_handle_79 rfl ?_
      refine k_iconst (v := 0) (pc := 80) dX5_handle_80 (by decide) ?_
      refine m_zast hst rfl (pc := 81) dX5_handle_81 rfl (by simp only [mln]; omega) (by decide) rfl ?_
      refine k_aload_n (pc := 82) dX5_handle_82 rfl ?_
      refine mg_27 hst (pc := 83) dX5_handle_83 ?_
      refine k_iload_n (pc := 86) dX5_handle_86 rfl ?_
      refine m_zald hst rfl (pc := 87) dX5_handle_87 rfl (by simp only [mln]; omega) (by decide) ?_
      rw [up2_at, if_neg (by omega), c5]
      have hkill := rep_kill h k0
      have q0 : al 0 k0 = e0.1.1 := c0
      have q1 : ∀ x y, up2 (up2 ai 4 k0 0) 24 x y 1 k0 = nI e0.1.2.1 := fun x y => by rw [up2_at, if_neg (by omega), up2_at, if_neg (by omega), c1]
      have q2 : ∀ x y, up2 (up2 ai 4 k0 0) 24 x y 2 k0 = e0.1.2.2.1 := fun x y => by rw [up2_at, if_neg (by omega), up2_at, if_neg (by omega), c2]
      have q3 : ∀ x y, up2 (up2 ai 4 k0 0) 24 x y 3 k0 = e0.1.2.2.2 := fun x y => by rw [up2_at, if_neg (by omega), up2_at, if_neg (by omega), c3]
      cases hmk : e0.2.2.1 with
      | true =>
        have hh : handleS S k0 = anewS (uC (uL S (killAt (sL S) k0)) (inc (sC S) 10)) e0.1 := by unfold handleS; rw [he]; exact (if_neg hmany).trans (if_pos hmk)
        rw [hh]
        refine k_if_eq (tgt := 133) (pc := 88) dX5_handle_88 (by decide) (fun c => absurd c ((show ¬ bI true = 0 by decide))) (fun _ => ?_)
        refine k_aload_n (pc := 91) dX5_handle_91 rfl ?_
        refine mg_72 hst (pc := 92) dX5_handle_92 ?_
        refine k_bipush (v := 10) (pc := 95) dX5_handle_95 (by decide) ?_
        refine k_dup2 (pc := 97) dX5_handle_97 rfl rfl ?_
        refine m_iald hst rfl (pc := 98) dX5_handle_98 (show (10 : Int32) = nI 10 from rfl) (by decide) (by decide) ?_
        refine k_iconst (v := 1) (pc := 99) dX5_handle_99 (by decide) ?_
        refine k_iadd (pc := 100) dX5_handle_100 ?_
        refine m_iast hst rfl (pc := 101) dX5_handle_101 (show (10 : Int32) = nI 10 from rfl) (by decide) (by decide) ?_
        refine k_aload_n (pc := 102) dX5_handle_102 rfl ?_
        refine k_aload_n (pc := 103) dX5_handle_103 rfl ?_
        refine mg_7 hst (pc := 104) dX5_handle_104 ?_
        refine k_iload_n (pc := 107) dX5_handle_107 rfl ?_
        refine m_lald hst rfl (pc := 108) dX5_handle_108 rfl (by simp only [mln]; omega) (by decide) ?_
        refine k_aload_n (pc := 109) dX5_handle_109 rfl ?_
        refine mg_13 hst (pc := 110) dX5_handle_110 ?_
        refine k_iload_n (pc := 113) dX5_handle_113 rfl ?_
        refine m_iald hst rfl (pc := 114) dX5_handle_114 rfl (by simp only [mln]; omega) (by decide) ?_
        refine k_aload_n (pc := 115) dX5_handle_115 rfl ?_
        refine mg_17 hst (pc := 116) dX5_handle_116 ?_
        refine k_iload_n (pc := 119) dX5_handle_119 rfl ?_
        refine m_iald hst rfl (pc := 120) dX5_handle_120 rfl (by simp only [mln]; omega) (by decide) ?_
        refine k_aload_n (pc := 121) dX5_handle_121 rfl ?_
        refine mg_20 hst (pc := 122) dX5_handle_122 ?_
        refine k_iload_n (pc := 125) dX5_handle_125 rfl ?_
        refine m_iald hst rfl (pc := 126) dX5_handle_126 rfl (by simp only [mln]; omega) (by decide) ?_
        rw [q0, q1, q2, q3]
        refine k_close (rep_inc hkill (j := 10) (by decide)) ?_
        refine k_callM sv_X5_122 hst (c_app0 hst e0.1.1 e0.1.2.1 e0.1.2.2.1 e0.1.2.2.2 hw hO hH hN (lb_kill hb k0) (by rw [uC_L, uL_L]; simp [killAt]; omega)) (pc := 127) dX5_handle_127 rfl rfl (Nat.le_of_ble_eq_true rfl) (by decide) (by decide) (Nat.le_refl _) (Nat.le_refl _) ?_
        refine k_goto (tgt := 157) (pc := 130) dX5_handle_130 (by decide) ?_
        exact k_vret (pc := 157) dX5_handle_157 (fun _ h => ⟨_, h⟩) (Nat.le_refl _) (Nat.le_refl _)
      | false =>
        have hh : handleS S k0 = (takeS (uC (uL S (killAt (sL S) k0)) (inc (sC S) 9)) e0.1.1 3).1 := by unfold handleS; rw [he]; exact (if_neg hmany).trans (if_neg (by rw [hmk]; decide))
        rw [hh]
        refine k_if_eq (tgt := 133) (pc := 88) dX5_handle_88 (by decide) (fun _ => ?_) (fun c => absurd ((show bI false = 0 by decide)) c)
        refine k_aload_n (pc := 133) dX5_handle_133 rfl ?_
        refine mg_72 hst (pc := 134) dX5_handle_134 ?_
        refine k_bipush (v := 9) (pc := 137) dX5_handle_137 (by decide) ?_
        refine k_dup2 (pc := 139) dX5_handle_139 rfl rfl ?_
        refine m_iald hst rfl (pc := 140) dX5_handle_140 (show (9 : Int32) = nI 9 from rfl) (by decide) (by decide) ?_
        refine k_iconst (v := 1) (pc := 141) dX5_handle_141 (by decide) ?_
        refine k_iadd (pc := 142) dX5_handle_142 ?_
        refine m_iast hst rfl (pc := 143) dX5_handle_143 (show (9 : Int32) = nI 9 from rfl) (by decide) (by decide) ?_
        refine k_aload_n (pc := 144) dX5_handle_144 rfl ?_
        refine k_aload_n (pc := 145) dX5_handle_145 rfl ?_
        refine mg_7 hst (pc := 146) dX5_handle_146 ?_
        refine k_iload_n (pc := 149) dX5_handle_149 rfl ?_
        refine m_lald hst rfl (pc := 150) dX5_handle_150 rfl (by simp only [mln]; omega) (by decide) ?_
        refine k_iconst (v := 3) (pc := 151) dX5_handle_151 (by decide) ?_
        rw [q0]
        refine k_close (rep_inc hkill (j := 9) (by decide)) ?_
        refine k_callM sv_X5_126 hst (c_takeOut hst e0.1.1 3 (by decide)) (pc := 152) dX5_handle_152 rfl rfl (Nat.le_of_ble_eq_true rfl) (by decide) (by decide) (Nat.le_refl _) (Nat.le_refl _) ?_
        refine k_istore (pc := 155) dX5_handle_155 (by decide) rfl ?_
        exact k_vret (pc := 157) dX5_handle_157 (fun _ h => ⟨_, h⟩) (Nat.le_refl _) (Nat.le_refl _)
  have loop : ∀ j i : Nat, i + j = (sL S).length → K p l e s m ([.ref mo, .int (nI k0)] : List Value).toArray below meth c (rmm 5 0 0) yX5_handle.cls cX5_handle 5 (none) G A (MQ below (Qd (none) (MPS G A mo ad sl (handleS S k0)) A) ([.ref mo, .int (nI k0)] : List Value).toArray s 0 0 A) 0 0 (MPN G A mo ad sl S nw) 16 [some (.ref mo), some (.int (nI k0)), some (.int (nI (setN e0.1.1))), some (.int (nI (mvN S (setN e0.1.1) i).length)), some (.int (nI i))] [] := by
    intro j
    induction j with
    | zero =>
      intro i hi
      have hi6 : i = (sL S).length := by omega
      subst hi6
      refine k_open fun fi ai al h => ?_
      refine k_iload (pc := 16) dX5_handle_16 rfl ?_
      refine k_aload_n (pc := 18) dX5_handle_18 rfl ?_
      refine mg_96 hst (pc := 19) dX5_handle_19 ?_
      rw [h.1.1]
      refine k_icmp_ge (tgt := 64) (pc := 22) dX5_handle_22 (by decide) (fun _ => ?_) (fun c => absurd (nI_le (Nat.le_refl _) (by omega)) c)
      refine k_close h ?_
      exact k_lv (fun i v h => by match i, h with | 0, h => exact h | 1, h => exact h | 2, h => exact h | 3, h => exact h | 4, h => cases h | i + 5, h => cases h) tail
    | succ j ih =>
      intro i hi
      have step := ih (i + 1) (by omega)
      obtain ⟨e1, he1⟩ : ∃ e1, (sL S)[i]? = some e1 := ⟨(sL S)[i], List.getElem?_eq_getElem (by omega)⟩
      rw [← mvN_cnt he1] at step
      refine k_open fun fi ai al h => ?_
      obtain ⟨c0, -, -, -, c4, -⟩ := ent_k (h.1.2.2 i e1 he1)
      refine k_iload (pc := 16) dX5_handle_16 rfl ?_
      refine k_aload_n (pc := 18) dX5_handle_18 rfl ?_
      refine mg_96 hst (pc := 19) dX5_handle_19 ?_
      rw [h.1.1]
      refine k_icmp_ge (tgt := 64) (pc := 22) dX5_handle_22 (by decide) (fun c => absurd c (nI_ge (by omega) (by omega))) (fun _ => ?_)
      refine k_iload_n (pc := 25) dX5_handle_25 rfl ?_
      refine k_aload_n (pc := 26) dX5_handle_26 rfl ?_
      refine mg_23 hst (pc := 27) dX5_handle_27 ?_
      refine k_iload (pc := 30) dX5_handle_30 rfl ?_
      refine m_zald hst rfl (pc := 32) dX5_handle_32 rfl (by simp only [mln]; omega) (by decide) ?_
      rw [c4]
      refine k_if_eq (tgt := 55) (pc := 33) dX5_handle_33 (by decide) (fun h1 => ?_) (fun h1 => ?_)
      · have hin : inSet (setN e0.1.1) e1 = false := by simp [inSet, bI_f h1]
        rw [hin] at step
        refine k_iconst (v := 0) (pc := 55) dX5_handle_55 (by decide) ?_
        refine k_iadd (pc := 56) dX5_handle_56 ?_
        refine k_istore_n (pc := 57) dX5_handle_57 (by decide) rfl ?_
        refine k_iinc (pc := 58) dX5_handle_58 rfl (nI_inc _) (by decide) rfl ?_
        refine k_goto (tgt := 16) (pc := 61) dX5_handle_61 (by decide) ?_
        exact k_close h step
      · refine k_aload_n (pc := 36) dX5_handle_36 rfl ?_
        refine k_aload_n (pc := 37) dX5_handle_37 rfl ?_
        refine mg_7 hst (pc := 38) dX5_handle_38 ?_
        refine k_iload (pc := 41) dX5_handle_41 rfl ?_
        refine m_lald hst rfl (pc := 43) dX5_handle_43 rfl (by simp only [mln]; omega) (by decide) ?_
        rw [c0]
        refine k_close h ?_
        refine k_callM sv_X5_88 hst (n_setOf hst e1.1.1) (pc := 44) dX5_handle_44 rfl rfl (Nat.le_of_ble_eq_true rfl) (by decide) (by decide) (Nat.le_refl _) (Nat.le_refl _) ?_
        refine k_iload_n (pc := 47) dX5_handle_47 rfl ?_
        refine k_icmp_ne (tgt := 55) (pc := 48) dX5_handle_48 (by decide) (fun h2 => ?_) (fun h2 => ?_)
        · have hin : inSet (setN e0.1.1) e1 = false := by
            have : ¬ setN e1.1.1 = setN e0.1.1 := fun z => h2 (by rw [z])
            simp [inSet, this]
          rw [hin] at step
          refine k_iconst (v := 0) (pc := 55) dX5_handle_55 (by decide) ?_
          refine k_iadd (pc := 56) dX5_handle_56 ?_
          refine k_istore_n (pc := 57) dX5_handle_57 (by decide) rfl ?_
          refine k_iinc (pc := 58) dX5_handle_58 rfl (nI_inc _) (by decide) rfl ?_
          refine k_goto (tgt := 16) (pc := 61) dX5_handle_61 (by decide) ?_
          exact step
        · have hse : setN e1.1.1 = setN e0.1.1 := (nI_eq (by have := setN_lt e1.1.1; omega) (by omega)).mp h2
          have hin : inSet (setN e0.1.1) e1 = true := by simp [inSet, bI_t h1, hse]
          rw [hin] at step
          refine k_iconst (v := 1) (pc := 51) dX5_handle_51 (by decide) ?_
          refine k_goto (tgt := 56) (pc := 52) dX5_handle_52 (by decide) ?_
          refine k_iadd (pc := 56) dX5_handle_56 ?_
          refine k_istore_n (pc := 57) dX5_handle_57 (by decide) rfl ?_
          refine k_iinc (pc := 58) dX5_handle_58 rfl (nI_inc _) (by decide) rfl ?_
          refine k_goto (tgt := 16) (pc := 61) dX5_handle_61 (by decide) ?_
          exact step
  refine k_open fun fi ai al h => ?_
  obtain ⟨c0, -⟩ := ent_k (h.1.2.2 k0 e0 he)
  refine k_aload_n (pc := 0) dX5_handle_0 rfl ?_
  refine k_aload_n (pc := 1) dX5_handle_1 rfl ?_
  refine mg_7 hst (pc := 2) dX5_handle_2 ?_
  refine k_iload_n (pc := 5) dX5_handle_5 rfl ?_
  refine m_lald hst rfl (pc := 6) dX5_handle_6 rfl (by simp only [mln]; omega) (by decide) ?_
  rw [c0]
  refine k_close h ?_
  refine k_callM sv_X5_88 hst (n_setOf hst e0.1.1) (pc := 7) dX5_handle_7 rfl rfl (Nat.le_of_ble_eq_true rfl) (by decide) (by decide) (Nat.le_refl _) (Nat.le_refl _) ?_
  refine k_istore_n (pc := 10) dX5_handle_10 (by decide) rfl ?_
  refine k_iconst (v := 0) (pc := 11) dX5_handle_11 (by decide) ?_
  refine k_istore_n (pc := 12) dX5_handle_12 (by decide) rfl ?_
  refine k_iconst (v := 0) (pc := 13) dX5_handle_13 (by decide) ?_
  refine k_istore (pc := 14) dX5_handle_14 (by decide) rfl ?_
  exact loop (sL S).length 0 (by omega)
end REFJ
