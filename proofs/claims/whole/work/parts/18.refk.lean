def OkL : Nat → Nat → SS → Prop
  | 0, _, _ => True
  | n + 1, k, S => (∃ e, (sL S)[k]? = some e ∧ e.2.2.2 < 40 ∧ (isOut e = true ∧ e.2.1 = true → HOk S k)) ∧ OkL n (k + 1) (stepS S k)
def OkE (S : SS) (h : Nat) : Prop := Lb S ∧ Lb (outS S h) ∧ OkL (sL (forget (outS S h))).length 0 (forget (outS S h)) ∧ Lb (loopS (sL (forget (outS S h))).length 0 (forget (outS S h)))
def OkW (S : SS) : Prop := Lb S ∧ sH S < 8 ∧ sN S (sH S) ≤ 3 ∧ (∀ j, sN S j ≤ 4) ∧ (sN (wr0 S) (sH S) = 4 → sN (turnS (wr0 S)) (sH (turnS (wr0 S))) > 0 → OkE (turnS (wr0 S)) (sH (turnS (wr0 S))))
def OkA : Nat → SS → Da → Prop
  | 0, _, _ => False
  | n + 1, S, d => sO S ≤ 32 ∧ (if sO S + plc d > 32 then OkW S ∧ OkA n (writeS S) d else (sL S).length < 700)
theorem rep_out {S : SS} {nw : List Ne} {fi : Nat → Int32} {ai : Nat → Nat → Int32} {al : Nat → Nat → Int64} (h : Rep S nw fi ai al) {h0 : Nat} (hh : h0 < 8) (hb : Lb S) : Rep (outS S h0) nw fi (up2 (va_up ai 6 (rel (ai 6) (nI h0) 9 (sL S).length)) 8 h0 0) al := by
  obtain ⟨⟨l1, l2, l3⟩, ⟨n1, n2, n3⟩, hP, r1, r2, r3, r4, r5⟩ := h
  refine ⟨⟨?_, ?_, ?_⟩, ⟨n1, n2, ?_⟩, ?_, r1, r2, ?_, ?_, r5⟩
  · rw [outS_L, List.length_map]; exact l1
  · rw [outS_L, List.length_map]; exact l2
  · intro k e he
    simp only [outS_L, List.getElem?_map, Option.map_eq_some_iff] at he
    obtain ⟨e0, he0, rfl⟩ := he
    have hk : k < (sL S).length := (List.getElem?_eq_some_iff.mp he0).1
    obtain ⟨c0, c1, c2, c3, c4, c5, c6⟩ := ent_k (l3 k e0 he0)
    obtain ⟨b1, b2⟩ := hb e0 (List.mem_of_getElem? he0)
    have key : (if e0.2.2.2 / 4 = h0 then (e0.1, e0.2.1, e0.2.2.1, 36 + e0.2.2.2 % 4) else e0) = (e0.1, e0.2.1, e0.2.2.1, if e0.2.2.2 / 4 = h0 then 36 + e0.2.2.2 % 4 else e0.2.2.2) := by
      split <;> rfl
    rw [key]
    refine ent_mk c0 ?_ ?_ ?_ ?_ ?_ ?_
    · simpa [up2_at, va_up] using c1
    · simpa [up2_at, va_up] using c2
    · simpa [up2_at, va_up] using c3
    · simpa [up2_at, va_up] using c4
    · simpa [up2_at, va_up] using c5
    · have hrel : (up2 (va_up ai 6 (rel (ai 6) (nI h0) 9 (sL S).length)) 8 h0 0) 6 k = rel (ai 6) (nI h0) 9 (sL S).length k := by simp [up2_at, va_up]
      rw [hrel]
      unfold rel
      rw [c6]
      by_cases h32 : e0.2.2.2 / 4 = h0
      · have e1 : (36 + e0.2.2.2 % 4) / 4 = 9 := by omega
        rw [if_pos ⟨hk, by rw [h32]⟩]
        show _ = nI ((if e0.2.2.2 / 4 = h0 then 36 + e0.2.2.2 % 4 else e0.2.2.2) / 4)
        rw [if_pos h32, e1]
        rfl
      · have e1 : ¬ nI (e0.2.2.2 / 4) = nI h0 := fun q => h32 ((nI_eq (by omega) (by omega)).mp q)
        rw [if_neg (fun q => e1 q.2)]
        show _ = nI ((if e0.2.2.2 / 4 = h0 then 36 + e0.2.2.2 % 4 else e0.2.2.2) / 4)
        rw [if_neg h32]
  · intro k e he
    simpa [nent, up2_at, va_up] using n3 k e he
  · intro s hs
    rw [outS_P]
    simpa [pent, up2_at, va_up] using hP s hs
  · intro j hj
    simp only [up2_at, va_up, outS_N]
    by_cases hj2 : j = h0
    · simp [hj2, nI]
    · simp [hj2, r3 j hj]
  · intro j hj
    simpa [up2_at, va_up, outS_C] using r4 j hj
theorem rep_turn {S : SS} {nw : List Ne} {fi : Nat → Int32} {ai : Nat → Nat → Int32} {al : Nat → Nat → Int64} (h : Rep S nw fi ai al) : Rep (turnS S) nw (va_up fi 9 (nI ((sH S + 1) % 8))) (up2 ai 24 0 (ai 24 0 + 1)) al := by
  obtain ⟨⟨l1, l2, l3⟩, ⟨n1, n2, n3⟩, hP, r1, r2, r3, r4, r5⟩ := h
  refine ⟨⟨l1, l2, ?_⟩, ⟨n1, n2, ?_⟩, ?_, rfl, r2, ?_, ?_, r5⟩
  · intro k e he
    simpa [ent, up2_at] using l3 k e he
  · intro k e he
    simpa [nent, up2_at] using n3 k e he
  · intro s hs
    rw [turnS_P]
    simpa [pent, up2_at] using hP s hs
  · intro i hi
    rw [turnS_N]
    simpa [up2_at] using r3 i hi
  · intro i hi
    rw [turnS_C, up2_at]
    unfold inc va_up
    by_cases hij : i = 0
    · simp [hij, r4 0 (by decide)]
    · simp [hij, r4 i hi]
section REFK
variable {p : Program} {l : Launch} {e : Env} {s : State} {m : MethodId} {args : Array Value} {below : List Frame} {meth : Method} {c : Code} {R : Room} {G : Gd} {A : Nat → Prop} {Q : State → Prop} {k n : Nat} {mo : Nat} {ad sl : Nat → Nat} {S : SS} {nw : List Ne}
set_option maxRecDepth 4000 in
theorem c_empty (hst : MSt mo ad sl) (h0 : Nat) (hh : h0 < 8) (hok : OkE S h0) : Ct 6 0 0 yX5_empty cX5_empty 4 (none) G A [.ref mo, .int (nI h0)] (MPN G A mo ad sl S nw) (none) (MPS G A mo ad sl (emptyS S h0)) := by
  refine Ct.of 2 rfl rfl (Nat.le_of_ble_eq_true rfl) ?_
  intro p l e s m below meth c hini
  obtain ⟨hb, hb2, hL, hb3⟩ := hok
  refine k_open fun fi ai al h => ?_
  have hlen := h.1.2.1
  have loop2 : ∀ (n k : Nat) (S' : SS), k + n = (sL (forget (outS S h0))).length → OkL n k S' → loopS n k S' = loopS (sL (forget (outS S h0))).length 0 (forget (outS S h0)) → K p l e s m ([.ref mo, .int (nI h0)] : List Value).toArray below meth c (rmm 6 0 0) yX5_empty.cls cX5_empty 4 (none) G A (MQ below (Qd (none) (MPS G A mo ad sl (emptyS S h0)) A) ([.ref mo, .int (nI h0)] : List Value).toArray s 0 0 A) 0 0 (MPS G A mo ad sl S') 52 [some (.ref mo), some (.int (nI h0)), some (.int (nI (sL (forget (outS S h0))).length)), some (.int (nI k))] [] := by
    have hl2 : (sL (forget (outS S h0))).length ≤ 700 := by
      rw [forget_L]
      refine Nat.le_trans (List.length_filter_le _ _) ?_
      rw [outS_L, List.length_map]
      exact hlen
    intro n
    induction n with
    | zero =>
      intro k S' hk _ hfin
      have hk2 : k = (sL (forget (outS S h0))).length := by omega
      have hS' : S' = loopS (sL (forget (outS S h0))).length 0 (forget (outS S h0)) := hfin
      subst hk2
      refine k_openS fun nw' => ?_
      refine k_iload_n (pc := 52) dX5_empty_52 rfl ?_
      refine k_iload_n (pc := 53) dX5_empty_53 rfl ?_
      refine k_icmp_ge (tgt := 88) (pc := 54) dX5_empty_54 (by decide) (fun _ => ?_) (fun c => absurd (nI_le (Nat.le_refl _) (by omega)) c)
      refine k_aload_n (pc := 88) dX5_empty_88 rfl ?_
      refine k_callM sv_X5_113 hst (c_forget hst (by rw [hS']; exact hb3)) (pc := 89) dX5_empty_89 rfl rfl (Nat.le_of_ble_eq_true rfl) (by decide) (by decide) (Nat.le_refl _) (Nat.le_refl _) ?_
      exact k_vret (pc := 92) dX5_empty_92 (fun H hH => by unfold emptyS; rw [← hS']; exact ⟨_, hH⟩) (Nat.le_refl _) (Nat.le_refl _)
    | succ n ih =>
      intro k S' hk hok hfin
      obtain ⟨⟨e0, he0, hp40, hhok⟩, hok2⟩ := hok
      have next : K p l e s m ([.ref mo, .int (nI h0)] : List Value).toArray below meth c (rmm 6 0 0) yX5_empty.cls cX5_empty 4 (none) G A (MQ below (Qd (none) (MPS G A mo ad sl (emptyS S h0)) A) ([.ref mo, .int (nI h0)] : List Value).toArray s 0 0 A) 0 0 (MPS G A mo ad sl (stepS S' k)) 82 [some (.ref mo), some (.int (nI h0)), some (.int (nI (sL (forget (outS S h0))).length)), some (.int (nI k))] [] := by
        refine k_iinc (pc := 82) dX5_empty_82 rfl (nI_inc _) (by decide) rfl ?_
        refine k_goto (tgt := 52) (pc := 85) dX5_empty_85 (by decide) ?_
        exact ih (k + 1) (stepS S' k) (by omega) hok2 hfin
      refine k_openS fun nw' => ?_
      refine k_iload_n (pc := 52) dX5_empty_52 rfl ?_
      refine k_iload_n (pc := 53) dX5_empty_53 rfl ?_
      refine k_icmp_ge (tgt := 88) (pc := 54) dX5_empty_54 (by decide) (fun c => absurd c (nI_ge (by omega) (by omega))) (fun _ => ?_)
      refine k_open fun fi2 ai2 al2 hr => ?_
      obtain ⟨c0, c1, c2, c3, c4, c5, c6⟩ := ent_k (hr.1.2.2 k e0 he0)
      refine k_aload_n (pc := 57) dX5_empty_57 rfl ?_
      refine mg_30 hst (pc := 58) dX5_empty_58 ?_
      refine k_iload_n (pc := 61) dX5_empty_61 rfl ?_
      refine m_iald hst rfl (pc := 62) dX5_empty_62 rfl (by simp only [mln]; omega) (by decide) ?_
      refine k_bipush (v := 9) (pc := 63) dX5_empty_63 (by decide) ?_
      rw [c6]
      refine k_icmp_ne (tgt := 82) (pc := 65) dX5_empty_65 (by decide) (fun h1 => ?_) (fun h1 => ?_)
      · have hst2 : stepS S' k = S' := by
          have : ¬ e0.2.2.2 / 4 = 9 := fun q => h1 (by rw [q]; rfl)
          unfold stepS
          rw [he0]
          exact if_neg (fun z => this (by simpa [isOut] using z.1))
        rw [hst2] at next
        exact k_I (MPS.of hr) next
      · have hout : e0.2.2.2 / 4 = 9 := (nI_eq (by omega) (by decide)).mp (h1.trans (show (9 : Int32) = nI 9 from rfl))
        have hiso : isOut e0 = true := by simp [isOut, hout]
        refine k_aload_n (pc := 68) dX5_empty_68 rfl ?_
        refine mg_23 hst (pc := 69) dX5_empty_69 ?_
        refine k_iload_n (pc := 72) dX5_empty_72 rfl ?_
        refine m_zald hst rfl (pc := 73) dX5_empty_73 rfl (by simp only [mln]; omega) (by decide) ?_
        rw [c4]
        refine k_if_eq (tgt := 82) (pc := 74) dX5_empty_74 (by decide) (fun h2 => ?_) (fun h2 => ?_)
        · have hst2 : stepS S' k = S' := by
            unfold stepS
            rw [he0]
            exact if_neg (fun z => by rw [bI_f h2] at z; exact absurd z.2 (by decide))
          rw [hst2] at next
          exact k_I (MPS.of hr) next
        · have hst2 : stepS S' k = handleS S' k := by
            unfold stepS
            rw [he0]
            exact if_pos ⟨hiso, bI_t h2⟩
          rw [hst2] at next
          refine k_close hr ?_
          refine k_aload_n (pc := 77) dX5_empty_77 rfl ?_
          refine k_iload_n (pc := 78) dX5_empty_78 rfl ?_
          refine k_callM sv_X5_116 hst (c_handle hst k e0 he0 (hhok ⟨hiso, bI_t h2⟩)) (pc := 79) dX5_empty_79 rfl rfl (Nat.le_of_ble_eq_true rfl) (by decide) (by decide) (Nat.le_refl _) (Nat.le_refl _) ?_
          exact next
  have mid : K p l e s m ([.ref mo, .int (nI h0)] : List Value).toArray below meth c (rmm 6 0 0) yX5_empty.cls cX5_empty 4 (none) G A (MQ below (Qd (none) (MPS G A mo ad sl (emptyS S h0)) A) ([.ref mo, .int (nI h0)] : List Value).toArray s 0 0 A) 0 0 (MH G A mo ad sl fi (va_up ai 6 (rel (ai 6) (nI h0) 9 (sL S).length)) al) 34 [some (.ref mo), some (.int (nI h0)), none, none] [] := by
    refine k_aload_n (pc := 34) dX5_empty_34 rfl ?_
    refine mg_33 hst (pc := 35) dX5_empty_35 ?_
    refine k_iload_n (pc := 38) dX5_empty_38 rfl ?_
    refine k_iconst (v := 0) (pc := 39) dX5_empty_39 (by decide) ?_
    refine m_iast hst rfl (pc := 40) dX5_empty_40 rfl hh (by decide) ?_
    refine k_close (rep_out h hh hb) ?_
    refine k_aload_n (pc := 41) dX5_empty_41 rfl ?_
    refine k_callM sv_X5_113 hst (c_forget hst hb2) (pc := 42) dX5_empty_42 rfl rfl (Nat.le_of_ble_eq_true rfl) (by decide) (by decide) (Nat.le_refl _) (Nat.le_refl _) ?_
    refine k_open fun fi2 ai2 al2 hr => ?_
    refine k_aload_n (pc := 45) dX5_empty_45 rfl ?_
    refine mg_96 hst (pc := 46) dX5_empty_46 ?_
    rw [hr.1.1]
    refine k_istore_n (pc := 49) dX5_empty_49 (by decide) rfl ?_
    refine k_iconst (v := 0) (pc := 50) dX5_empty_50 (by decide) ?_
    refine k_istore_n (pc := 51) dX5_empty_51 (by decide) rfl ?_
    exact k_I (MPS.of hr) (loop2 _ 0 _ (by omega) hL rfl)
  have loop : ∀ j i : Nat, i + j = (sL S).length → K p l e s m ([.ref mo, .int (nI h0)] : List Value).toArray below meth c (rmm 6 0 0) yX5_empty.cls cX5_empty 4 (none) G A (MQ below (Qd (none) (MPS G A mo ad sl (emptyS S h0)) A) ([.ref mo, .int (nI h0)] : List Value).toArray s 0 0 A) 0 0 (MH G A mo ad sl fi (va_up ai 6 (rel (ai 6) (nI h0) 9 i)) al) 2 [some (.ref mo), some (.int (nI h0)), some (.int (nI i)), none] [] := by
    intro j
    induction j with
    | zero =>
      intro i hi
      have hi6 : i = (sL S).length := by omega
      subst hi6
      refine k_iload_n (pc := 2) dX5_empty_2 rfl ?_
      refine k_aload_n (pc := 3) dX5_empty_3 rfl ?_
      refine mg_96 hst (pc := 4) dX5_empty_4 ?_
      rw [h.1.1]
      refine k_icmp_ge (tgt := 34) (pc := 7) dX5_empty_7 (by decide) (fun _ => ?_) (fun c => absurd (nI_le (Nat.le_refl _) (by omega)) c)
      exact k_lv (fun i v h => by match i, h with | 0, h => exact h | 1, h => exact h | 2, h => cases h | 3, h => cases h | i + 4, h => cases h) mid
    | succ j ih =>
      intro i hi
      have step := ih (i + 1) (by omega)
      refine k_iload_n (pc := 2) dX5_empty_2 rfl ?_
      refine k_aload_n (pc := 3) dX5_empty_3 rfl ?_
      refine mg_96 hst (pc := 4) dX5_empty_4 ?_
      rw [h.1.1]
      refine k_icmp_ge (tgt := 34) (pc := 7) dX5_empty_7 (by decide) (fun c => absurd c (nI_ge (by omega) (by omega))) (fun _ => ?_)
      refine k_aload_n (pc := 10) dX5_empty_10 rfl ?_
      refine mg_30 hst (pc := 11) dX5_empty_11 ?_
      refine k_iload_n (pc := 14) dX5_empty_14 rfl ?_
      refine m_iald hst rfl (pc := 15) dX5_empty_15 rfl (by simp only [mln]; omega) (by decide) ?_
      refine k_iload_n (pc := 16) dX5_empty_16 rfl ?_
      refine k_icmp_ne (tgt := 28) (pc := 17) dX5_empty_17 (by decide) (fun h1 => ?_) (fun h1 => ?_)
      · rw [va_up_self, rel_i] at h1
        rw [← rel_f h1] at step
        refine k_iinc (pc := 28) dX5_empty_28 rfl (nI_inc _) (by decide) rfl ?_
        refine k_goto (tgt := 2) (pc := 31) dX5_empty_31 (by decide) ?_
        exact step
      · rw [va_up_self, rel_i] at h1
        rw [← rel_t h1] at step
        refine k_aload_n (pc := 20) dX5_empty_20 rfl ?_
        refine mg_30 hst (pc := 21) dX5_empty_21 ?_
        refine k_iload_n (pc := 24) dX5_empty_24 rfl ?_
        refine k_bipush (v := 9) (pc := 25) dX5_empty_25 (by decide) ?_
        refine m_iast hst rfl (pc := 27) dX5_empty_27 rfl (by simp only [mln]; omega) (by decide) ?_
        refine k_iinc (pc := 28) dX5_empty_28 rfl (nI_inc _) (by decide) rfl ?_
        refine k_goto (tgt := 2) (pc := 31) dX5_empty_31 (by decide) ?_
        rw [up2_va]
        exact step
  have l0 := loop (sL S).length 0 (by omega)
  rw [rel_0, va_id] at l0
  refine k_iconst (v := 0) (pc := 0) dX5_empty_0 (by decide) ?_
  refine k_istore_n (pc := 1) dX5_empty_1 (by decide) rfl ?_
  exact l0
set_option maxRecDepth 4000 in
theorem c_wop (hst : MSt mo ad sl) (hok : OkW S) : Ct 7 0 0 yX5_writeOpenPage cX5_writeOpenPage 2 (none) G A [.ref mo] (MPN G A mo ad sl S nw) (none) (MPS G A mo ad sl (writeS S)) := by
  refine Ct.of 1 rfl rfl (Nat.le_of_ble_eq_true rfl) ?_
  intro p l e s m below meth c hini
  obtain ⟨hb, hH, hN, hN4, hE⟩ := hok
  refine w_wop hst hH hN hb ?_
  refine k_open fun fi ai al h => ?_
  have r8 := h.2.2.2.2.2.1 (sH S) hH
  have r1 : fi 9 = nI (sH S) := h.2.2.2.1
  rw [wr0_N, va_up_self] at r8
  refine k_aload_n (pc := 65) dX5_writeOpenPage_65 rfl ?_
  refine mg_33 hst (pc := 66) dX5_writeOpenPage_66 ?_
  refine k_aload_n (pc := 69) dX5_writeOpenPage_69 rfl ?_
  refine mg_106 hst (pc := 70) dX5_writeOpenPage_70 ?_
  refine m_iald hst rfl (pc := 73) dX5_writeOpenPage_73 r1 (by simpa [mln] using hH) (by decide) ?_
  refine k_iconst (v := 4) (pc := 74) dX5_writeOpenPage_74 (by decide) ?_
  rw [r8]
  by_cases h4 : sN S (sH S) + 1 = 4
  · have hw4 : sN (wr0 S) (sH S) = 4 := by rw [wr0_N, va_up_self]; exact h4
    rw [h4]
    refine k_icmp_ne (tgt := 121) (pc := 75) dX5_writeOpenPage_75 (by decide) (fun c => absurd rfl c) (fun _ => ?_)
    have hrem : nI (sH S) + 1 - (nI (sH S) + 1) / 8 * 8 = nI ((sH S + 1) % 8) := by
      rw [nI_1, show (8 : Int32) = nI 8 from rfl, pk_rem (by omega) (by decide) (by decide)]
    refine k_aload_n (pc := 78) dX5_writeOpenPage_78 rfl ?_
    refine mg_72 hst (pc := 79) dX5_writeOpenPage_79 ?_
    refine k_iconst (v := 0) (pc := 82) dX5_writeOpenPage_82 (by decide) ?_
    refine k_dup2 (pc := 83) dX5_writeOpenPage_83 rfl rfl ?_
    refine m_iald hst rfl (pc := 84) dX5_writeOpenPage_84 (show (0 : Int32) = nI 0 from rfl) (by decide) (by decide) ?_
    refine k_iconst (v := 1) (pc := 85) dX5_writeOpenPage_85 (by decide) ?_
    refine k_iadd (pc := 86) dX5_writeOpenPage_86 ?_
    refine m_iast hst rfl (pc := 87) dX5_writeOpenPage_87 (show (0 : Int32) = nI 0 from rfl) (by decide) (by decide) ?_
    refine k_aload_n (pc := 88) dX5_writeOpenPage_88 rfl ?_
    refine k_aload_n (pc := 89) dX5_writeOpenPage_89 rfl ?_
    refine mg_106 hst (pc := 90) dX5_writeOpenPage_90 ?_
    refine k_iconst (v := 1) (pc := 93) dX5_writeOpenPage_93 (by decide) ?_
    refine k_iadd (pc := 94) dX5_writeOpenPage_94 ?_
    refine k_bipush (v := 8) (pc := 95) dX5_writeOpenPage_95 (by decide) ?_
    refine k_irem (pc := 97) dX5_writeOpenPage_97 (by decide) ?_
    rw [r1, hrem]
    refine mp_106 hst (pc := 98) dX5_writeOpenPage_98 rfl rfl ?_
    refine k_close (rep_turn (S := wr0 S) h) ?_
    refine k_open fun fi2 ai2 al2 hr => ?_
    have hH2 : sH (turnS (wr0 S)) < 8 := by rw [turnS_H]; omega
    have q8 := hr.2.2.2.2.2.1 _ hH2
    have q1 : fi2 9 = nI (sH (turnS (wr0 S))) := hr.2.2.2.1
    have hnx4 : sN (turnS (wr0 S)) (sH (turnS (wr0 S))) ≤ 4 := by
      rw [turnS_N, wr0_N]
      unfold va_up
      split
      · omega
      · exact hN4 _
    refine k_aload_n (pc := 101) dX5_writeOpenPage_101 rfl ?_
    refine mg_33 hst (pc := 102) dX5_writeOpenPage_102 ?_
    refine k_aload_n (pc := 105) dX5_writeOpenPage_105 rfl ?_
    refine mg_106 hst (pc := 106) dX5_writeOpenPage_106 ?_
    refine m_iald hst rfl (pc := 109) dX5_writeOpenPage_109 q1 (by simpa [mln] using hH2) (by decide) ?_
    rw [q8]
    by_cases hz : sN (turnS (wr0 S)) (sH (turnS (wr0 S))) > 0
    · have hw : writeS S = emptyS (turnS (wr0 S)) (sH (turnS (wr0 S))) := by unfold writeS; rw [if_pos hw4, if_pos hz]
      rw [hw]
      refine k_if_le (tgt := 121) (pc := 110) dX5_writeOpenPage_110 (by decide) (fun c => absurd c (nI_nle hz (by omega))) (fun _ => ?_)
      refine k_aload_n (pc := 113) dX5_writeOpenPage_113 rfl ?_
      refine k_aload_n (pc := 114) dX5_writeOpenPage_114 rfl ?_
      refine mg_106 hst (pc := 115) dX5_writeOpenPage_115 ?_
      rw [q1]
      refine k_close hr ?_
      refine k_callM sv_X5_109 hst (c_empty hst _ hH2 (hE hw4 hz)) (pc := 118) dX5_writeOpenPage_118 rfl rfl (Nat.le_of_ble_eq_true rfl) (by decide) (by decide) (Nat.le_refl _) (Nat.le_refl _) ?_
      exact k_vret (pc := 121) dX5_writeOpenPage_121 (fun _ h => h) (Nat.le_refl _) (Nat.le_refl _)
    · have hw : writeS S = turnS (wr0 S) := by unfold writeS; rw [if_pos hw4, if_neg hz]
      rw [hw]
      refine k_if_le (tgt := 121) (pc := 110) dX5_writeOpenPage_110 (by decide) (fun _ => ?_) (fun c => absurd (by rw [show sN (turnS (wr0 S)) (sH (turnS (wr0 S))) = 0 by omega]; decide) c)
      exact k_vret (pc := 121) dX5_writeOpenPage_121 (MPS.of hr) (Nat.le_refl _) (Nat.le_refl _)
  · have hw4 : ¬ sN (wr0 S) (sH S) = 4 := by rw [wr0_N, va_up_self]; exact h4
    have hw : writeS S = wr0 S := by unfold writeS; rw [if_neg hw4]
    rw [hw]
    refine k_icmp_ne (tgt := 121) (pc := 75) dX5_writeOpenPage_75 (by decide) (fun _ => ?_) (fun c => absurd ((nI_eq (by omega) (by decide)).mp (c.trans (show (4 : Int32) = nI 4 from rfl))) h4)
    exact k_vret (pc := 121) dX5_writeOpenPage_121 (MPS.of h) (Nat.le_refl _) (Nat.le_refl _)
set_option maxRecDepth 4000 in
theorem c_app (hst : MSt mo ad sl) (key : Int64) (w : Nat) (f t : Int32) (hw : w ≤ 12) (fuel : Nat) (hok : OkA fuel S (key, w, f, t)) : Ct 8 0 0 yX5_append cX5_append 6 (none) G A [.ref mo, .long key, .int (nI w), .int f, .int t] (MPS G A mo ad sl S) (none) (MPS G A mo ad sl (appS fuel S (key, w, f, t))) := by
  refine Ct.of 0 rfl rfl (Nat.le_of_ble_eq_true rfl) ?_
  intro p l e s m below meth c hini
  have loop : ∀ (n : Nat) (S' : SS), OkA n S' (key, w, f, t) → appS n S' (key, w, f, t) = appS fuel S (key, w, f, t) → K p l e s m ([.ref mo, .long key, .int (nI w), .int f, .int t] : List Value).toArray below meth c (rmm 8 0 0) yX5_append.cls cX5_append 6 (none) G A (MQ below (Qd (none) (MPS G A mo ad sl (appS fuel S (key, w, f, t))) A) ([.ref mo, .long key, .int (nI w), .int f, .int t] : List Value).toArray s 0 0 A) 0 0 (MPS G A mo ad sl S') 0 [some (.ref mo), some (.long key), none, some (.int (nI w)), some (.int f), some (.int t)] [] := by
    intro n
    induction n with
    | zero => intro S' h; exact absurd h id
    | succ n ih =>
      intro S' hok hfin
      obtain ⟨hO, hrest⟩ := hok
      refine k_openS fun nw' => ?_
      refine k_open fun fi ai al h => ?_
      refine k_aload_n (pc := 0) dX5_append_0 rfl ?_
      refine mg_100 hst (pc := 1) dX5_append_1 ?_
      refine k_iconst (v := 3) (pc := 4) dX5_append_4 (by decide) ?_
      refine k_iadd (pc := 5) dX5_append_5 ?_
      refine k_iload_n (pc := 6) dX5_append_6 rfl ?_
      refine k_iadd (pc := 7) dX5_append_7 ?_
      refine k_bipush (v := 32) (pc := 8) dX5_append_8 (by decide) ?_
      rw [show fi 10 = nI (sO S') from h.2.2.2.2.1, nI_3w]
      by_cases hf : sO S' + plc (key, w, f, t) > 32
      · have hpl : 32 < sO S' + (3 + w) := hf
        rw [if_pos hf] at hrest
        refine k_icmp_le (tgt := 20) (pc := 10) dX5_append_10 (by decide) (fun c => absurd c (nI_ge hpl (by omega))) (fun _ => ?_)
        refine k_close h ?_
        refine k_aload_n (pc := 13) dX5_append_13 rfl ?_
        refine k_callM sv_X5_103 hst (c_wop hst hrest.1) (pc := 14) dX5_append_14 rfl rfl (Nat.le_of_ble_eq_true rfl) (by decide) (by decide) (Nat.le_refl _) (Nat.le_refl _) ?_
        refine k_goto (tgt := 0) (pc := 17) dX5_append_17 (by decide) ?_
        refine ih (writeS S') hrest.2 ?_
        rw [← hfin]
        simp only [appS, hf, if_true]
      · have hpl : sO S' + (3 + w) ≤ 32 := by
          have h1 : ¬ sO S' + (3 + w) > 32 := hf
          omega
        rw [if_neg hf] at hrest
        refine k_icmp_le (tgt := 20) (pc := 10) dX5_append_10 (by decide) (fun _ => ?_) (fun c => absurd (nI_le hpl (by decide)) c)
        refine k_close h (w_push hst hrest ?_)
        exact k_vret (pc := 115) dX5_append_115 (fun H hH => by rw [← hfin]; simp only [appS, hf, if_false]; exact ⟨_, hH⟩) (Nat.le_refl _) (Nat.le_refl _)
  exact loop fuel S hok rfl
end REFK
