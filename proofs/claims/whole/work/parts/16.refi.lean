theorem rep_kill {S : SS} {nw : List Ne} {fi : Nat → Int32} {ai : Nat → Nat → Int32} {al : Nat → Nat → Int64} (h : Rep S nw fi ai al) (j : Nat) : Rep (uL S (killAt (sL S) j)) nw fi (up2 ai 4 j 0) al := by
  obtain ⟨⟨l1, l2, l3⟩, ⟨n1, n2, n3⟩, hP, r1, r2, r3, r4, r5⟩ := h
  refine ⟨⟨?_, ?_, ?_⟩, ⟨n1, n2, ?_⟩, ?_, r1, r2, ?_, ?_, r5⟩
  · rw [uL_L]; simpa [killAt] using l1
  · rw [uL_L]; simpa [killAt] using l2
  · intro k e he
    rw [uL_L] at he
    unfold killAt at he
    rw [List.getElem?_modify] at he
    by_cases hkj : j = k
    · subst hkj
      simp only [if_true, Option.map_eq_map, Option.map_eq_some_iff] at he
      obtain ⟨e0, he0, rfl⟩ := he
      obtain ⟨c0, c1, c2, c3, c4, c5, c6⟩ := ent_k (l3 j e0 he0)
      exact ent_mk c0 (by simpa [up2_at, kill1] using c1) (by simpa [up2_at, kill1] using c2) (by simpa [up2_at, kill1] using c3) (by rw [up2_at, if_pos ⟨rfl, rfl⟩]; rfl) (by simpa [up2_at, kill1] using c5) (by simpa [up2_at, kill1] using c6)
    · simp only [hkj, if_false] at he
      have := l3 k e (by simpa using he)
      simpa [ent, up2_at, Ne.symm hkj, show ¬ k = j from fun z => hkj z.symm] using this
  · intro k e he
    simpa [nent, up2_at] using n3 k e he
  · intro s hs
    rw [uL_P]
    simpa [pent, up2_at] using hP s hs
  · intro i hi
    rw [uL_N]
    simpa [up2_at] using r3 i hi
  · intro i hi
    rw [uL_C]
    simpa [up2_at] using r4 i hi
def stdL (S : SS) (s i : Nat) : List Ne := (((sP S s).take i).filter (fun e => (lastIx (sL S) e.1.1 (sL S).length).isNone)).map (fun e => (e.1, e.2, true))
theorem stdL_next {S : SS} {s i : Nat} {e : Pe} (he : (sP S s)[i]? = some e) : stdL S s (i + 1) = stdL S s i ++ (if (lastIx (sL S) e.1.1 (sL S).length).isNone then [(e.1, e.2, true)] else []) := by
  unfold stdL
  rw [List.take_add_one, he, List.filter_append, List.map_append]
  congr 1
  simp only [Option.toList, List.filter_cons, List.filter_nil]
  split <;> rfl
theorem stdL_len (S : SS) (s i : Nat) : (stdL S s i).length ≤ i := by
  unfold stdL
  rw [List.length_map]
  exact Nat.le_trans (List.length_filter_le _ _) (by rw [List.length_take]; omega)
def killIf (s : Nat) (e : En) : En := if inSet s e then kill1 e else e
def mvL (S : SS) (s i : Nat) : List En := ((sL S).take i).map (killIf s) ++ (sL S).drop i
def mvN (S : SS) (s i : Nat) : List En := ((sL S).take i).filter (inSet s)
theorem mvL_at (S : SS) (s i j : Nat) : (mvL S s i)[j]? = if j < i then ((sL S)[j]?).map (killIf s) else (sL S)[j]? := by
  unfold mvL
  rw [List.getElem?_append]
  simp only [List.length_map, List.length_take, List.getElem?_map, List.getElem?_take, List.getElem?_drop]
  by_cases h : j < i
  · by_cases h2 : j < (sL S).length
    · simp [h, h2, show j < min i (sL S).length by omega]
    · have h3 : (sL S)[j]? = none := List.getElem?_eq_none (by omega)
      simp [h, h3, show ¬ j < min i (sL S).length by omega, show (sL S).length ≤ i + (j - min i (sL S).length) by omega]
  · by_cases h4 : i ≤ (sL S).length
    · have : min i (sL S).length = i := by omega
      simp [h, this, show i + (j - i) = j by omega]
    · have h3 : (sL S)[j]? = none := List.getElem?_eq_none (by omega)
      simp [h, h3, show ¬ j < (sL S).length by omega, show (sL S).length ≤ i + (j - min i (sL S).length) by omega]
theorem mvL_len (S : SS) (s i : Nat) : (mvL S s i).length = (sL S).length := by
  unfold mvL
  simp
  omega
theorem mvL_end (S : SS) (s : Nat) : mvL S s (sL S).length = (sL S).map (killIf s) := by simp [mvL]
theorem mvL_skip {S : SS} {s i : Nat} {e : En} (he : (sL S)[i]? = some e) (hn : inSet s e = false) : mvL S s (i + 1) = mvL S s i := by
  apply List.ext_getElem?
  intro j
  rw [mvL_at, mvL_at]
  by_cases hj : j = i
  · subst hj
    simp [he, killIf, hn]
  · by_cases h2 : j < i
    · simp [h2, show j < i + 1 by omega]
    · simp [h2, show ¬ j < i + 1 by omega]
theorem mvL_kill {S : SS} {s i : Nat} {e : En} (he : (sL S)[i]? = some e) (hn : inSet s e = true) : mvL S s (i + 1) = killAt (mvL S s i) i := by
  apply List.ext_getElem?
  intro j
  unfold killAt
  rw [List.getElem?_modify, mvL_at, mvL_at]
  by_cases hj : j = i
  · subst hj
    simp [he, killIf, hn]
  · have hj2 : ¬ i = j := fun z => hj z.symm
    by_cases h2 : j < i
    · simp [h2, hj2, show j < i + 1 by omega]
    · simp [h2, hj2, show ¬ j < i + 1 by omega]
theorem mvN_next {S : SS} {s i : Nat} {e : En} (he : (sL S)[i]? = some e) : mvN S s (i + 1) = mvN S s i ++ (if inSet s e then [e] else []) := by
  unfold mvN
  rw [List.take_add_one, he, List.filter_append]
  simp only [Option.toList, List.filter_cons, List.filter_nil]
theorem mvN_len (S : SS) (s i : Nat) : (mvN S s i).length ≤ i := Nat.le_trans (List.length_filter_le _ _) (by rw [List.length_take]; omega)
def mv2 (S : SS) (s i : Nat) : SS := uC (uL S (mvL S s i)) (addN (inc (sC S) 11) 5 (mvN S s i).length)
def nw2 (S : SS) (s i : Nat) : List Ne := stdL S s (sP S s).length ++ (mvN S s i).map (fun e => (e.1, e.2.2.1, false))
theorem nw2_end (S : SS) (s : Nat) : nw2 S s (sL S).length = newsS S s := by
  unfold nw2 newsS stdL mvN
  rw [List.take_length, List.take_length]
theorem addN_inc (c : Nat → Int32) (n : Nat) : inc (addN c 5 n) 5 = addN c 5 (n + 1) := by
  funext j
  unfold inc addN va_up
  by_cases h : j = 5
  · simp [h, ← nI_1, Int32.add_assoc]
  · simp [h]
theorem addN_0 (c : Nat → Int32) : addN c 5 0 = c := by
  funext j
  unfold addN va_up
  by_cases h : j = 5
  · simp [h, nI]
  · simp [h]
theorem plN_hi : ∀ (l : List Ne), (∀ e ∈ l, 1 ≤ e.1.2.1 ∧ e.1.2.1 ≤ 12) → 4 * l.length ≤ plN l ∧ plN l ≤ 15 * l.length := by
  intro l
  induction l with
  | nil => intro _; simp [plN]
  | cons a l ih =>
    intro h
    have h1 := ih (fun e he => h e (List.mem_cons_of_mem _ he))
    have h2 := h a List.mem_cons_self
    have e1 : plN (a :: l) = (3 + a.1.2.1) + plN l := by simp [plN, plc]
    rw [e1]
    simp only [List.length_cons]
    omega
theorem dropS_mem {l : List Ne} {c : Nat → Int32} : ∀ e ∈ (dropS l c).1, e ∈ l := by
  intro e he
  unfold dropS at he
  split at he
  · exact List.mem_of_mem_eraseIdx he
  · split at he
    · exact List.mem_of_mem_eraseIdx he
    · exact List.mem_of_mem_eraseIdx he
theorem dropS_len {l : List Ne} {c : Nat → Int32} (h : 0 < l.length) : (dropS l c).1.length = l.length - 1 := by
  unfold dropS
  split
  · next i hi => rw [List.length_eraseIdx, if_pos (findIdx?_ltl hi)]
  · split
    · next i hi => rw [List.length_eraseIdx, if_pos (findIdx?_ltl hi)]
    · rw [List.length_eraseIdx, if_pos h]
section REFI
variable {p : Program} {l : Launch} {e : Env} {s : State} {m : MethodId} {args : Array Value} {below : List Frame} {meth : Method} {c : Code} {R : Room} {G : Gd} {A : Nat → Prop} {Q : State → Prop} {k n : Nat} {mo : Nat} {ad sl : Nat → Nat} {S : SS} {nw : List Ne}
set_option maxRecDepth 4000 in
theorem c_move (hst : MSt mo ad sl) (s0 : Nat) (hs : s0 < 64) (hlen : (sL S).length ≤ 600) (hwd : ∀ e ∈ newsS S s0, 1 ≤ e.1.2.1 ∧ e.1.2.1 ≤ 12) : Ct 2 0 0 yX5_move cX5_move 4 (none) G A [.ref mo, .int (nI s0)] (MPN G A mo ad sl S nw) (none) (MPS G A mo ad sl (moveS S s0)) := by
  refine Ct.of 2 rfl rfl (Nat.le_of_ble_eq_true rfl) ?_
  intro p l e s m below meth c hini
  have h8 : ∀ {fi ai al}, Rep S nw fi ai al → (sP S s0).length ≤ 8 := fun h => (h.2.2.1 s0 hs).2.1
  refine k_open fun fi0 ai0 al0 h0 => ?_
  have h8 := h8 h0
  have loop3 : ∀ (n : Nat) (cc : Nat → Int32) (nw : List Ne), nw.length ≤ n → (∀ e ∈ nw, 1 ≤ e.1.2.1 ∧ e.1.2.1 ≤ 12) → nw.length ≤ 700 → dropAll n nw cc = dropAll (newsS S s0).length (newsS S s0) (addN (inc (sC S) 11) 5 ((sL S).filter (inSet s0)).length) → K p l e s m ([.ref mo, .int (nI s0)] : List Value).toArray below meth c (rmm 2 0 0) yX5_move.cls cX5_move 4 (none) G A (MQ below (Qd (none) (MPS G A mo ad sl (moveS S s0)) A) ([.ref mo, .int (nI s0)] : List Value).toArray s 0 0 A) 0 0 (MPN G A mo ad sl (uC (uL S ((sL S).map (killIf s0))) cc) nw) 180 [some (.ref mo), some (.int (nI s0)), none, none] [] := by
    intro n
    induction n with
    | zero =>
      intro cc nw hn hw h7 hd
      have hnil : nw = [] := List.length_eq_zero_iff.mp (by omega)
      subst hnil
      refine k_aload_n (pc := 180) dX5_move_180 rfl ?_
      refine k_callM sv_X5_140 hst (c_plN hst) (pc := 181) dX5_move_181 rfl rfl (Nat.le_of_ble_eq_true rfl) (by decide) (by decide) (Nat.le_refl _) (Nat.le_refl _) ?_
      refine k_bipush (v := 32) (pc := 184) dX5_move_184 (by decide) ?_
      refine k_icmp_le (tgt := 196) (pc := 186) dX5_move_186 (by decide) (fun _ => ?_) (fun c => absurd (by decide) c)
      refine k_aload_n (pc := 196) dX5_move_196 rfl ?_
      refine k_iload_n (pc := 197) dX5_move_197 rfl ?_
      refine k_callM sv_X5_147 hst (c_writePage hst s0 hs (by simp)) (pc := 198) dX5_move_198 rfl rfl (Nat.le_of_ble_eq_true rfl) (by decide) (by decide) (Nat.le_refl _) (Nat.le_refl _) ?_
      refine k_open fun fi ai al h => ?_
      refine k_aload_n (pc := 201) dX5_move_201 rfl ?_
      refine mg_72 hst (pc := 202) dX5_move_202 ?_
      refine k_iconst (v := 2) (pc := 205) dX5_move_205 (by decide) ?_
      refine k_dup2 (pc := 206) dX5_move_206 rfl rfl ?_
      refine m_iald hst rfl (pc := 207) dX5_move_207 (show (2 : Int32) = nI 2 from rfl) (by decide) (by decide) ?_
      refine k_iconst (v := 1) (pc := 208) dX5_move_208 (by decide) ?_
      refine k_iadd (pc := 209) dX5_move_209 ?_
      refine m_iast hst rfl (pc := 210) dX5_move_210 (show (2 : Int32) = nI 2 from rfl) (by decide) (by decide) ?_
      exact k_vret (pc := 211) dX5_move_211 (fun H hH => by have := MPS.of (G := G) (A := A) (mo := mo) (ad := ad) (sl := sl) (rep_inc h (j := 2) (by decide)) H hH; unfold moveS; rw [← hd]; exact this) (Nat.le_refl _) (Nat.le_refl _)
    | succ n ih =>
      intro cc nw hn hw h7 hd
      obtain ⟨hp1, hp2⟩ := plN_hi nw hw
      refine k_aload_n (pc := 180) dX5_move_180 rfl ?_
      refine k_callM sv_X5_140 hst (c_plN hst) (pc := 181) dX5_move_181 rfl rfl (Nat.le_of_ble_eq_true rfl) (by decide) (by decide) (Nat.le_refl _) (Nat.le_refl _) ?_
      refine k_bipush (v := 32) (pc := 184) dX5_move_184 (by decide) ?_
      by_cases hgt : plN nw > 32
      · refine k_icmp_le (tgt := 196) (pc := 186) dX5_move_186 (by decide) (fun c => absurd c (nI_ge (a := 32) hgt (by omega))) (fun _ => ?_)
        have hpos : 0 < nw.length := by omega
        refine k_aload_n (pc := 189) dX5_move_189 rfl ?_
        refine k_callM sv_X5_144 hst (c_dropOne hst hpos) (pc := 190) dX5_move_190 rfl rfl (Nat.le_of_ble_eq_true rfl) (by decide) (by decide) (Nat.le_refl _) (Nat.le_refl _) ?_
        refine k_goto (tgt := 180) (pc := 193) dX5_move_193 (by decide) ?_
        have hl := dropS_len (c := cc) hpos
        refine ih _ _ (by rw [uC_C, hl]; omega) (fun e he => hw e (dropS_mem e he)) (by rw [uC_C, hl]; omega) ?_
        rw [← hd]
        show _ = dropAll (n + 1) nw cc
        simp only [dropAll, hgt, if_true]
        rfl
      · refine k_icmp_le (tgt := 196) (pc := 186) dX5_move_186 (by decide) (fun _ => ?_) (fun c => absurd (nI_le (b := 32) (by omega) (by decide)) c)
        have hd2 : dropAll (n + 1) nw cc = (nw, cc) := by simp only [dropAll, hgt, if_false]
        rw [hd2] at hd
        refine k_aload_n (pc := 196) dX5_move_196 rfl ?_
        refine k_iload_n (pc := 197) dX5_move_197 rfl ?_
        refine k_callM sv_X5_147 hst (c_writePage hst s0 hs (by omega)) (pc := 198) dX5_move_198 rfl rfl (Nat.le_of_ble_eq_true rfl) (by decide) (by decide) (Nat.le_refl _) (Nat.le_refl _) ?_
        refine k_open fun fi ai al h => ?_
        refine k_aload_n (pc := 201) dX5_move_201 rfl ?_
        refine mg_72 hst (pc := 202) dX5_move_202 ?_
        refine k_iconst (v := 2) (pc := 205) dX5_move_205 (by decide) ?_
        refine k_dup2 (pc := 206) dX5_move_206 rfl rfl ?_
        refine m_iald hst rfl (pc := 207) dX5_move_207 (show (2 : Int32) = nI 2 from rfl) (by decide) (by decide) ?_
        refine k_iconst (v := 1) (pc := 208) dX5_move_208 (by decide) ?_
        refine k_iadd (pc := 209) dX5_move_209 ?_
        refine m_iast hst rfl (pc := 210) dX5_move_210 (show (2 : Int32) = nI 2 from rfl) (by decide) (by decide) ?_
        exact k_vret (pc := 211) dX5_move_211 (fun H hH => by have := MPS.of (G := G) (A := A) (mo := mo) (ad := ad) (sl := sl) (rep_inc h (j := 2) (by decide)) H hH; unfold moveS; rw [← hd]; exact this) (Nat.le_refl _) (Nat.le_refl _)
  have fin2 : K p l e s m ([.ref mo, .int (nI s0)] : List Value).toArray below meth c (rmm 2 0 0) yX5_move.cls cX5_move 4 (none) G A (MQ below (Qd (none) (MPS G A mo ad sl (moveS S s0)) A) ([.ref mo, .int (nI s0)] : List Value).toArray s 0 0 A) 0 0 (MPN G A mo ad sl (mv2 S s0 (sL S).length) (nw2 S s0 (sL S).length)) 180 [some (.ref mo), some (.int (nI s0)), none, none] [] := by
    unfold mv2
    rw [nw2_end, mvL_end]
    have e1 : mvN S s0 (sL S).length = (sL S).filter (inSet s0) := by unfold mvN; rw [List.take_length]
    rw [e1]
    refine loop3 (newsS S s0).length _ _ (Nat.le_refl _) hwd ?_ rfl
    rw [← nw2_end]
    unfold nw2
    have := stdL_len S s0 (sP S s0).length
    have := mvN_len S s0 (sL S).length
    simp
    omega
  have loop2 : ∀ j i : Nat, i + j = (sL S).length → K p l e s m ([.ref mo, .int (nI s0)] : List Value).toArray below meth c (rmm 2 0 0) yX5_move.cls cX5_move 4 (none) G A (MQ below (Qd (none) (MPS G A mo ad sl (moveS S s0)) A) ([.ref mo, .int (nI s0)] : List Value).toArray s 0 0 A) 0 0 (MPN G A mo ad sl (mv2 S s0 i) (nw2 S s0 i)) 91 [some (.ref mo), some (.int (nI s0)), some (.int (nI i)), none] [] := by
    intro j
    induction j with
    | zero =>
      intro i hi
      have hi6 : i = (sL S).length := by omega
      subst hi6
      refine k_open fun fi ai al h => ?_
      have hf7 := h.1.1
      rw [show sL (mv2 S s0 (sL S).length) = mvL S s0 (sL S).length from rfl, mvL_len] at hf7
      refine k_iload_n (pc := 91) dX5_move_91 rfl ?_
      refine k_aload_n (pc := 92) dX5_move_92 rfl ?_
      refine mg_96 hst (pc := 93) dX5_move_93 ?_
      rw [hf7]
      refine k_icmp_ge (tgt := 180) (pc := 96) dX5_move_96 (by decide) (fun _ => ?_) (fun c => absurd (nI_le (Nat.le_refl _) (by omega)) c)
      refine k_close h ?_
      exact k_lv (fun i v h => by match i, h with | 0, h => exact h | 1, h => exact h | 2, h => cases h | 3, h => cases h | i + 4, h => cases h) fin2
    | succ j ih =>
      intro i hi
      have step := ih (i + 1) (by omega)
      obtain ⟨e0, he0⟩ : ∃ e0, (sL S)[i]? = some e0 := ⟨(sL S)[i], List.getElem?_eq_getElem (by omega)⟩
      have hnx := mvN_next (s := s0) he0
      have hat : (sL (mv2 S s0 i))[i]? = some e0 := by
        show (mvL S s0 i)[i]? = _
        rw [mvL_at, if_neg (by omega), he0]
      have hskip : inSet s0 e0 = false → K p l e s m ([.ref mo, .int (nI s0)] : List Value).toArray below meth c (rmm 2 0 0) yX5_move.cls cX5_move 4 (none) G A (MQ below (Qd (none) (MPS G A mo ad sl (moveS S s0)) A) ([.ref mo, .int (nI s0)] : List Value).toArray s 0 0 A) 0 0 (MPN G A mo ad sl (mv2 S s0 i) (nw2 S s0 i)) 174 [some (.ref mo), some (.int (nI s0)), some (.int (nI i)), none] [] := by
        intro hf
        refine k_iinc (pc := 174) dX5_move_174 rfl (nI_inc _) (by decide) rfl ?_
        refine k_goto (tgt := 91) (pc := 177) dX5_move_177 (by decide) ?_
        have e1 : mv2 S s0 (i + 1) = mv2 S s0 i := by unfold mv2; rw [mvL_skip he0 hf, hnx, hf]; simp
        have e2 : nw2 S s0 (i + 1) = nw2 S s0 i := by unfold nw2; rw [hnx, hf]; simp
        rw [e1, e2] at step
        exact step
      refine k_open fun fi ai al h => ?_
      have hf7 := h.1.1
      rw [show sL (mv2 S s0 i) = mvL S s0 i from rfl, mvL_len] at hf7
      obtain ⟨c0, -, -, -, c4, -⟩ := ent_k (h.1.2.2 i e0 hat)
      refine k_iload_n (pc := 91) dX5_move_91 rfl ?_
      refine k_aload_n (pc := 92) dX5_move_92 rfl ?_
      refine mg_96 hst (pc := 93) dX5_move_93 ?_
      rw [hf7]
      refine k_icmp_ge (tgt := 180) (pc := 96) dX5_move_96 (by decide) (fun c => absurd c (nI_ge (by omega) (by omega))) (fun _ => ?_)
      refine k_aload_n (pc := 99) dX5_move_99 rfl ?_
      refine mg_23 hst (pc := 100) dX5_move_100 ?_
      refine k_iload_n (pc := 103) dX5_move_103 rfl ?_
      refine m_zald hst rfl (pc := 104) dX5_move_104 rfl (by simp only [mln]; omega) (by decide) ?_
      rw [c4]
      refine k_if_eq (tgt := 174) (pc := 105) dX5_move_105 (by decide) (fun h1 => ?_) (fun h1 => ?_)
      · exact k_close h (hskip (by simp [inSet, bI_f h1]))
      · refine k_aload_n (pc := 108) dX5_move_108 rfl ?_
        refine k_aload_n (pc := 109) dX5_move_109 rfl ?_
        refine mg_7 hst (pc := 110) dX5_move_110 ?_
        refine k_iload_n (pc := 113) dX5_move_113 rfl ?_
        refine m_lald hst rfl (pc := 114) dX5_move_114 rfl (by simp only [mln]; omega) (by decide) ?_
        rw [c0]
        refine k_close h ?_
        refine k_callM sv_X5_88 hst (n_setOf hst e0.1.1) (pc := 115) dX5_move_115 rfl rfl (Nat.le_of_ble_eq_true rfl) (by decide) (by decide) (Nat.le_refl _) (Nat.le_refl _) ?_
        refine k_iload_n (pc := 118) dX5_move_118 rfl ?_
        refine k_icmp_ne (tgt := 174) (pc := 119) dX5_move_119 (by decide) (fun h2 => ?_) (fun h2 => ?_)
        · refine hskip ?_
          have : ¬ setN e0.1.1 = s0 := fun z => h2 (by rw [z])
          simp [inSet, this]
        · have hse : setN e0.1.1 = s0 := (nI_eq (by have := setN_lt e0.1.1; omega) (by omega)).mp h2
          have hin : inSet s0 e0 = true := by simp [inSet, bI_t h1, hse]
          refine k_open fun fi1 ai1 al1 hr1 => ?_
          obtain ⟨d0, d1, d2, d3, d4, d5, d6⟩ := ent_k (hr1.1.2.2 i e0 hat)
          refine k_aload_n (pc := 122) dX5_move_122 rfl ?_
          refine k_aload_n (pc := 123) dX5_move_123 rfl ?_
          refine mg_7 hst (pc := 124) dX5_move_124 ?_
          refine k_iload_n (pc := 127) dX5_move_127 rfl ?_
          refine m_lald hst rfl (pc := 128) dX5_move_128 rfl (by simp only [mln]; omega) (by decide) ?_
          refine k_aload_n (pc := 129) dX5_move_129 rfl ?_
          refine mg_13 hst (pc := 130) dX5_move_130 ?_
          refine k_iload_n (pc := 133) dX5_move_133 rfl ?_
          refine m_iald hst rfl (pc := 134) dX5_move_134 rfl (by simp only [mln]; omega) (by decide) ?_
          refine k_aload_n (pc := 135) dX5_move_135 rfl ?_
          refine mg_17 hst (pc := 136) dX5_move_136 ?_
          refine k_iload_n (pc := 139) dX5_move_139 rfl ?_
          refine m_iald hst rfl (pc := 140) dX5_move_140 rfl (by simp only [mln]; omega) (by decide) ?_
          refine k_aload_n (pc := 141) dX5_move_141 rfl ?_
          refine mg_20 hst (pc := 142) dX5_move_142 ?_
          refine k_iload_n (pc := 145) dX5_move_145 rfl ?_
          refine m_iald hst rfl (pc := 146) dX5_move_146 rfl (by simp only [mln]; omega) (by decide) ?_
          refine k_aload_n (pc := 147) dX5_move_147 rfl ?_
          refine mg_27 hst (pc := 148) dX5_move_148 ?_
          refine k_iload_n (pc := 151) dX5_move_151 rfl ?_
          refine m_zald hst rfl (pc := 152) dX5_move_152 rfl (by simp only [mln]; omega) (by decide) ?_
          refine k_iconst (v := 0) (pc := 153) dX5_move_153 (by decide) ?_
          rw [d0, d1, d2, d3, d5]
          refine k_close hr1 ?_
          refine k_callM sv_X5_136 hst (c_addNew hst e0.1.1 e0.1.2.1 e0.1.2.2.1 e0.1.2.2.2 e0.2.2.1 false (by unfold nw2; have := stdL_len S s0 (sP S s0).length; have := mvN_len S s0 i; simp; omega)) (pc := 154) dX5_move_154 rfl rfl (Nat.le_of_ble_eq_true rfl) (by decide) (by decide) (Nat.le_refl _) (Nat.le_refl _) ?_
          refine k_open fun fi2 ai2 al2 hr2 => ?_
          refine k_aload_n (pc := 157) dX5_move_157 rfl ?_
          refine mg_23 hst (pc := 158) dX5_move_158 ?_
          refine k_iload_n (pc := 161) dX5_move_161 rfl ?_
          refine k_iconst (v := 0) (pc := 162) dX5_move_162 (by decide) ?_
          refine m_zast hst rfl (pc := 163) dX5_move_163 rfl (by simp only [mln]; omega) (by decide) rfl ?_
          refine k_aload_n (pc := 164) dX5_move_164 rfl ?_
          refine mg_72 hst (pc := 165) dX5_move_165 ?_
          refine k_iconst (v := 5) (pc := 168) dX5_move_168 (by decide) ?_
          refine k_dup2 (pc := 169) dX5_move_169 rfl rfl ?_
          refine m_iald hst rfl (pc := 170) dX5_move_170 (show (5 : Int32) = nI 5 from rfl) (by decide) (by decide) ?_
          refine k_iconst (v := 1) (pc := 171) dX5_move_171 (by decide) ?_
          refine k_iadd (pc := 172) dX5_move_172 ?_
          refine m_iast hst rfl (pc := 173) dX5_move_173 (show (5 : Int32) = nI 5 from rfl) (by decide) (by decide) ?_
          refine k_iinc (pc := 174) dX5_move_174 rfl (nI_inc _) (by decide) rfl ?_
          refine k_goto (tgt := 91) (pc := 177) dX5_move_177 (by decide) ?_
          have hR := rep_inc (rep_kill hr2 i) (j := 5) (by decide)
          have e1 : mv2 S s0 (i + 1) = uC (uL (mv2 S s0 i) (killAt (sL (mv2 S s0 i)) i)) (inc (sC (uL (mv2 S s0 i) (killAt (sL (mv2 S s0 i)) i))) 5) := by
            unfold mv2
            rw [mvL_kill he0 hin, hnx, hin]
            simp only [uL_C, uC_C, uC_L, uL_L, addN_inc, if_true, List.length_append, List.length_singleton]
            rfl
          have e2 : nw2 S s0 (i + 1) = nw2 S s0 i ++ [((e0.1.1, e0.1.2.1, e0.1.2.2.1, e0.1.2.2.2), e0.2.2.1, false)] := by
            unfold nw2
            rw [hnx, hin]
            simp
          rw [e1, e2] at step
          exact k_close hR step
  have loop1 : ∀ j i : Nat, i + j = (sP S s0).length → K p l e s m ([.ref mo, .int (nI s0)] : List Value).toArray below meth c (rmm 2 0 0) yX5_move.cls cX5_move 4 (none) G A (MQ below (Qd (none) (MPS G A mo ad sl (moveS S s0)) A) ([.ref mo, .int (nI s0)] : List Value).toArray s 0 0 A) 0 0 (MPN G A mo ad sl (uC S (inc (sC S) 11)) (stdL S s0 i)) 18 [some (.ref mo), some (.int (nI s0)), some (.int (nI i)), none] [] := by
    intro j
    induction j with
    | zero =>
      intro i hi
      have hi6 : i = (sP S s0).length := by omega
      subst hi6
      have l2 := loop2 (sL S).length 0 (by omega)
      have e1 : mv2 S s0 0 = uC S (inc (sC S) 11) := by unfold mv2 mvL mvN; simp [addN_0]; rfl
      have e2 : nw2 S s0 0 = stdL S s0 (sP S s0).length := by unfold nw2 mvN; simp
      rw [e1, e2] at l2
      refine k_open fun fi ai al h => ?_
      obtain ⟨p1, p2, p3⟩ := h.2.2.1 s0 hs
      rw [uC_P] at p1
      refine k_iload_n (pc := 18) dX5_move_18 rfl ?_
      refine k_aload_n (pc := 19) dX5_move_19 rfl ?_
      refine mg_51 hst (pc := 20) dX5_move_20 ?_
      refine k_iload_n (pc := 23) dX5_move_23 rfl ?_
      refine m_iald hst rfl (pc := 24) dX5_move_24 rfl hs (by decide) ?_
      rw [p1]
      refine k_icmp_ge (tgt := 89) (pc := 25) dX5_move_25 (by decide) (fun _ => ?_) (fun c => absurd (nI_le (Nat.le_refl _) (by omega)) c)
      refine k_iconst (v := 0) (pc := 89) dX5_move_89 (by decide) ?_
      refine k_istore_n (pc := 90) dX5_move_90 (by decide) rfl ?_
      exact k_close h l2
    | succ j ih =>
      intro i hi
      have step := ih (i + 1) (by omega)
      obtain ⟨e0, he0⟩ : ∃ e0, (sP S s0)[i]? = some e0 := ⟨(sP S s0)[i], List.getElem?_eq_getElem (by omega)⟩
      rw [stdL_next he0] at step
      refine k_open fun fi ai al h => ?_
      obtain ⟨p1, p2, p3⟩ := h.2.2.1 s0 hs
      rw [uC_P] at p1 p3
      obtain ⟨c0, -⟩ := pent_k (p3 i e0 he0)
      refine k_iload_n (pc := 18) dX5_move_18 rfl ?_
      refine k_aload_n (pc := 19) dX5_move_19 rfl ?_
      refine mg_51 hst (pc := 20) dX5_move_20 ?_
      refine k_iload_n (pc := 23) dX5_move_23 rfl ?_
      refine m_iald hst rfl (pc := 24) dX5_move_24 rfl hs (by decide) ?_
      rw [p1]
      refine k_icmp_ge (tgt := 89) (pc := 25) dX5_move_25 (by decide) (fun c => absurd c (nI_ge (by omega) (by omega))) (fun _ => ?_)
      refine k_bipush (v := 8) (pc := 28) dX5_move_28 (by decide) ?_
      refine k_iload_n (pc := 30) dX5_move_30 rfl ?_
      refine k_imul (pc := 31) dX5_move_31 ?_
      refine k_iload_n (pc := 32) dX5_move_32 rfl ?_
      refine k_iadd (pc := 33) dX5_move_33 ?_
      rw [nI_8]
      refine k_istore_n (pc := 34) dX5_move_34 (by decide) rfl ?_
      refine k_aload_n (pc := 35) dX5_move_35 rfl ?_
      refine k_aload_n (pc := 36) dX5_move_36 rfl ?_
      refine mg_36 hst (pc := 37) dX5_move_37 ?_
      refine k_iload_n (pc := 40) dX5_move_40 rfl ?_
      refine m_lald hst rfl (pc := 41) dX5_move_41 rfl (by simp only [mln]; omega) (by decide) ?_
      rw [c0]
      refine k_close h ?_
      refine k_callM sv_X5_133 hst (n_inLog hst e0.1.1) (pc := 42) dX5_move_42 rfl rfl (Nat.le_of_ble_eq_true rfl) (by decide) (by decide) (Nat.le_refl _) (Nat.le_refl _) ?_
      rw [show sL (uC S (inc (sC S) 11)) = sL S from rfl]
      cases hx : lastIx (sL S) e0.1.1 (sL S).length with
      | some q =>
        rw [hx] at step
        have hq : q < 2 ^ 31 := by
          have : ∀ n q, lastIx (sL S) e0.1.1 n = some q → q < n := by
            intro n
            induction n with
            | zero => intro q hq; cases hq
            | succ n ih2 =>
              intro q hq
              simp only [lastIx] at hq
              split at hq
              · split at hq
                · cases hq; omega
                · have := ih2 q hq; omega
              · have := ih2 q hq; omega
          have := this _ _ hx
          omega
        refine k_if_ge (tgt := 83) (pc := 45) dX5_move_45 (by decide) (fun _ => ?_) (fun c => absurd (nI_pos' hq) c)
        refine k_iinc (pc := 83) dX5_move_83 rfl (nI_inc _) (by decide) rfl ?_
        refine k_goto (tgt := 18) (pc := 86) dX5_move_86 (by decide) ?_
        refine k_lv (lv2 := [some (.ref mo), some (.int (nI s0)), some (.int (nI (i + 1))), none]) (fun i v h => by match i, h with | 0, h => exact h | 1, h => exact h | 2, h => exact h | 3, h => cases h | i + 4, h => cases h) ?_
        simp only [Option.isNone_some, if_false, List.append_nil, Bool.false_eq_true] at step
        exact step
      | none =>
        rw [hx] at step
        refine k_if_ge (tgt := 83) (pc := 45) dX5_move_45 (by decide) (fun c => absurd c (by decide)) (fun _ => ?_)
        refine k_open fun fi1 ai1 al1 hr1 => ?_
        obtain ⟨p1, p2, p3⟩ := hr1.2.2.1 s0 hs
        rw [uC_P] at p3
        obtain ⟨d0, d1, d2, d3, d4⟩ := pent_k (p3 i e0 he0)
        refine k_aload_n (pc := 48) dX5_move_48 rfl ?_
        refine k_aload_n (pc := 49) dX5_move_49 rfl ?_
        refine mg_36 hst (pc := 50) dX5_move_50 ?_
        refine k_iload_n (pc := 53) dX5_move_53 rfl ?_
        refine m_lald hst rfl (pc := 54) dX5_move_54 rfl (by simp only [mln]; omega) (by decide) ?_
        refine k_aload_n (pc := 55) dX5_move_55 rfl ?_
        refine mg_39 hst (pc := 56) dX5_move_56 ?_
        refine k_iload_n (pc := 59) dX5_move_59 rfl ?_
        refine m_iald hst rfl (pc := 60) dX5_move_60 rfl (by simp only [mln]; omega) (by decide) ?_
        refine k_aload_n (pc := 61) dX5_move_61 rfl ?_
        refine mg_42 hst (pc := 62) dX5_move_62 ?_
        refine k_iload_n (pc := 65) dX5_move_65 rfl ?_
        refine m_iald hst rfl (pc := 66) dX5_move_66 rfl (by simp only [mln]; omega) (by decide) ?_
        refine k_aload_n (pc := 67) dX5_move_67 rfl ?_
        refine mg_45 hst (pc := 68) dX5_move_68 ?_
        refine k_iload_n (pc := 71) dX5_move_71 rfl ?_
        refine m_iald hst rfl (pc := 72) dX5_move_72 rfl (by simp only [mln]; omega) (by decide) ?_
        refine k_aload_n (pc := 73) dX5_move_73 rfl ?_
        refine mg_48 hst (pc := 74) dX5_move_74 ?_
        refine k_iload_n (pc := 77) dX5_move_77 rfl ?_
        refine m_zald hst rfl (pc := 78) dX5_move_78 rfl (by simp only [mln]; omega) (by decide) ?_
        refine k_iconst (v := 1) (pc := 79) dX5_move_79 (by decide) ?_
        rw [d0, d1, d2, d3, d4]
        refine k_close hr1 ?_
        refine k_callM sv_X5_136 hst (c_addNew hst e0.1.1 e0.1.2.1 e0.1.2.2.1 e0.1.2.2.2 e0.2 true (by have := stdL_len S s0 i; omega)) (pc := 80) dX5_move_80 rfl rfl (Nat.le_of_ble_eq_true rfl) (by decide) (by decide) (Nat.le_refl _) (Nat.le_refl _) ?_
        refine k_iinc (pc := 83) dX5_move_83 rfl (nI_inc _) (by decide) rfl ?_
        refine k_goto (tgt := 18) (pc := 86) dX5_move_86 (by decide) ?_
        refine k_lv (lv2 := [some (.ref mo), some (.int (nI s0)), some (.int (nI (i + 1))), none]) (fun i v h => by match i, h with | 0, h => exact h | 1, h => exact h | 2, h => exact h | 3, h => cases h | i + 4, h => cases h) ?_
        exact step
  refine k_aload_n (pc := 0) dX5_move_0 rfl ?_
  refine k_iconst (v := 0) (pc := 1) dX5_move_1 (by decide) ?_
  refine mp_130 hst (pc := 2) dX5_move_2 rfl rfl ?_
  refine k_aload_n (pc := 5) dX5_move_5 rfl ?_
  refine mg_72 hst (pc := 6) dX5_move_6 ?_
  refine k_bipush (v := 11) (pc := 9) dX5_move_9 (by decide) ?_
  refine k_dup2 (pc := 11) dX5_move_11 rfl rfl ?_
  refine m_iald hst rfl (pc := 12) dX5_move_12 (show (11 : Int32) = nI 11 from rfl) (by decide) (by decide) ?_
  refine k_iconst (v := 1) (pc := 13) dX5_move_13 (by decide) ?_
  refine k_iadd (pc := 14) dX5_move_14 ?_
  refine m_iast hst rfl (pc := 15) dX5_move_15 (show (11 : Int32) = nI 11 from rfl) (by decide) (by decide) ?_
  refine k_iconst (v := 0) (pc := 16) dX5_move_16 (by decide) ?_
  refine k_istore_n (pc := 17) dX5_move_17 (by decide) rfl ?_
  have l0 := loop1 (sP S s0).length 0 (by omega)
  refine k_close (S := uC S (inc (sC S) 11)) (nw := stdL S s0 0) ?_ l0
  have hr := rep_inc h0 (j := 11) (by decide)
  obtain ⟨g1, -, g3, g4⟩ := hr
  exact ⟨g1, ⟨rfl, by simp [stdL], fun k e he => by simp [stdL] at he⟩, g3, g4⟩
end REFI
