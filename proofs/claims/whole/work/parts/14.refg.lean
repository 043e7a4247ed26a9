theorem oI_some_lt {k : Nat} (h : k < 2 ^ 31) : ¬ oI (some k) < 0 := nI_pos h
theorem rep_wp {S : SS} {nw : List Ne} {fi : Nat → Int32} {ai ai' : Nat → Nat → Int32} {al al' : Nat → Nat → Int64} {s0 : Nat} (h : Rep S nw fi ai al) (hs : s0 < 64) (h8 : nw.length ≤ 8)
    (hk : ∀ k (e : Ne), nw[k]? = some e → pent ai' al' (8 * s0 + k) = penc (e.1, false)) (ho : ∀ p, (p < 8 * s0 ∨ 8 * s0 + 8 ≤ p) → pent ai' al' p = pent ai al p) (hq : ∀ q, q < 12 ∨ 15 < q → ai' q = ai q) (hq2 : ∀ q, q ≠ 11 → al' q = al q) :
    Rep (uP S (va_up (sP S) s0 (nw.map (fun e => (e.1, false))))) nw fi (up2 ai' 16 s0 (fi 23)) al' := by
  obtain ⟨⟨l1, l2, l3⟩, ⟨n1, n2, n3⟩, hP, r1, r2, r3, r4, r5⟩ := h
  refine ⟨⟨l1, l2, ?_⟩, ⟨n1, n2, ?_⟩, ?_, r1, r2, ?_, ?_, r5⟩
  · intro k e he
    have := l3 k e he
    simpa [ent, up2_at, hq 1 (by decide), hq 2 (by decide), hq 3 (by decide), hq 4 (by decide), hq 5 (by decide), hq 6 (by decide), hq2 0 (by decide)] using this
  · intro k e he
    have := n3 k e he
    simpa [nent, up2_at, hq 18 (by decide), hq 19 (by decide), hq 20 (by decide), hq 21 (by decide), hq 22 (by decide), hq2 17 (by decide)] using this
  · intro s hs2
    rw [uP_P]
    by_cases hss : s = s0
    · subst hss
      rw [va_up_self]
      refine ⟨by simp [up2_at, n1], by simpa using h8, fun k e he => ?_⟩
      simp only [List.getElem?_map, Option.map_eq_some_iff] at he
      obtain ⟨e0, he0, rfl⟩ := he
      have := hk k e0 he0
      simpa [pent, up2_at] using this
    · rw [va_up_ne _ _ hss]
      obtain ⟨p1, p2, p3⟩ := hP s hs2
      refine ⟨by simp [up2_at, hss, hq 16 (by decide), p1], p2, fun k e he => ?_⟩
      have hk8 : k < 8 := Nat.lt_of_lt_of_le (List.getElem?_eq_some_iff.mp he).1 p2
      have h1 := ho (8 * s + k) (by omega)
      have h2 := p3 k e he
      rw [← h1] at h2
      simpa [pent, up2_at] using h2
  · intro j hj
    simp only [up2_at, hq 8 (by decide), show ¬ (8 : Nat) = 16 by decide, false_and, if_false]
    exact r3 j hj
  · intro j hj
    simp only [up2_at, hq 24 (by decide), show ¬ (24 : Nat) = 16 by decide, false_and, if_false]
    exact r4 j hj
/-- writePage in its midst -/
def WpI (nw : List Ne) (s0 : Nat) (ai ai' : Nat → Nat → Int32) (al al' : Nat → Nat → Int64) (i : Nat) : Prop := (∀ k (e : Ne), k < i → nw[k]? = some e → pent ai' al' (8 * s0 + k) = penc (e.1, false)) ∧ (∀ p, (p < 8 * s0 ∨ 8 * s0 + 8 ≤ p) → pent ai' al' p = pent ai al p) ∧ (∀ q, q < 12 ∨ 15 < q → ai' q = ai q) ∧ (∀ q, q ≠ 11 → al' q = al q)
theorem wp_step {nw : List Ne} {s0 : Nat} {ai ai' : Nat → Nat → Int32} {al al' : Nat → Nat → Int64} {i : Nat} {e : Ne} (h : WpI nw s0 ai ai' al al' i) (hi : i < 8) (he : nw[i]? = some e) (hn : nent ai al i = nenc e) {x0 : Int64} {x1 x2 x3 : Int32} (h0 : x0 = al' 17 i) (h1 : x1 = ai' 18 i) (h2 : x2 = ai' 19 i) (h3 : x3 = ai' 20 i) : WpI nw s0 ai (up2 (up2 (up2 (up2 ai' 12 (8 * s0 + i) x1) 13 (8 * s0 + i) x2) 14 (8 * s0 + i) x3) 15 (8 * s0 + i) 0) al (up2 al' 11 (8 * s0 + i) x0) (i + 1) := by
  obtain ⟨a1, a2, a3, a4⟩ := h
  obtain ⟨c0, c1, c2, c3, -⟩ := nent_k hn
  rw [a4 17 (by decide), c0] at h0
  rw [a3 18 (by decide), c1] at h1
  rw [a3 19 (by decide), c2] at h2
  rw [a3 20 (by decide), c3] at h3
  refine ⟨fun k e' hk hk2 => ?_, fun p hp => ?_, fun q hq => ?_, fun q hq => ?_⟩
  · by_cases hki : k = i
    · subst hki
      cases he.symm.trans hk2
      simp [pent, penc, up2_at, bI, h0, h1, h2, h3]
    · have := a1 k e' (by omega) hk2
      simpa [pent, up2_at, show ¬ k = i from hki] using this
  · have := a2 p hp
    have hne : ¬ p = 8 * s0 + i := by omega
    simpa [pent, up2_at, hne] using this
  · rw [← a3 q hq]
    funext b
    simp [up2_at, show ¬ q = 12 by omega, show ¬ q = 13 by omega, show ¬ q = 14 by omega, show ¬ q = 15 by omega]
  · rw [← a4 q hq]
    funext b
    simp [up2_at, hq]
section REFG
variable {p : Program} {l : Launch} {e : Env} {s : State} {m : MethodId} {args : Array Value} {below : List Frame} {meth : Method} {c : Code} {R : Room} {G : Gd} {A : Nat → Prop} {Q : State → Prop} {k n : Nat} {mo : Nat} {ad sl : Nat → Nat} {S : SS} {nw : List Ne}
set_option maxRecDepth 4000 in
theorem c_dropOne (hst : MSt mo ad sl) (hne : 0 < nw.length) : Ct 0 0 0 yX5_dropOne cX5_dropOne 5 (none) G A [.ref mo] (MPN G A mo ad sl S nw) (none) (MPN G A mo ad sl (uC S (dropS nw (sC S)).2) (dropS nw (sC S)).1) := by
  refine Ct.of 4 rfl rfl (Nat.le_of_ble_eq_true rfl) ?_
  intro p l e s m below meth c hini
  refine k_open fun fi ai al h => ?_
  have n1 := h.2.1.1
  have n2 := h.2.1.2.1
  have n3 := h.2.1.2.2
  have tail : ∀ (x1 x2 w32 : Int32) (a wh : Nat), a < nw.length → wh < 12 → w32 = nI wh → dropS nw (sC S) = (nw.eraseIdx a, inc (sC S) wh) → K p l e s m ([.ref mo] : List Value).toArray below meth c (rmm 0 0 0) yX5_dropOne.cls cX5_dropOne 5 (none) G A (MQ below (Qd (none) (MPN G A mo ad sl (uC S (dropS nw (sC S)).2) (dropS nw (sC S)).1) A) ([.ref mo] : List Value).toArray s 0 0 A) 0 0 (MH G A mo ad sl fi ai al) 102 [some (.ref mo), some (.int x1), some (.int x2), some (.int (nI a)), none] [.int w32, .ref (ad 24)] := by
    intro x1 x2 w32 a wh ha hw hw2 hd
    have hR := rep_drop h ha hw
    rw [hd]
    refine k_dup2 (pc := 102) dX5_dropOne_102 rfl rfl ?_
    refine m_iald hst rfl (pc := 103) dX5_dropOne_103 hw2 (by simpa [mln] using hw) (by decide) ?_
    refine k_iconst (v := 1) (pc := 104) dX5_dropOne_104 (by decide) ?_
    refine k_iadd (pc := 105) dX5_dropOne_105 ?_
    refine m_iast hst rfl (pc := 106) dX5_dropOne_106 hw2 (by simpa [mln] using hw) (by decide) ?_
    refine k_aload_n (pc := 107) dX5_dropOne_107 rfl ?_
    refine k_dup (pc := 108) dX5_dropOne_108 rfl ?_
    refine mg_130 hst (pc := 109) dX5_dropOne_109 ?_
    refine k_iconst (v := 1) (pc := 112) dX5_dropOne_112 (by decide) ?_
    refine k_isub (pc := 113) dX5_dropOne_113 ?_
    refine mp_130 hst (pc := 114) dX5_dropOne_114 rfl rfl ?_
    refine k_iload_n (pc := 117) dX5_dropOne_117 rfl ?_
    refine k_istore (pc := 118) dX5_dropOne_118 (by decide) rfl ?_
    have hsh := w_shift (p := p) (l := l) (e := e) (s := s) (m := m) (args := ([.ref mo] : List Value).toArray) (below := below) (meth := meth) (c := c) (R := rmm 0 0 0) (G := G) (A := A) (Q := MQ below (Qd none (MPN G A mo ad sl (uC S (inc (sC S) wh)) (nw.eraseIdx a)) A) ([.ref mo] : List Value).toArray s 0 0 A) (k := 0) (n := 0) hst (fi := va_up fi 23 (fi 23 - 1)) (ai := up2 ai 24 wh (ai 24 wh + 1)) (al := al) (x1 := x1) (x2 := x2) (a := a) (N := nw.length - 1) (by
      rw [va_up_self, n1]
      obtain ⟨m, hm⟩ : ∃ m, nw.length = m + 1 := ⟨nw.length - 1, by omega⟩
      rw [hm]
      exact nI_pred m) (by omega) (by
      exact k_vret (pc := 231) dX5_dropOne_231 (MPN.of hR) (Nat.le_refl _) (Nat.le_refl _)
      ) (fun b hb => by
        have := (nent_k (n3 b nw[b] (List.getElem?_eq_getElem (by omega)))).2.2.2.2.1
        exact ⟨_, by simpa [up2_at] using this⟩) (fun b hb => by
        have := (nent_k (n3 b nw[b] (List.getElem?_eq_getElem (by omega)))).2.2.2.2.2
        exact ⟨_, by simpa [up2_at] using this⟩) (nw.length - 1 - a) a (by omega) (Nat.le_refl _)
    rw [shA_0, shA_0] at hsh
    exact hsh
  have fin : K p l e s m ([.ref mo] : List Value).toArray below meth c (rmm 0 0 0) yX5_dropOne.cls cX5_dropOne 5 (none) G A (MQ below (Qd (none) (MPN G A mo ad sl (uC S (dropS nw (sC S)).2) (dropS nw (sC S)).1) A) ([.ref mo] : List Value).toArray s 0 0 A) 0 0 (MH G A mo ad sl fi ai al) 60 [some (.ref mo), some (.int (oI (nw.findIdx? (fun e => e.2.2 && !e.2.1)))), some (.int (oI (nw.findIdx? (fun e => e.2.2)))), none, none] [] := by
    cases h1 : nw.findIdx? (fun e => e.2.2 && !e.2.1) with
    | some a =>
      have ha := findIdx?_ltl h1
      have hd : dropS nw (sC S) = (nw.eraseIdx a, inc (sC S) 6) := by simp only [dropS, h1]
      refine k_iload_n (pc := 60) dX5_dropOne_60 rfl ?_
      refine k_if_lt (tgt := 68) (pc := 61) dX5_dropOne_61 (by decide) (fun c => absurd c ((oI_some_lt (k := a) (by omega)))) (fun _ => ?_)
      refine k_iload_n (pc := 64) dX5_dropOne_64 rfl ?_
      refine k_goto (tgt := 77) (pc := 65) dX5_dropOne_65 (by decide) ?_
      refine k_istore_n (pc := 77) dX5_dropOne_77 (by decide) rfl ?_
      refine k_aload_n (pc := 78) dX5_dropOne_78 rfl ?_
      refine mg_72 hst (pc := 79) dX5_dropOne_79 ?_
      refine k_iload_n (pc := 82) dX5_dropOne_82 rfl ?_
      refine k_if_lt (tgt := 91) (pc := 83) dX5_dropOne_83 (by decide) (fun c => absurd c ((oI_some_lt (k := a) (by omega)))) (fun _ => ?_)
      refine k_bipush (v := 6) (pc := 86) dX5_dropOne_86 (by decide) ?_
      refine k_goto (tgt := 102) (pc := 88) dX5_dropOne_88 (by decide) ?_
      exact tail _ _ _ a 6 ha (by decide) rfl hd
    | none =>
      cases h2 : nw.findIdx? (fun e => e.2.2) with
      | some a =>
        have ha := findIdx?_ltl h2
        have hd : dropS nw (sC S) = (nw.eraseIdx a, inc (sC S) 7) := by simp only [dropS, h1, h2]
        refine k_iload_n (pc := 60) dX5_dropOne_60 rfl ?_
        refine k_if_lt (tgt := 68) (pc := 61) dX5_dropOne_61 (by decide) (fun _ => ?_) (fun c => absurd ((show oI none < 0 by decide)) c)
        refine k_iload_n (pc := 68) dX5_dropOne_68 rfl ?_
        refine k_if_lt (tgt := 76) (pc := 69) dX5_dropOne_69 (by decide) (fun c => absurd c ((oI_some_lt (k := a) (by omega)))) (fun _ => ?_)
        refine k_iload_n (pc := 72) dX5_dropOne_72 rfl ?_
        refine k_goto (tgt := 77) (pc := 73) dX5_dropOne_73 (by decide) ?_
        refine k_istore_n (pc := 77) dX5_dropOne_77 (by decide) rfl ?_
        refine k_aload_n (pc := 78) dX5_dropOne_78 rfl ?_
        refine mg_72 hst (pc := 79) dX5_dropOne_79 ?_
        refine k_iload_n (pc := 82) dX5_dropOne_82 rfl ?_
        refine k_if_lt (tgt := 91) (pc := 83) dX5_dropOne_83 (by decide) (fun _ => ?_) (fun c => absurd ((show oI none < 0 by decide)) c)
        refine k_iload_n (pc := 91) dX5_dropOne_91 rfl ?_
        refine k_if_lt (tgt := 100) (pc := 92) dX5_dropOne_92 (by decide) (fun c => absurd c ((oI_some_lt (k := a) (by omega)))) (fun _ => ?_)
        refine k_bipush (v := 7) (pc := 95) dX5_dropOne_95 (by decide) ?_
        refine k_goto (tgt := 102) (pc := 97) dX5_dropOne_97 (by decide) ?_
        exact tail _ _ _ a 7 ha (by decide) rfl hd
      | none =>
        have hd : dropS nw (sC S) = (nw.eraseIdx 0, inc (sC S) 8) := by simp only [dropS, h1, h2]
        refine k_iload_n (pc := 60) dX5_dropOne_60 rfl ?_
        refine k_if_lt (tgt := 68) (pc := 61) dX5_dropOne_61 (by decide) (fun _ => ?_) (fun c => absurd ((show oI none < 0 by decide)) c)
        refine k_iload_n (pc := 68) dX5_dropOne_68 rfl ?_
        refine k_if_lt (tgt := 76) (pc := 69) dX5_dropOne_69 (by decide) (fun _ => ?_) (fun c => absurd ((show oI none < 0 by decide)) c)
        refine k_iconst (v := 0) (pc := 76) dX5_dropOne_76 (by decide) ?_
        refine k_istore_n (pc := 77) dX5_dropOne_77 (by decide) rfl ?_
        refine k_aload_n (pc := 78) dX5_dropOne_78 rfl ?_
        refine mg_72 hst (pc := 79) dX5_dropOne_79 ?_
        refine k_iload_n (pc := 82) dX5_dropOne_82 rfl ?_
        refine k_if_lt (tgt := 91) (pc := 83) dX5_dropOne_83 (by decide) (fun _ => ?_) (fun c => absurd ((show oI none < 0 by decide)) c)
        refine k_iload_n (pc := 91) dX5_dropOne_91 rfl ?_
        refine k_if_lt (tgt := 100) (pc := 92) dX5_dropOne_92 (by decide) (fun _ => ?_) (fun c => absurd ((show oI none < 0 by decide)) c)
        refine k_bipush (v := 8) (pc := 100) dX5_dropOne_100 (by decide) ?_
        exact tail _ _ _ 0 8 hne (by decide) rfl hd
  have loop : ∀ i : Nat, i ≤ nw.length → K p l e s m ([.ref mo] : List Value).toArray below meth c (rmm 0 0 0) yX5_dropOne.cls cX5_dropOne 5 (none) G A (MQ below (Qd (none) (MPN G A mo ad sl (uC S (dropS nw (sC S)).2) (dropS nw (sC S)).1) A) ([.ref mo] : List Value).toArray s 0 0 A) 0 0 (MH G A mo ad sl fi ai al) 11 [some (.ref mo), some (.int (oI (fromIx (fun e => e.2.2 && !e.2.1) nw i))), some (.int (oI (fromIx (fun e => e.2.2) nw i))), some (.int (pd i)), none] [] := by
    intro i
    induction i with
    | zero =>
      intro _
      refine k_iload_n (pc := 11) dX5_dropOne_11 rfl ?_
      refine k_if_lt (tgt := 60) (pc := 12) dX5_dropOne_12 (by decide) (fun _ => ?_) (fun c => absurd ((show pd 0 < 0 by decide)) c)
      rw [fromIx_0, fromIx_0]
      exact k_lv (fun i v h => by match i, h with | 0, h => exact h | 1, h => exact h | 2, h => exact h | 3, h => cases h | 4, h => cases h | i + 5, h => cases h) fin
    | succ i ih =>
      intro hi
      have step := ih (by omega)
      obtain ⟨e0, he0⟩ : ∃ e0, nw[i]? = some e0 := ⟨nw[i], List.getElem?_eq_getElem (by omega)⟩
      obtain ⟨-, -, -, -, c21, c22⟩ := nent_k (n3 i e0 he0)
      rw [fromIx_step he0, fromIx_step he0] at step
      refine k_iload_n (pc := 11) dX5_dropOne_11 rfl ?_
      refine k_if_lt (tgt := 60) (pc := 12) dX5_dropOne_12 (by decide) (fun c => absurd c ((show ¬ pd (i + 1) < 0 from nI_pos (by omega)))) (fun _ => ?_)
      refine k_aload_n (pc := 15) dX5_dropOne_15 rfl ?_
      refine mg_69 hst (pc := 16) dX5_dropOne_16 ?_
      refine k_iload_n (pc := 19) dX5_dropOne_19 rfl ?_
      refine m_zald hst rfl (pc := 20) dX5_dropOne_20 (show pd (i + 1) = nI i from rfl) (by simp only [mln]; omega) (by decide) ?_
      rw [c22]
      refine k_if_eq (tgt := 37) (pc := 21) dX5_dropOne_21 (by decide) (fun h1 => ?_) (fun h1 => ?_)
      · have hb := bI_f h1
        simp only [hb, Bool.false_and] at step
        refine k_iload_n (pc := 37) dX5_dropOne_37 rfl ?_
        refine k_istore_n (pc := 38) dX5_dropOne_38 (by decide) rfl ?_
        refine k_aload_n (pc := 39) dX5_dropOne_39 rfl ?_
        refine mg_69 hst (pc := 40) dX5_dropOne_40 ?_
        refine k_iload_n (pc := 43) dX5_dropOne_43 rfl ?_
        refine m_zald hst rfl (pc := 44) dX5_dropOne_44 (show pd (i + 1) = nI i from rfl) (by simp only [mln]; omega) (by decide) ?_
        rw [c22]
        refine k_if_eq (tgt := 52) (pc := 45) dX5_dropOne_45 (by decide) (fun _ => ?_) (fun c => absurd (h1) c)
        refine k_iload_n (pc := 52) dX5_dropOne_52 rfl ?_
        refine k_istore_n (pc := 53) dX5_dropOne_53 (by decide) rfl ?_
        refine k_iinc (pc := 54) dX5_dropOne_54 rfl (pd_dec i) (by decide) rfl ?_
        refine k_goto (tgt := 11) (pc := 57) dX5_dropOne_57 (by decide) ?_
        exact step
      · have hb := bI_t h1
        simp only [hb, Bool.true_and] at step
        refine k_aload_n (pc := 24) dX5_dropOne_24 rfl ?_
        refine mg_66 hst (pc := 25) dX5_dropOne_25 ?_
        refine k_iload_n (pc := 28) dX5_dropOne_28 rfl ?_
        refine m_zald hst rfl (pc := 29) dX5_dropOne_29 (show pd (i + 1) = nI i from rfl) (by simp only [mln]; omega) (by decide) ?_
        rw [c21]
        refine k_if_ne (tgt := 37) (pc := 30) dX5_dropOne_30 (by decide) (fun h2 => ?_) (fun h2 => ?_)
        · have hb2 := bI_t h2
          simp only [hb2, Bool.not_true] at step
          refine k_iload_n (pc := 37) dX5_dropOne_37 rfl ?_
          refine k_istore_n (pc := 38) dX5_dropOne_38 (by decide) rfl ?_
          refine k_aload_n (pc := 39) dX5_dropOne_39 rfl ?_
          refine mg_69 hst (pc := 40) dX5_dropOne_40 ?_
          refine k_iload_n (pc := 43) dX5_dropOne_43 rfl ?_
          refine m_zald hst rfl (pc := 44) dX5_dropOne_44 (show pd (i + 1) = nI i from rfl) (by simp only [mln]; omega) (by decide) ?_
          rw [c22]
          refine k_if_eq (tgt := 52) (pc := 45) dX5_dropOne_45 (by decide) (fun c => absurd c (h1)) (fun _ => ?_)
          refine k_iload_n (pc := 48) dX5_dropOne_48 rfl ?_
          refine k_goto (tgt := 53) (pc := 49) dX5_dropOne_49 (by decide) ?_
          refine k_istore_n (pc := 53) dX5_dropOne_53 (by decide) rfl ?_
          refine k_iinc (pc := 54) dX5_dropOne_54 rfl (pd_dec i) (by decide) rfl ?_
          refine k_goto (tgt := 11) (pc := 57) dX5_dropOne_57 (by decide) ?_
          exact step
        · have hb2 := bI_f h2
          simp only [hb2, Bool.not_false] at step
          refine k_iload_n (pc := 33) dX5_dropOne_33 rfl ?_
          refine k_goto (tgt := 38) (pc := 34) dX5_dropOne_34 (by decide) ?_
          refine k_istore_n (pc := 38) dX5_dropOne_38 (by decide) rfl ?_
          refine k_aload_n (pc := 39) dX5_dropOne_39 rfl ?_
          refine mg_69 hst (pc := 40) dX5_dropOne_40 ?_
          refine k_iload_n (pc := 43) dX5_dropOne_43 rfl ?_
          refine m_zald hst rfl (pc := 44) dX5_dropOne_44 (show pd (i + 1) = nI i from rfl) (by simp only [mln]; omega) (by decide) ?_
          rw [c22]
          refine k_if_eq (tgt := 52) (pc := 45) dX5_dropOne_45 (by decide) (fun c => absurd c (h1)) (fun _ => ?_)
          refine k_iload_n (pc := 48) dX5_dropOne_48 rfl ?_
          refine k_goto (tgt := 53) (pc := 49) dX5_dropOne_49 (by decide) ?_
          refine k_istore_n (pc := 53) dX5_dropOne_53 (by decide) rfl ?_
          refine k_iinc (pc := 54) dX5_dropOne_54 rfl (pd_dec i) (by decide) rfl ?_
          refine k_goto (tgt := 11) (pc := 57) dX5_dropOne_57 (by decide) ?_
          exact step
  have l0 := loop nw.length (Nat.le_refl _)
  rw [fromIx_end, fromIx_end, ← pd_sub] at l0
  refine k_iconst (v := -1) (pc := 0) dX5_dropOne_0 (by decide) ?_
  refine k_istore_n (pc := 1) dX5_dropOne_1 (by decide) rfl ?_
  refine k_iconst (v := -1) (pc := 2) dX5_dropOne_2 (by decide) ?_
  refine k_istore_n (pc := 3) dX5_dropOne_3 (by decide) rfl ?_
  refine k_aload_n (pc := 4) dX5_dropOne_4 rfl ?_
  refine mg_130 hst (pc := 5) dX5_dropOne_5 ?_
  refine k_iconst (v := 1) (pc := 8) dX5_dropOne_8 (by decide) ?_
  refine k_isub (pc := 9) dX5_dropOne_9 ?_
  refine k_istore_n (pc := 10) dX5_dropOne_10 (by decide) rfl ?_
  rw [n1]
  exact l0
set_option maxRecDepth 4000 in
theorem c_writePage (hst : MSt mo ad sl) (s0 : Nat) (hs : s0 < 64) (h8 : nw.length ≤ 8) : Ct 0 0 0 yX5_writePage cX5_writePage 4 (none) G A [.ref mo, .int (nI s0)] (MPN G A mo ad sl S nw) (none) (MPN G A mo ad sl (uP S (va_up (sP S) s0 (nw.map (fun e => (e.1, false))))) nw) := by
  refine Ct.of 2 rfl rfl (Nat.le_of_ble_eq_true rfl) ?_
  intro p l e s m below meth c hini
  refine k_open fun fi ai al h => ?_
  have n1 := h.2.1.1
  have n3 := h.2.1.2.2
  have loop : ∀ j i : Nat, i + j = nw.length → ∀ (z : Option Value) ai' al', WpI nw s0 ai ai' al al' i → K p l e s m ([.ref mo, .int (nI s0)] : List Value).toArray below meth c (rmm 0 0 0) yX5_writePage.cls cX5_writePage 4 (none) G A (MQ below (Qd (none) (MPN G A mo ad sl (uP S (va_up (sP S) s0 (nw.map (fun e => (e.1, false))))) nw) A) ([.ref mo, .int (nI s0)] : List Value).toArray s 0 0 A) 0 0 (MH G A mo ad sl fi ai' al') 2 [some (.ref mo), some (.int (nI s0)), some (.int (nI i)), none] [] := by
    intro j
    induction j with
    | zero =>
      intro i hi z ai' al' hf
      have hi6 : i = nw.length := by omega
      subst hi6
      refine k_iload_n (pc := 2) dX5_writePage_2 rfl ?_
      refine k_aload_n (pc := 3) dX5_writePage_3 rfl ?_
      refine mg_130 hst (pc := 4) dX5_writePage_4 ?_
      rw [n1]
      refine k_icmp_ge (tgt := 78) (pc := 7) dX5_writePage_7 (by decide) (fun _ => ?_) (fun c => absurd (nI_le (Nat.le_refl _) (by omega)) c)
      refine k_aload_n (pc := 78) dX5_writePage_78 rfl ?_
      refine mg_51 hst (pc := 79) dX5_writePage_79 ?_
      refine k_iload_n (pc := 82) dX5_writePage_82 rfl ?_
      refine k_aload_n (pc := 83) dX5_writePage_83 rfl ?_
      refine mg_130 hst (pc := 84) dX5_writePage_84 ?_
      refine m_iast hst rfl (pc := 87) dX5_writePage_87 rfl hs (by decide) ?_
      exact k_vret (pc := 88) dX5_writePage_88 (MPN.of (rep_wp h hs h8 (fun k e he => hf.1 k e (List.getElem?_eq_some_iff.mp he).1 he) hf.2.1 hf.2.2.1 hf.2.2.2)) (Nat.le_refl _) (Nat.le_refl _)
    | succ j ih =>
      intro i hi z ai' al' hf
      obtain ⟨e0, he0⟩ : ∃ e0, nw[i]? = some e0 := ⟨nw[i], List.getElem?_eq_getElem (by omega)⟩
      have step := ih (i + 1) (by omega) none _ _ (wp_step hf (by omega) he0 (n3 i e0 he0) rfl rfl rfl rfl)
      refine k_iload_n (pc := 2) dX5_writePage_2 rfl ?_
      refine k_aload_n (pc := 3) dX5_writePage_3 rfl ?_
      refine mg_130 hst (pc := 4) dX5_writePage_4 ?_
      rw [n1]
      refine k_icmp_ge (tgt := 78) (pc := 7) dX5_writePage_7 (by decide) (fun c => absurd c (nI_ge (by omega) (by omega))) (fun _ => ?_)
      refine k_bipush (v := 8) (pc := 10) dX5_writePage_10 (by decide) ?_
      refine k_iload_n (pc := 12) dX5_writePage_12 rfl ?_
      refine k_imul (pc := 13) dX5_writePage_13 ?_
      refine k_iload_n (pc := 14) dX5_writePage_14 rfl ?_
      refine k_iadd (pc := 15) dX5_writePage_15 ?_
      refine k_istore_n (pc := 16) dX5_writePage_16 (by decide) rfl ?_
      refine k_aload_n (pc := 17) dX5_writePage_17 rfl ?_
      refine mg_36 hst (pc := 18) dX5_writePage_18 ?_
      refine k_iload_n (pc := 21) dX5_writePage_21 rfl ?_
      refine k_aload_n (pc := 22) dX5_writePage_22 rfl ?_
      refine mg_54 hst (pc := 23) dX5_writePage_23 ?_
      refine k_iload_n (pc := 26) dX5_writePage_26 rfl ?_
      refine m_lald hst rfl (pc := 27) dX5_writePage_27 rfl (by simp only [mln]; omega) (by decide) ?_
      refine m_last hst rfl (pc := 28) dX5_writePage_28 (nI_8 s0 i) (by simp only [mln]; omega) (by decide) ?_
      refine k_aload_n (pc := 29) dX5_writePage_29 rfl ?_
      refine mg_39 hst (pc := 30) dX5_writePage_30 ?_
      refine k_iload_n (pc := 33) dX5_writePage_33 rfl ?_
      refine k_aload_n (pc := 34) dX5_writePage_34 rfl ?_
      refine mg_57 hst (pc := 35) dX5_writePage_35 ?_
      refine k_iload_n (pc := 38) dX5_writePage_38 rfl ?_
      refine m_iald hst rfl (pc := 39) dX5_writePage_39 rfl (by simp only [mln]; omega) (by decide) ?_
      refine m_iast hst rfl (pc := 40) dX5_writePage_40 (nI_8 s0 i) (by simp only [mln]; omega) (by decide) ?_
      refine k_aload_n (pc := 41) dX5_writePage_41 rfl ?_
      refine mg_42 hst (pc := 42) dX5_writePage_42 ?_
      refine k_iload_n (pc := 45) dX5_writePage_45 rfl ?_
      refine k_aload_n (pc := 46) dX5_writePage_46 rfl ?_
      refine mg_60 hst (pc := 47) dX5_writePage_47 ?_
      refine k_iload_n (pc := 50) dX5_writePage_50 rfl ?_
      refine m_iald hst rfl (pc := 51) dX5_writePage_51 rfl (by simp only [mln]; omega) (by decide) ?_
      refine m_iast hst rfl (pc := 52) dX5_writePage_52 (nI_8 s0 i) (by simp only [mln]; omega) (by decide) ?_
      refine k_aload_n (pc := 53) dX5_writePage_53 rfl ?_
      refine mg_45 hst (pc := 54) dX5_writePage_54 ?_
      refine k_iload_n (pc := 57) dX5_writePage_57 rfl ?_
      refine k_aload_n (pc := 58) dX5_writePage_58 rfl ?_
      refine mg_63 hst (pc := 59) dX5_writePage_59 ?_
      refine k_iload_n (pc := 62) dX5_writePage_62 rfl ?_
      refine m_iald hst rfl (pc := 63) dX5_writePage_63 rfl (by simp only [mln]; omega) (by decide) ?_
      refine m_iast hst rfl (pc := 64) dX5_writePage_64 (nI_8 s0 i) (by simp only [mln]; omega) (by decide) ?_
      refine k_aload_n (pc := 65) dX5_writePage_65 rfl ?_
      refine mg_48 hst (pc := 66) dX5_writePage_66 ?_
      refine k_iload_n (pc := 69) dX5_writePage_69 rfl ?_
      refine k_iconst (v := 0) (pc := 70) dX5_writePage_70 (by decide) ?_
      refine m_zast hst rfl (pc := 71) dX5_writePage_71 (nI_8 s0 i) (by simp only [mln]; omega) (by decide) rfl ?_
      refine k_iinc (pc := 72) dX5_writePage_72 rfl (nI_inc _) (by decide) rfl ?_
      refine k_goto (tgt := 2) (pc := 75) dX5_writePage_75 (by decide) ?_
      refine k_lv (lv2 := [some (.ref mo), some (.int (nI s0)), some (.int (nI (i + 1))), none]) (fun i v h => by match i, h with | 0, h => exact h | 1, h => exact h | 2, h => exact h | 3, h => cases h | i + 4, h => cases h) ?_
      simp only [up2_at, show ¬ (19 : Nat) = 12 by decide, show ¬ (20 : Nat) = 12 by decide, show ¬ (20 : Nat) = 13 by decide, false_and, if_false]
      exact step
  refine k_iconst (v := 0) (pc := 0) dX5_writePage_0 (by decide) ?_
  refine k_istore_n (pc := 1) dX5_writePage_1 (by decide) rfl ?_
  exact loop nw.length 0 (by omega) none ai al ⟨fun k e hk _ => absurd hk (by omega), fun _ _ => rfl, fun _ _ => rfl, fun _ _ => rfl⟩
end REFG
