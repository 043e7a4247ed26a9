theorem rep_add {S : SS} {nw : List Ne} {fi : Nat → Int32} {ai : Nat → Nat → Int32} {al : Nat → Nat → Int64} (h : Rep S nw fi ai al) (hl : nw.length < 700) (key : Int64) (w : Nat) (f t : Int32) (b1 b2 : Bool) : Rep S (nw ++ [((key, w, f, t), b1, b2)]) (va_up fi 23 (fi 23 + 1)) (up2 (up2 (up2 (up2 (up2 ai 18 nw.length (nI w)) 19 nw.length f) 20 nw.length t) 21 nw.length (bI b1)) 22 nw.length (bI b2)) (up2 al 17 nw.length key) := by
  obtain ⟨⟨l1, l2, l3⟩, ⟨n1, n2, n3⟩, hP, r1, r2, r3, r4, r5⟩ := h
  refine ⟨⟨?_, l2, ?_⟩, ⟨?_, ?_, ?_⟩, ?_, ?_, ?_, ?_, ?_, ?_⟩
  · simpa [va_up] using l1
  · intro k e he
    simpa [ent, up2_at] using l3 k e he
  · simp [va_up, n1, nI_1]
  · simp; omega
  · intro k e he
    by_cases hk : k < nw.length
    · rw [List.getElem?_append_left hk] at he
      have hk2 : ¬ k = nw.length := by omega
      simpa [nent, up2_at, hk2] using n3 k e he
    · rw [List.getElem?_append_right (by omega)] at he
      have hk2 : k = nw.length := by
        have := (List.getElem?_eq_some_iff.mp he).1
        simp at this
        omega
      subst hk2
      simp at he
      subst he
      simp [nent, nenc, up2_at]
  · intro s hs
    simpa [pent, up2_at] using hP s hs
  · simpa [va_up] using r1
  · simpa [va_up] using r2
  · intro j hj
    simpa [up2_at] using r3 j hj
  · intro j hj
    simpa [up2_at] using r4 j hj
  · simpa [va_up] using r5
theorem plN_take {nw : List Ne} {i : Nat} {e : Ne} (he : nw[i]? = some e) : plN (nw.take (i + 1)) = plN (nw.take i) + plc e.1 := by
  rw [List.take_add_one, he]
  simp [plN]
def pd : Nat → Int32
  | 0 => -1
  | i + 1 => nI i
theorem pd_dec (i : Nat) : pd (i + 1) + Int32.ofInt (-1) = pd i := by
  cases i with
  | zero => rfl
  | succ i => exact pk_m1 i
theorem pd_sub (i : Nat) : nI i - 1 = pd i := by
  cases i with
  | zero => rfl
  | succ i => exact nI_pred i
def fromIx {α : Type} (p : α → Bool) (l : List α) (k : Nat) : Option Nat := ((l.drop k).findIdx? p).map (fun i => k + i)
theorem fromIx_end {α : Type} (p : α → Bool) (l : List α) : fromIx p l l.length = none := by simp [fromIx]
theorem fromIx_0 {α : Type} (p : α → Bool) (l : List α) : fromIx p l 0 = l.findIdx? p := by simp [fromIx]
theorem fromIx_step {α : Type} {p : α → Bool} {l : List α} {i : Nat} {e : α} (he : l[i]? = some e) : fromIx p l i = if p e then some i else fromIx p l (i + 1) := by
  have hi := (List.getElem?_eq_some_iff.mp he)
  obtain ⟨h1, h2⟩ := hi
  unfold fromIx
  rw [List.drop_eq_getElem_cons h1, List.findIdx?_cons, h2]
  by_cases hp : p e = true
  · simp [hp]
  · rw [if_neg hp, if_neg hp, Option.map_map]
    congr 1
    funext x
    show i + (x + 1) = i + 1 + x
    omega
def shA {α : Type} (F : Nat → Nat → α) (lo hi a i : Nat) : Nat → Nat → α := fun q b => if (lo ≤ q ∧ q ≤ hi) ∧ a ≤ b ∧ b < i then F q (b + 1) else F q b
theorem shA_at {α : Type} (F : Nat → Nat → α) (lo hi a i q b : Nat) : shA F lo hi a i q b = if (lo ≤ q ∧ q ≤ hi) ∧ a ≤ b ∧ b < i then F q (b + 1) else F q b := rfl
theorem shA_0 {α : Type} (F : Nat → Nat → α) (lo hi a : Nat) : shA F lo hi a a = F := by
  funext q b
  rw [shA_at, if_neg (by omega)]
theorem shA_rd {α : Type} {F : Nat → Nat → α} {lo hi a i q : Nat} : shA F lo hi a i q (i + 1) = F q (i + 1) := by
  rw [shA_at, if_neg (by omega)]
theorem shA_out {α : Type} {F : Nat → Nat → α} {lo hi a i q : Nat} (h : q < lo ∨ hi < q) : shA F lo hi a i q = F q := by
  funext b
  rw [shA_at, if_neg (by omega)]
theorem shA_in {α : Type} {F : Nat → Nat → α} {lo hi a i q b : Nat} (h : lo ≤ q ∧ q ≤ hi) : shA F lo hi a i q b = if a ≤ b ∧ b < i then F q (b + 1) else F q b := by
  rw [shA_at]
  by_cases h2 : a ≤ b ∧ b < i
  · rw [if_pos ⟨h, h2⟩, if_pos h2]
  · rw [if_neg (fun z => h2 z.2), if_neg h2]
theorem shA_nx {α : Type} {F : Nat → Nat → α} {lo hi a i q b : Nat} (ha : a ≤ i) : shA F lo hi a (i + 1) q b = if (lo ≤ q ∧ q ≤ hi) ∧ b = i then F q (i + 1) else shA F lo hi a i q b := by
  rw [shA_at, shA_at]
  by_cases hb : b = i
  · subst hb
    by_cases hq : lo ≤ q ∧ q ≤ hi
    · rw [if_pos ⟨hq, ha, by omega⟩, if_pos ⟨hq, rfl⟩]
    · rw [if_neg (fun z => hq z.1), if_neg (fun z => hq z.1), if_neg (fun z => hq z.1)]
  · rw [if_neg (c := (lo ≤ q ∧ q ≤ hi) ∧ b = i) (fun z => hb z.2)]
    by_cases hq : (lo ≤ q ∧ q ≤ hi) ∧ a ≤ b ∧ b < i
    · rw [if_pos hq, if_pos ⟨hq.1, hq.2.1, by omega⟩]
    · rw [if_neg hq, if_neg (fun z => hq ⟨z.1, z.2.1, by omega⟩)]
theorem shA_step1 {F : Nat → Nat → Int64} {lo a i : Nat} (ha : a ≤ i) : up2 (shA F lo lo a i) lo i (F lo (i + 1)) = shA F lo lo a (i + 1) := by
  funext q b
  rw [shA_nx ha, up2_at]
  by_cases hq : q = lo ∧ b = i
  · rw [if_pos hq, if_pos ⟨by omega, hq.2⟩, hq.1]
  · rw [if_neg hq, if_neg (fun z => hq ⟨by omega, z.2⟩)]
theorem shA_step5 {F : Nat → Nat → Int32} {a i : Nat} (ha : a ≤ i) : up2 (up2 (up2 (up2 (up2 (shA F 18 22 a i) 18 i (F 18 (i + 1))) 19 i (F 19 (i + 1))) 20 i (F 20 (i + 1))) 21 i (F 21 (i + 1))) 22 i (F 22 (i + 1)) = shA F 18 22 a (i + 1) := by
  funext q b
  rw [shA_nx ha]
  simp only [up2_at]
  by_cases hb : b = i
  · subst hb
    by_cases hq : 18 ≤ q ∧ q ≤ 22
    · rcases (show q = 18 ∨ q = 19 ∨ q = 20 ∨ q = 21 ∨ q = 22 by omega) with rfl | rfl | rfl | rfl | rfl <;> simp
    · simp only [hq, show ¬ q = 18 by omega, show ¬ q = 19 by omega, show ¬ q = 20 by omega, show ¬ q = 21 by omega, show ¬ q = 22 by omega, false_and, if_false]
  · simp only [hb, and_false, if_false]
theorem shA_step4 {F : Nat → Nat → Int32} {a i : Nat} (ha : a ≤ i) : up2 (up2 (up2 (up2 (shA F 12 15 a i) 12 i (F 12 (i + 1))) 13 i (F 13 (i + 1))) 14 i (F 14 (i + 1))) 15 i (F 15 (i + 1)) = shA F 12 15 a (i + 1) := by
  funext q b
  rw [shA_nx ha]
  simp only [up2_at]
  by_cases hb : b = i
  · subst hb
    by_cases hq : 12 ≤ q ∧ q ≤ 15
    · rcases (show q = 12 ∨ q = 13 ∨ q = 14 ∨ q = 15 by omega) with rfl | rfl | rfl | rfl <;> simp
    · simp only [hq, show ¬ q = 12 by omega, show ¬ q = 13 by omega, show ¬ q = 14 by omega, show ¬ q = 15 by omega, false_and, if_false]
  · simp only [hb, and_false, if_false]
theorem erase_at {α : Type} {l : List α} {a k : Nat} (ha : a < l.length) (hk : k < l.length - 1) : (l.eraseIdx a)[k]? = if a ≤ k then l[k + 1]? else l[k]? := by
  rw [List.getElem?_eraseIdx]
  by_cases h : k < a
  · simp [h, show ¬ a ≤ k by omega]
  · simp [h, show a ≤ k by omega]
theorem rep_drop {S : SS} {nw : List Ne} {fi : Nat → Int32} {ai : Nat → Nat → Int32} {al : Nat → Nat → Int64} (h : Rep S nw fi ai al) {a wh : Nat} (ha : a < nw.length) (hw : wh < 12) : Rep (uC S (inc (sC S) wh)) (nw.eraseIdx a) (va_up fi 23 (fi 23 - 1)) (shA (up2 ai 24 wh (ai 24 wh + 1)) 18 22 a (nw.length - 1)) (shA al 17 17 a (nw.length - 1)) := by
  obtain ⟨⟨l1, l2, l3⟩, ⟨n1, n2, n3⟩, hP, r1, r2, r3, r4, r5⟩ := h
  have hle : (nw.eraseIdx a).length = nw.length - 1 := by rw [List.length_eraseIdx]; simp [ha]
  refine ⟨⟨?_, l2, ?_⟩, ⟨?_, ?_, ?_⟩, ?_, ?_, ?_, ?_, ?_, ?_⟩
  · exact l1
  · intro k e he
    have := l3 k e he
    simpa [ent, shA_at, up2_at] using this
  · rw [va_up_self, n1, hle]
    obtain ⟨m, hm⟩ : ∃ m, nw.length = m + 1 := ⟨nw.length - 1, by omega⟩
    rw [hm]
    exact nI_pred m
  · rw [hle]; omega
  · intro k e he
    have hk : k < nw.length - 1 := by rw [← hle]; exact (List.getElem?_eq_some_iff.mp he).1
    rw [erase_at ha hk] at he
    by_cases hak : a ≤ k
    · rw [if_pos hak] at he
      have := n3 (k + 1) e he
      simpa [nent, shA_at, up2_at, hak, hk] using this
    · rw [if_neg hak] at he
      have := n3 k e he
      simpa [nent, shA_at, up2_at, hak] using this
  · intro s hs
    have := hP s hs
    simpa [uC_P, pent, shA_at, up2_at] using this
  · exact r1
  · exact r2
  · intro j hj
    rw [uC_N]
    simpa [shA_at, up2_at] using r3 j hj
  · intro j hj
    rw [uC_C, shA_out (Or.inr (by decide)), up2_at]
    unfold inc va_up
    by_cases hj2 : j = wh
    · simp [hj2, r4 wh hw]
    · simp [hj2, r4 j hj]
  · exact r5
theorem findIdx?_ltl {α : Type} {p : α → Bool} {l : List α} {i : Nat} (h : l.findIdx? p = some i) : i < l.length := by
  obtain ⟨h1, -⟩ := List.findIdx?_eq_some_iff_getElem.mp h
  exact h1
section REFF
variable {p : Program} {l : Launch} {e : Env} {s : State} {m : MethodId} {args : Array Value} {below : List Frame} {meth : Method} {c : Code} {R : Room} {G : Gd} {A : Nat → Prop} {Q : State → Prop} {k n : Nat} {mo : Nat} {ad sl : Nat → Nat} {S : SS} {nw : List Ne}
set_option maxRecDepth 4000 in
theorem c_addNew (hst : MSt mo ad sl) (key : Int64) (w : Nat) (f t : Int32) (b1 b2 : Bool) (hl : nw.length < 700) : Ct 0 0 0 yX5_addNew cX5_addNew 8 (none) G A [.ref mo, .long key, .int (nI w), .int f, .int t, .int (bI b1), .int (bI b2)] (MPN G A mo ad sl S nw) (none) (MPN G A mo ad sl S (nw ++ [((key, w, f, t), b1, b2)])) := by
  refine Ct.of 0 rfl rfl (Nat.le_of_ble_eq_true rfl) ?_
  intro p l e s m below meth c hini
  refine k_open fun fi ai al h => ?_
  have l1 := h.2.1.1
  refine k_aload_n (pc := 0) dX5_addNew_0 rfl ?_
  refine mg_54 hst (pc := 1) dX5_addNew_1 ?_
  refine k_aload_n (pc := 4) dX5_addNew_4 rfl ?_
  refine mg_130 hst (pc := 5) dX5_addNew_5 ?_
  refine k_lload_n (pc := 8) dX5_addNew_8 rfl ?_
  refine m_last hst rfl (pc := 9) dX5_addNew_9 l1 hl (by decide) ?_
  refine k_aload_n (pc := 10) dX5_addNew_10 rfl ?_
  refine mg_57 hst (pc := 11) dX5_addNew_11 ?_
  refine k_aload_n (pc := 14) dX5_addNew_14 rfl ?_
  refine mg_130 hst (pc := 15) dX5_addNew_15 ?_
  refine k_iload_n (pc := 18) dX5_addNew_18 rfl ?_
  refine m_iast hst rfl (pc := 19) dX5_addNew_19 l1 hl (by decide) ?_
  refine k_aload_n (pc := 20) dX5_addNew_20 rfl ?_
  refine mg_60 hst (pc := 21) dX5_addNew_21 ?_
  refine k_aload_n (pc := 24) dX5_addNew_24 rfl ?_
  refine mg_130 hst (pc := 25) dX5_addNew_25 ?_
  refine k_iload (pc := 28) dX5_addNew_28 rfl ?_
  refine m_iast hst rfl (pc := 30) dX5_addNew_30 l1 hl (by decide) ?_
  refine k_aload_n (pc := 31) dX5_addNew_31 rfl ?_
  refine mg_63 hst (pc := 32) dX5_addNew_32 ?_
  refine k_aload_n (pc := 35) dX5_addNew_35 rfl ?_
  refine mg_130 hst (pc := 36) dX5_addNew_36 ?_
  refine k_iload (pc := 39) dX5_addNew_39 rfl ?_
  refine m_iast hst rfl (pc := 41) dX5_addNew_41 l1 hl (by decide) ?_
  refine k_aload_n (pc := 42) dX5_addNew_42 rfl ?_
  refine mg_66 hst (pc := 43) dX5_addNew_43 ?_
  refine k_aload_n (pc := 46) dX5_addNew_46 rfl ?_
  refine mg_130 hst (pc := 47) dX5_addNew_47 ?_
  refine k_iload (pc := 50) dX5_addNew_50 rfl ?_
  refine m_zast hst rfl (pc := 52) dX5_addNew_52 l1 hl (by decide) (bI_nar _) ?_
  refine k_aload_n (pc := 53) dX5_addNew_53 rfl ?_
  refine mg_69 hst (pc := 54) dX5_addNew_54 ?_
  refine k_aload_n (pc := 57) dX5_addNew_57 rfl ?_
  refine mg_130 hst (pc := 58) dX5_addNew_58 ?_
  refine k_iload (pc := 61) dX5_addNew_61 rfl ?_
  refine m_zast hst rfl (pc := 63) dX5_addNew_63 l1 hl (by decide) (bI_nar _) ?_
  refine k_aload_n (pc := 64) dX5_addNew_64 rfl ?_
  refine k_dup (pc := 65) dX5_addNew_65 rfl ?_
  refine mg_130 hst (pc := 66) dX5_addNew_66 ?_
  refine k_iconst (v := 1) (pc := 69) dX5_addNew_69 (by decide) ?_
  refine k_iadd (pc := 70) dX5_addNew_70 ?_
  refine mp_130 hst (pc := 71) dX5_addNew_71 rfl rfl ?_
  exact k_vret (pc := 74) dX5_addNew_74 (MPN.of (rep_add h hl key w f t b1 b2)) (Nat.le_refl _) (Nat.le_refl _)
set_option maxRecDepth 4000 in
theorem c_plN (hst : MSt mo ad sl)  : Ct 0 0 0 yX5_placesOfNew cX5_placesOfNew 3 (some .int) G A [.ref mo] (MPN G A mo ad sl S nw) (some (.int (nI (plN nw)))) (MPN G A mo ad sl S nw) := by
  refine Ct.of 2 rfl rfl (Nat.le_of_ble_eq_true rfl) ?_
  intro p l e s m below meth c hini
  refine k_open fun fi ai al h => ?_
  have hlen := h.2.1.2.1
  have loop : ∀ j i : Nat, i + j = nw.length → K p l e s m ([.ref mo] : List Value).toArray below meth c (rmm 0 0 0) yX5_placesOfNew.cls cX5_placesOfNew 3 (some .int) G A (MQ below (Qd (some (.int (nI (plN nw)))) (MPN G A mo ad sl S nw) A) ([.ref mo] : List Value).toArray s 0 0 A) 0 0 (MH G A mo ad sl fi ai al) 4 [some (.ref mo), some (.int (nI (plN (nw.take i)))), some (.int (nI i))] [] := by
    intro j
    induction j with
    | zero =>
      intro i hi
      have hi6 : i = nw.length := by omega
      subst hi6
      refine k_iload_n (pc := 4) dX5_placesOfNew_4 rfl ?_
      refine k_aload_n (pc := 5) dX5_placesOfNew_5 rfl ?_
      refine mg_130 hst (pc := 6) dX5_placesOfNew_6 ?_
      rw [h.2.1.1]
      refine k_icmp_ge (tgt := 29) (pc := 9) dX5_placesOfNew_9 (by decide) (fun _ => ?_) (fun c => absurd (nI_le (Nat.le_refl _) (by omega)) c)
      rw [List.take_length]
      refine k_iload_n (pc := 29) dX5_placesOfNew_29 rfl ?_
      exact k_iret (pc := 30) dX5_placesOfNew_30 rfl (MPN.of h) (Nat.le_refl _) (Nat.le_refl _)
    | succ j ih =>
      intro i hi
      obtain ⟨e0, he0⟩ : ∃ e0, nw[i]? = some e0 := ⟨nw[i], List.getElem?_eq_getElem (by omega)⟩
      have c18 := (nent_k (h.2.1.2.2 i e0 he0)).2.1
      have step := ih (i + 1) (by omega)
      rw [plN_take he0] at step
      refine k_iload_n (pc := 4) dX5_placesOfNew_4 rfl ?_
      refine k_aload_n (pc := 5) dX5_placesOfNew_5 rfl ?_
      refine mg_130 hst (pc := 6) dX5_placesOfNew_6 ?_
      rw [h.2.1.1]
      refine k_icmp_ge (tgt := 29) (pc := 9) dX5_placesOfNew_9 (by decide) (fun c => absurd c (nI_ge (by omega) (by omega))) (fun _ => ?_)
      refine k_iload_n (pc := 12) dX5_placesOfNew_12 rfl ?_
      refine k_iconst (v := 3) (pc := 13) dX5_placesOfNew_13 (by decide) ?_
      refine k_aload_n (pc := 14) dX5_placesOfNew_14 rfl ?_
      refine mg_57 hst (pc := 15) dX5_placesOfNew_15 ?_
      refine k_iload_n (pc := 18) dX5_placesOfNew_18 rfl ?_
      refine m_iald hst rfl (pc := 19) dX5_placesOfNew_19 rfl (by simp only [mln]; omega) (by decide) ?_
      refine k_iadd (pc := 20) dX5_placesOfNew_20 ?_
      refine k_iadd (pc := 21) dX5_placesOfNew_21 ?_
      refine k_istore_n (pc := 22) dX5_placesOfNew_22 (by decide) rfl ?_
      refine k_iinc (pc := 23) dX5_placesOfNew_23 rfl (nI_inc _) (by decide) rfl ?_
      refine k_goto (tgt := 4) (pc := 26) dX5_placesOfNew_26 (by decide) ?_
      rw [c18, show (3 : Int32) = nI 3 from rfl, nI_add, nI_add]
      exact step
  refine k_iconst (v := 0) (pc := 0) dX5_placesOfNew_0 (by decide) ?_
  refine k_istore_n (pc := 1) dX5_placesOfNew_1 (by decide) rfl ?_
  refine k_iconst (v := 0) (pc := 2) dX5_placesOfNew_2 (by decide) ?_
  refine k_istore_n (pc := 3) dX5_placesOfNew_3 (by decide) rfl ?_
  exact loop nw.length 0 (by omega)
theorem w_shift (hst : MSt mo ad sl) {fi : Nat → Int32} {ai : Nat → Nat → Int32} {al : Nat → Nat → Int64} {x1 x2 : Int32} {a N : Nat} (hN : fi 23 = nI N) (hN2 : N < 700) (kk : K p l e s m args below meth c R RX5 cX5_dropOne 5 (none) G A Q k n (MH G A mo ad sl fi (shA ai 18 22 a N) (shA al 17 17 a N)) 231 [some (.ref mo), none, none, none, none] []) (hz : ∀ b, b ≤ N → ∃ z, ai 21 b = bI z) (hz2 : ∀ b, b ≤ N → ∃ z, ai 22 b = bI z) : ∀ j i : Nat, i + j = N → a ≤ i → K p l e s m args below meth c R RX5 cX5_dropOne 5 (none) G A Q k n (MH G A mo ad sl fi (shA ai 18 22 a i) (shA al 17 17 a i)) 120 [some (.ref mo), some (.int x1), some (.int x2), some (.int (nI a)), some (.int (nI i))] [] := by
  intro j
  induction j with
  | zero =>
    intro i hi ha
    have hi6 : i = N := by omega
    subst hi6
    refine k_iload (pc := 120) dX5_dropOne_120 rfl ?_
    refine k_aload_n (pc := 122) dX5_dropOne_122 rfl ?_
    refine mg_130 hst (pc := 123) dX5_dropOne_123 ?_
    rw [hN]
    refine k_icmp_ge (tgt := 231) (pc := 126) dX5_dropOne_126 (by decide) (fun _ => ?_) (fun c => absurd (nI_le (Nat.le_refl _) (by omega)) c)
    exact k_lv (fun i v h => by match i, h with | 0, h => exact h | 1, h => cases h | 2, h => cases h | 3, h => cases h | 4, h => cases h | i + 5, h => cases h) kk
  | succ j ih =>
    intro i hi ha
    have step := ih (i + 1) (by omega) (by omega)
    obtain ⟨z1, hz1⟩ := hz (i + 1) (by omega)
    obtain ⟨z2, hz2⟩ := hz2 (i + 1) (by omega)
    rw [← shA_step5 ha, ← shA_step1 ha] at step
    refine k_iload (pc := 120) dX5_dropOne_120 rfl ?_
    refine k_aload_n (pc := 122) dX5_dropOne_122 rfl ?_
    refine mg_130 hst (pc := 123) dX5_dropOne_123 ?_
    rw [hN]
    refine k_icmp_ge (tgt := 231) (pc := 126) dX5_dropOne_126 (by decide) (fun c => absurd c (nI_ge (by omega) (by omega))) (fun _ => ?_)
    refine k_aload_n (pc := 129) dX5_dropOne_129 rfl ?_
    refine mg_54 hst (pc := 130) dX5_dropOne_130 ?_
    refine k_iload (pc := 133) dX5_dropOne_133 rfl ?_
    refine k_aload_n (pc := 135) dX5_dropOne_135 rfl ?_
    refine mg_54 hst (pc := 136) dX5_dropOne_136 ?_
    refine k_iload (pc := 139) dX5_dropOne_139 rfl ?_
    refine k_iconst (v := 1) (pc := 141) dX5_dropOne_141 (by decide) ?_
    refine k_iadd (pc := 142) dX5_dropOne_142 ?_
    refine m_lald hst rfl (pc := 143) dX5_dropOne_143 (nI_1 i) (by simp only [mln]; omega) (by decide) ?_
    refine m_last hst rfl (pc := 144) dX5_dropOne_144 rfl (by simp only [mln]; omega) (by decide) ?_
    refine k_aload_n (pc := 145) dX5_dropOne_145 rfl ?_
    refine mg_57 hst (pc := 146) dX5_dropOne_146 ?_
    refine k_iload (pc := 149) dX5_dropOne_149 rfl ?_
    refine k_aload_n (pc := 151) dX5_dropOne_151 rfl ?_
    refine mg_57 hst (pc := 152) dX5_dropOne_152 ?_
    refine k_iload (pc := 155) dX5_dropOne_155 rfl ?_
    refine k_iconst (v := 1) (pc := 157) dX5_dropOne_157 (by decide) ?_
    refine k_iadd (pc := 158) dX5_dropOne_158 ?_
    refine m_iald hst rfl (pc := 159) dX5_dropOne_159 (nI_1 i) (by simp only [mln]; omega) (by decide) ?_
    refine m_iast hst rfl (pc := 160) dX5_dropOne_160 rfl (by simp only [mln]; omega) (by decide) ?_
    refine k_aload_n (pc := 161) dX5_dropOne_161 rfl ?_
    refine mg_60 hst (pc := 162) dX5_dropOne_162 ?_
    refine k_iload (pc := 165) dX5_dropOne_165 rfl ?_
    refine k_aload_n (pc := 167) dX5_dropOne_167 rfl ?_
    refine mg_60 hst (pc := 168) dX5_dropOne_168 ?_
    refine k_iload (pc := 171) dX5_dropOne_171 rfl ?_
    refine k_iconst (v := 1) (pc := 173) dX5_dropOne_173 (by decide) ?_
    refine k_iadd (pc := 174) dX5_dropOne_174 ?_
    refine m_iald hst rfl (pc := 175) dX5_dropOne_175 (nI_1 i) (by simp only [mln]; omega) (by decide) ?_
    refine m_iast hst rfl (pc := 176) dX5_dropOne_176 rfl (by simp only [mln]; omega) (by decide) ?_
    refine k_aload_n (pc := 177) dX5_dropOne_177 rfl ?_
    refine mg_63 hst (pc := 178) dX5_dropOne_178 ?_
    refine k_iload (pc := 181) dX5_dropOne_181 rfl ?_
    refine k_aload_n (pc := 183) dX5_dropOne_183 rfl ?_
    refine mg_63 hst (pc := 184) dX5_dropOne_184 ?_
    refine k_iload (pc := 187) dX5_dropOne_187 rfl ?_
    refine k_iconst (v := 1) (pc := 189) dX5_dropOne_189 (by decide) ?_
    refine k_iadd (pc := 190) dX5_dropOne_190 ?_
    refine m_iald hst rfl (pc := 191) dX5_dropOne_191 (nI_1 i) (by simp only [mln]; omega) (by decide) ?_
    refine m_iast hst rfl (pc := 192) dX5_dropOne_192 rfl (by simp only [mln]; omega) (by decide) ?_
    refine k_aload_n (pc := 193) dX5_dropOne_193 rfl ?_
    refine mg_66 hst (pc := 194) dX5_dropOne_194 ?_
    refine k_iload (pc := 197) dX5_dropOne_197 rfl ?_
    refine k_aload_n (pc := 199) dX5_dropOne_199 rfl ?_
    refine mg_66 hst (pc := 200) dX5_dropOne_200 ?_
    refine k_iload (pc := 203) dX5_dropOne_203 rfl ?_
    refine k_iconst (v := 1) (pc := 205) dX5_dropOne_205 (by decide) ?_
    refine k_iadd (pc := 206) dX5_dropOne_206 ?_
    refine m_zald hst rfl (pc := 207) dX5_dropOne_207 (nI_1 i) (by simp only [mln]; omega) (by decide) ?_
    refine m_zast hst rfl (pc := 208) dX5_dropOne_208 rfl (by simp only [mln]; omega) (by decide) (by simp only [up2_at, shA_rd, hz1]; simpa using bI_nar _) ?_
    refine k_aload_n (pc := 209) dX5_dropOne_209 rfl ?_
    refine mg_69 hst (pc := 210) dX5_dropOne_210 ?_
    refine k_iload (pc := 213) dX5_dropOne_213 rfl ?_
    refine k_aload_n (pc := 215) dX5_dropOne_215 rfl ?_
    refine mg_69 hst (pc := 216) dX5_dropOne_216 ?_
    refine k_iload (pc := 219) dX5_dropOne_219 rfl ?_
    refine k_iconst (v := 1) (pc := 221) dX5_dropOne_221 (by decide) ?_
    refine k_iadd (pc := 222) dX5_dropOne_222 ?_
    refine m_zald hst rfl (pc := 223) dX5_dropOne_223 (nI_1 i) (by simp only [mln]; omega) (by decide) ?_
    refine m_zast hst rfl (pc := 224) dX5_dropOne_224 rfl (by simp only [mln]; omega) (by decide) (by simp only [up2_at, shA_rd, hz2]; simpa using bI_nar _) ?_
    refine k_iinc (pc := 225) dX5_dropOne_225 rfl (nI_inc _) (by decide) rfl ?_
    refine k_goto (tgt := 120) (pc := 228) dX5_dropOne_228 (by decide) ?_
    simp only [up2_at, shA_rd, show ¬ (19 : Nat) = 18 by decide, show ¬ (20 : Nat) = 18 by decide, show ¬ (20 : Nat) = 19 by decide, show ¬ (21 : Nat) = 18 by decide, show ¬ (21 : Nat) = 19 by decide, show ¬ (21 : Nat) = 20 by decide, show ¬ (22 : Nat) = 18 by decide, show ¬ (22 : Nat) = 19 by decide, show ¬ (22 : Nat) = 20 by decide, show ¬ (22 : Nat) = 21 by decide, false_and, if_false]
    exact step
end REFF
