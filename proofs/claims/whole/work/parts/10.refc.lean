theorem nI_one : (1 : Int32) = nI 1 := rfl
def rel (f : Nat → Int32) (a b : Int32) (i : Nat) : Nat → Int32 := fun k => if k < i ∧ f k = a then b else f k
theorem rel_0 (f : Nat → Int32) (a b : Int32) : rel f a b 0 = f := by
  funext k
  simp [rel]
theorem rel_t {f : Nat → Int32} {a b : Int32} {i : Nat} (h : f i = a) : va_up (rel f a b i) i b = rel f a b (i + 1) := by
  funext k
  by_cases hk : k = i
  · subst hk
    simp [va_up, rel, h]
  · simp only [va_up, rel, hk, if_false]
    by_cases h2 : k < i
    · simp [h2, show k < i + 1 by omega]
    · simp [h2, show ¬ k < i + 1 by omega]
theorem rel_f {f : Nat → Int32} {a b : Int32} {i : Nat} (h : ¬ f i = a) : rel f a b i = rel f a b (i + 1) := by
  funext k
  by_cases hk : k = i
  · subst hk
    simp [rel, h]
  · simp only [rel]
    by_cases h2 : k < i
    · simp [h2, show k < i + 1 by omega]
    · simp [h2, show ¬ k < i + 1 by omega]
theorem rel_i (f : Nat → Int32) (a b : Int32) (i : Nat) : rel f a b i i = f i := by simp [rel]
theorem up2_va {α : Type} (f : Nat → Nat → α) (g : Nat → α) (q i : Nat) (x : α) : up2 (va_up f q g) q i x = va_up f q (va_up g i x) := by
  funext a b
  by_cases h : a = q
  · subst h
    simp [up2, va_up]
  · simp [up2, va_up, h]
theorem va_id {α : Type} (f : Nat → α) (q : Nat) : va_up f q (f q) = f := by
  funext a
  by_cases h : a = q
  · subst h
    simp [va_up]
  · simp [va_up, h]
theorem ent_mk {ai : Nat → Nat → Int32} {al : Nat → Nat → Int64} {k : Nat} {e : En} (h0 : al 0 k = e.1.1) (h1 : ai 1 k = nI e.1.2.1) (h2 : ai 2 k = e.1.2.2.1) (h3 : ai 3 k = e.1.2.2.2) (h4 : ai 4 k = bI e.2.1) (h5 : ai 5 k = bI e.2.2.1) (h6 : ai 6 k = nI (e.2.2.2 / 4)) : ent ai al k = enc e := by
  simp only [ent, enc, h0, h1, h2, h3, h4, h5, h6]
/-- the numbers of the places of the log's entries: 0 .. 31, 32, 36 .. 39 -/
def Lb (S : SS) : Prop := ∀ e ∈ sL S, e.2.2.2 < 40 ∧ (e.2.2.2 / 4 = 8 → e.2.2.2 = 32)
theorem rep_wr0 {S : SS} {nw : List Ne} {fi : Nat → Int32} {ai : Nat → Nat → Int32} {al : Nat → Nat → Int64} (h : Rep S nw fi ai al) (hH : sH S < 8) (hN : sN S (sH S) ≤ 3) (hb : Lb S) : Rep (wr0 S) nw (va_up fi 10 0) (up2 (up2 (va_up ai 6 (rel (ai 6) 8 (fi 9) (sL S).length)) 8 (sH S) (nI (sN S (sH S)) + 1)) 24 1 (sC S 1 + 1)) al := by
  obtain ⟨⟨l1, l2, l3⟩, ⟨n1, n2, n3⟩, hP, r1, r2, r3, r4, r5⟩ := h
  refine ⟨⟨?_, ?_, ?_⟩, ⟨?_, n2, ?_⟩, ?_, ?_, ?_, ?_, ?_, ?_⟩
  · simpa [wr0_L, va_up] using l1
  · simpa [wr0_L] using l2
  · intro k e he
    simp only [wr0_L, List.getElem?_map, Option.map_eq_some_iff] at he
    obtain ⟨e0, he0, rfl⟩ := he
    have hk : k < (sL S).length := (List.getElem?_eq_some_iff.mp he0).1
    obtain ⟨c0, c1, c2, c3, c4, c5, c6⟩ := ent_k (l3 k e0 he0)
    obtain ⟨b1, b2⟩ := hb e0 (List.mem_of_getElem? he0)
    have key : (if e0.2.2.2 = 32 then (e0.1, e0.2.1, e0.2.2.1, 4 * sH S + sN S (sH S)) else e0) = (e0.1, e0.2.1, e0.2.2.1, if e0.2.2.2 = 32 then 4 * sH S + sN S (sH S) else e0.2.2.2) := by
      split <;> rfl
    rw [key]
    refine ent_mk c0 ?_ ?_ ?_ ?_ ?_ ?_
    · simpa [up2_at, va_up] using c1
    · simpa [up2_at, va_up] using c2
    · simpa [up2_at, va_up] using c3
    · simpa [up2_at, va_up] using c4
    · simpa [up2_at, va_up] using c5
    · have hrel : (up2 (up2 (va_up ai 6 (rel (ai 6) 8 (fi 9) (sL S).length)) 8 (sH S) (nI (sN S (sH S)) + 1)) 24 1 (sC S 1 + 1)) 6 k = rel (ai 6) 8 (fi 9) (sL S).length k := by simp [up2_at, va_up]
      rw [hrel]
      unfold rel
      rw [c6, r1]
      by_cases h32 : e0.2.2.2 = 32
      · have e1 : (4 * sH S + sN S (sH S)) / 4 = sH S := by omega
        rw [if_pos ⟨hk, by rw [h32]; rfl⟩]
        show _ = nI ((if e0.2.2.2 = 32 then 4 * sH S + sN S (sH S) else e0.2.2.2) / 4)
        rw [if_pos h32, e1]
      · have e1 : ¬ nI (e0.2.2.2 / 4) = 8 := fun q => h32 (b2 ((nI_eq (by omega) (by decide)).mp (q.trans (show (8 : Int32) = nI 8 from rfl))))
        rw [if_neg (fun q => e1 q.2)]
        show _ = nI ((if e0.2.2.2 = 32 then 4 * sH S + sN S (sH S) else e0.2.2.2) / 4)
        rw [if_neg h32]
  · simpa [va_up] using n1
  · intro k e he
    simpa [nent, up2_at, va_up] using n3 k e he
  · intro s hs
    simpa [wr0_P, pent, up2_at, va_up] using hP s hs
  · simpa [wr0_H, va_up] using r1
  · simp [wr0_O, va_up, nI]
  · intro j hj
    simp only [up2_at, va_up, wr0_N]
    by_cases hj2 : j = sH S
    · simp [hj2, nI_1]
    · simp [hj2, r3 j hj]
  · intro j hj
    simp only [up2_at, va_up, wr0_C, inc]
    by_cases hj2 : j = 1
    · simp [hj2]
    · simp [hj2, r4 j hj]
  · simpa [wr0_X, wr0_G, va_up] using r5
section REFC
variable {p : Program} {l : Launch} {e : Env} {s : State} {m : MethodId} {args : Array Value} {below : List Frame} {meth : Method} {c : Code} {R : Room} {G : Gd} {A : Nat → Prop} {Q : State → Prop} {k n : Nat} {mo : Nat} {ad sl : Nat → Nat} {S : SS} {nw : List Ne}
theorem w_wop (hst : MSt mo ad sl) (hH : sH S < 8) (hN : sN S (sH S) ≤ 3) (hb : Lb S) (kk : K p l e s m args below meth c R RX5 cX5_writeOpenPage 2 (none) G A Q k n (MPN G A mo ad sl (wr0 S) nw) 65 [some (.ref mo), none] []) : K p l e s m args below meth c R RX5 cX5_writeOpenPage 2 (none) G A Q k n (MPN G A mo ad sl S nw) 0 [some (.ref mo), none] [] := by
  refine k_open fun fi ai al h => ?_
  have hlen := h.1.2.1
  have r8 := h.2.2.2.2.2.1 (sH S) hH
  have r1 := h.2.2.2.1
  have r24 := h.2.2.2.2.2.2.1 1 (by decide)
  have hfin : K p l e s m args below meth c R RX5 cX5_writeOpenPage 2 (none) G A Q k n (MH G A mo ad sl fi (va_up ai 6 (rel (ai 6) 8 (fi 9) (sL S).length)) al) 37 [some (.ref mo), none] [] := by
    refine k_aload_n (pc := 37) dX5_writeOpenPage_37 rfl ?_
    refine k_iconst (v := 0) (pc := 38) dX5_writeOpenPage_38 (by decide) ?_
    refine mp_100 hst (pc := 39) dX5_writeOpenPage_39 rfl rfl ?_
    refine k_aload_n (pc := 42) dX5_writeOpenPage_42 rfl ?_
    refine mg_33 hst (pc := 43) dX5_writeOpenPage_43 ?_
    refine k_aload_n (pc := 46) dX5_writeOpenPage_46 rfl ?_
    refine mg_106 hst (pc := 47) dX5_writeOpenPage_47 ?_
    refine k_dup2 (pc := 50) dX5_writeOpenPage_50 rfl rfl ?_
    refine m_iald hst rfl (pc := 51) dX5_writeOpenPage_51 r1 (by simpa [mln] using hH) (by decide) ?_
    refine k_iconst (v := 1) (pc := 52) dX5_writeOpenPage_52 (by decide) ?_
    refine k_iadd (pc := 53) dX5_writeOpenPage_53 ?_
    refine m_iast hst rfl (pc := 54) dX5_writeOpenPage_54 r1 (by simpa [mln] using hH) (by decide) ?_
    refine k_aload_n (pc := 55) dX5_writeOpenPage_55 rfl ?_
    refine mg_72 hst (pc := 56) dX5_writeOpenPage_56 ?_
    refine k_iconst (v := 1) (pc := 59) dX5_writeOpenPage_59 (by decide) ?_
    refine k_dup2 (pc := 60) dX5_writeOpenPage_60 rfl rfl ?_
    refine m_iald hst rfl (pc := 61) dX5_writeOpenPage_61 nI_one (by decide) (by decide) ?_
    refine k_iconst (v := 1) (pc := 62) dX5_writeOpenPage_62 (by decide) ?_
    refine k_iadd (pc := 63) dX5_writeOpenPage_63 ?_
    refine m_iast hst rfl (pc := 64) dX5_writeOpenPage_64 nI_one (by decide) (by decide) ?_
    refine k_close (S := wr0 S) (nw := nw) ?_ kk
    have e1 : (va_up ai 6 (rel (ai 6) 8 (fi 9) (sL S).length)) 8 (sH S) = nI (sN S (sH S)) := r8
    have e2 : (up2 (va_up ai 6 (rel (ai 6) 8 (fi 9) (sL S).length)) 8 (sH S) ((va_up ai 6 (rel (ai 6) 8 (fi 9) (sL S).length)) 8 (sH S) + 1)) 24 1 = sC S 1 := r24
    rw [e2, e1]
    exact rep_wr0 h hH hN hb
  have loop : ∀ j i : Nat, i + j = (sL S).length → K p l e s m args below meth c R RX5 cX5_writeOpenPage 2 (none) G A Q k n (MH G A mo ad sl fi (va_up ai 6 (rel (ai 6) 8 (fi 9) i)) al) 2 [some (.ref mo), some (.int (nI i))] [] := by
    intro j
    induction j with
    | zero =>
      intro i hi
      have hi6 : i = (sL S).length := by omega
      subst hi6
      refine k_iload_n (pc := 2) dX5_writeOpenPage_2 rfl ?_
      refine k_aload_n (pc := 3) dX5_writeOpenPage_3 rfl ?_
      refine mg_96 hst (pc := 4) dX5_writeOpenPage_4 ?_
      rw [h.1.1]
      refine k_icmp_ge (tgt := 37) (pc := 7) dX5_writeOpenPage_7 (by decide) (fun _ => ?_) (fun c => absurd (nI_le (Nat.le_refl _) (by omega)) c)
      exact k_lv (fun i v h => by match i, h with | 0, h => exact h | 1, h => cases h | i + 2, h => cases h) hfin
    | succ j ih =>
      intro i hi
      have step := ih (i + 1) (by omega)
      refine k_iload_n (pc := 2) dX5_writeOpenPage_2 rfl ?_
      refine k_aload_n (pc := 3) dX5_writeOpenPage_3 rfl ?_
      refine mg_96 hst (pc := 4) dX5_writeOpenPage_4 ?_
      rw [h.1.1]
      refine k_icmp_ge (tgt := 37) (pc := 7) dX5_writeOpenPage_7 (by decide) (fun c => absurd c (nI_ge (by omega) (by omega))) (fun _ => ?_)
      refine k_aload_n (pc := 10) dX5_writeOpenPage_10 rfl ?_
      refine mg_30 hst (pc := 11) dX5_writeOpenPage_11 ?_
      refine k_iload_n (pc := 14) dX5_writeOpenPage_14 rfl ?_
      refine m_iald hst rfl (pc := 15) dX5_writeOpenPage_15 rfl (by simp only [mln]; omega) (by decide) ?_
      refine k_bipush (v := 8) (pc := 16) dX5_writeOpenPage_16 (by decide) ?_
      refine k_icmp_ne (tgt := 31) (pc := 18) dX5_writeOpenPage_18 (by decide) (fun h1 => ?_) (fun h1 => ?_)
      · rw [va_up_self, rel_i] at h1
        rw [← rel_f h1] at step
        refine k_iinc (pc := 31) dX5_writeOpenPage_31 rfl (nI_inc _) (by decide) rfl ?_
        refine k_goto (tgt := 2) (pc := 34) dX5_writeOpenPage_34 (by decide) ?_
        exact step
      · rw [va_up_self, rel_i] at h1
        rw [← rel_t h1] at step
        refine k_aload_n (pc := 21) dX5_writeOpenPage_21 rfl ?_
        refine mg_30 hst (pc := 22) dX5_writeOpenPage_22 ?_
        refine k_iload_n (pc := 25) dX5_writeOpenPage_25 rfl ?_
        refine k_aload_n (pc := 26) dX5_writeOpenPage_26 rfl ?_
        refine mg_106 hst (pc := 27) dX5_writeOpenPage_27 ?_
        refine m_iast hst rfl (pc := 30) dX5_writeOpenPage_30 rfl (by simp only [mln]; omega) (by decide) ?_
        refine k_iinc (pc := 31) dX5_writeOpenPage_31 rfl (nI_inc _) (by decide) rfl ?_
        refine k_goto (tgt := 2) (pc := 34) dX5_writeOpenPage_34 (by decide) ?_
        rw [up2_va]
        exact step
  have h0 := loop (sL S).length 0 (by omega)
  rw [rel_0, va_id] at h0
  refine k_iconst (v := 0) (pc := 0) dX5_writeOpenPage_0 (by decide) ?_
  refine k_istore_n (pc := 1) dX5_writeOpenPage_1 (by decide) rfl ?_
  exact h0
end REFC
