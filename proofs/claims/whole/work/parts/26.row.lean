section CCALL
variable {p : Program} {l : Launch} {e : Env} {s : State} {m : MethodId} {args : Array Value} {below : List Frame} {meth : Method} {c : Code} {R : Room} {own : String} {cc : ByteArray} {nL : Nat} {rt : Option FieldType} {G : Gd} {A : Nat → Prop} {Q : State → Prop} {k n d : Nat} {J : Heap → Prop} {pc : Nat} {lv : List (Option Value)} {rest : List Value} {y : MethodName} {bytes : ByteArray} {maxL arn index : Nat} {ret : Option FieldType} {As : List Value} {v : Option Value} {st0 : List Value} {ad ar ow cap kd : Nat → Nat} {it : Nat → Da} {σ : CS} {b : Nat} {H : Heap}
theorem CH.recv {q ci : Nat} {fs : List Value} {r : vw_C} (hk : kd b = q) (hq : ∀ sz ct, cwk ad ar ow cap it σ sz ct q b = some (.inr (ci, fs)) ∨ ∃ fs', cwk ad ar ow cap it σ sz ct q b = some (.inr (ci, fs'))) (hc : classes[ci]? = some r) (h : CH G A ad ar ow cap kd it σ H) (hK : KK G s) : ∃ cell : Cell, H[b]? = some cell ∧ cell.vm.isStatics = false ∧ s.vm.findClass r.1 = some cell.cls := by
  obtain ⟨⟨sz, ct⟩, -, hH⟩ := h
  rcases hq sz ct with h1 | ⟨fs', h1⟩
  · exact Hd.recv hc ((cw_at hk).trans h1) hH hK
  · exact Hd.recv hc ((cw_at hk).trans h1) hH hK
theorem k_callC2 (T : SiteV own RX2 index y bytes maxL ret arn) (hk : kd b = 2) (hC : Ct d 0 0 y bytes maxL ret G A (.ref b :: As) (CH G A ad ar ow cap kd it σ) v J) (hd : decode cc pc = .ok (.invokevirtual index, 3)) (hn : As.length = arn) (hs : st0 = As.reverse ++ .ref b :: rest) (hrest : (rest.map fun v => v.category).sum ≤ 8) (hfr : d + 1 ≤ R.frames) (hlo : 8 + (maxL + 11) + 40 * d ≤ R.locals) (hce : k + 0 ≤ R.cells) (hsl : n + 0 ≤ R.slots)
    (kk : K p l e s m args below meth c R own cc nL rt G A Q k n J (pc + 3) lv (v.toList ++ rest)) : K p l e s m args below meth c R own cc nL rt G A Q k n (CH G A ad ar ow cap kd it σ) pc lv st0 :=
  k_callV' T hC hd hn hs hrest hfr hlo hce hsl (fun H h hK => CH.recv (r := (RX2, TX2, 2)) (fs := []) hk (fun sz ct => Or.inr ⟨_, rfl⟩) rfl h hK) (fun _ h => h) (fun _ h => h) (fun _ _ _ h _ _ => h) kk
theorem k_callC1 (T : SiteV own RX1 index y bytes maxL ret arn) (hst : CSt ad ar ow cap kd) (hC : Ct d 0 0 y bytes maxL ret G A (.ref (ad 2) :: As) (CH G A ad ar ow cap kd it σ) v J) (hd : decode cc pc = .ok (.invokevirtual index, 3)) (hn : As.length = arn) (hs : st0 = As.reverse ++ .ref (ad 2) :: rest) (hrest : (rest.map fun v => v.category).sum ≤ 8) (hfr : d + 1 ≤ R.frames) (hlo : 8 + (maxL + 11) + 40 * d ≤ R.locals) (hce : k + 0 ≤ R.cells) (hsl : n + 0 ≤ R.slots)
    (kk : K p l e s m args below meth c R own cc nL rt G A Q k n J (pc + 3) lv (v.toList ++ rest)) : K p l e s m args below meth c R own cc nL rt G A Q k n (CH G A ad ar ow cap kd it σ) pc lv st0 :=
  k_callV' T hC hd hn hs hrest hfr hlo hce hsl (fun H h hK => CH.recv (r := (RX1, TX1, 9)) (fs := []) (kd_ad hst (by decide)) (fun sz ct => Or.inr ⟨_, rfl⟩) rfl h hK) (fun _ h => h) (fun _ h => h) (fun _ _ _ h _ _ => h) kk
theorem k_callC3 (T : SiteV own RX3 index y bytes maxL ret arn) (hst : CSt ad ar ow cap kd) (hC : Ct d 0 0 y bytes maxL ret G A (.ref (ad 1) :: As) (CH G A ad ar ow cap kd it σ) v J) (hd : decode cc pc = .ok (.invokevirtual index, 3)) (hn : As.length = arn) (hs : st0 = As.reverse ++ .ref (ad 1) :: rest) (hrest : (rest.map fun v => v.category).sum ≤ 8) (hfr : d + 1 ≤ R.frames) (hlo : 8 + (maxL + 11) + 40 * d ≤ R.locals) (hce : k + 0 ≤ R.cells) (hsl : n + 0 ≤ R.slots)
    (kk : K p l e s m args below meth c R own cc nL rt G A Q k n J (pc + 3) lv (v.toList ++ rest)) : K p l e s m args below meth c R own cc nL rt G A Q k n (CH G A ad ar ow cap kd it σ) pc lv st0 :=
  k_callV' T hC hd hn hs hrest hfr hlo hce hsl (fun H h hK => CH.recv (r := (RX3, TX3, 5)) (fs := []) (kd_ad hst (by decide)) (fun sz ct => Or.inr ⟨_, rfl⟩) rfl h hK) (fun _ h => h) (fun _ h => h) (fun _ _ _ h _ _ => h) kk
end CCALL
/-! rows as lists -/
def atR (L : List (Option Nat)) (i : Int32) : Option Nat := if i < 0 then none else (L[i.toNatClampNeg]?).getD none
def addR (cp : Nat) (L : List (Option Nat)) (o : Option Nat) : List (Option Nat) := if L.length < cp then L ++ [o] else L
/-- all that stands in a row is an item -/
def RW (kd : Nat → Nat) (L : List (Option Nat)) : Prop := ∀ a, some a ∈ L → kd a = 1
def zRr (σ : CS) (r : Nat) (L : List (Option Nat)) : CS := zR σ (va_up (xR σ) r L)
section ROWL
variable {ad ar ow cap kd : Nat → Nat} {it : Nat → Da} {σ : CS} {sz : Nat → Int32} {ct : Nat → Nat → Option Nat} {r : Nat}
theorem cw_sz (hst : CSt ad ar ow cap kd) (hk : kd r = 2) (z : Int32) : us (cw ad ar ow cap kd it σ sz ct) r (.inr (2, [.ref (ar r), .int z])) = cw ad ar ow cap kd it σ (va_up sz r z) ct :=
  cw_up (by rw [hk]; simp only [cwk, va_up_self]) (fun q hq => by unfold cwk; simp only [va_up_ne _ _ hq])
theorem cw_ct (hst : CSt ad ar ow cap kd) (hk : kd r = 2) (f : Nat → Option Nat) : us (cw ad ar ow cap kd it σ sz ct) (ar r) (.inl (3, cap r, fun j => va_rf (f j))) = cw ad ar ow cap kd it σ sz (va_up ct r f) := by
  obtain ⟨h1, h2, h3⟩ := hst.2.2.1 r hk
  refine cw_up (by rw [h1]; simp only [cwk, h2, va_up_self]) (fun q hq => ?_)
  by_cases h : kd q = 3
  · have hne : ow q ≠ r := fun z => hq (by rw [← (hst.2.2.2.1 q h).2, z])
    rw [h]
    simp only [cwk, va_up_ne _ _ hne]
  · unfold cwk
    split <;> first | rfl | exact absurd (by assumption) h
theorem cw_zR (f : Nat → List (Option Nat)) : cw ad ar ow cap kd it (zR σ f) sz ct = cw ad ar ow cap kd it σ sz ct := rfl
theorem rls_set (h : RLs cap kd σ sz ct) {L : List (Option Nat)} {z : Int32} {f : Nat → Option Nat} (hz : z = nI L.length) (hl : L.length ≤ cap r) (hf : ∀ j x, L[j]? = some x → f j = x) : RLs cap kd (zRr σ r L) (va_up sz r z) (va_up ct r f) := by
  intro q hq
  unfold zRr
  rw [zR_R]
  by_cases hqr : q = r
  · subst hqr
    simp only [va_up_self]
    exact ⟨hz, hl, hf⟩
  · simp only [va_up_ne _ _ hqr]
    exact h q hq
theorem zRr_same {L : List (Option Nat)} : xR (zRr σ r L) r = L := by unfold zRr; rw [zR_R, va_up_self]
theorem zRr_ne {q : Nat} {L : List (Option Nat)} (h : q ≠ r) : xR (zRr σ r L) q = xR σ q := by unfold zRr; rw [zR_R, va_up_ne _ _ h]
theorem zRr_id : zRr σ r (xR σ r) = σ := by unfold zRr; rw [va_id]; rfl
theorem zRr_zRr {L L' : List (Option Nat)} : zRr (zRr σ r L) r L' = zRr σ r L' := by
  unfold zRr
  rw [zR_R]
  have : va_up (va_up (xR σ) r L) r L' = va_up (xR σ) r L' := by
    funext q
    unfold va_up
    split <;> rfl
  rw [this]
  rfl
end ROWL
section ROWM
variable {p : Program} {l : Launch} {e : Env} {s : State} {m : MethodId} {args : Array Value} {below : List Frame} {meth : Method} {c : Code} {R : Room} {G : Gd} {A : Nat → Prop} {Q : State → Prop} {k n : Nat} {ad ar ow cap kd : Nat → Nat} {it : Nat → Da} {σ : CS}
set_option maxRecDepth 4000 in
theorem r_at (hst : CSt ad ar ow cap kd) {r : Nat} (hk : kd r = 2) (i : Int32) : Ct 0 0 0 yX2_at cX2_at 2 (some (.object "EmberCache$Item")) G A [.ref r, .int i] (CH G A ad ar ow cap kd it σ) (some (va_rf (atR (xR σ r) i))) (CH G A ad ar ow cap kd it σ) := by
  refine Ct.of 0 rfl rfl (Nat.le_of_ble_eq_true rfl) ?_
  intro p l e s m below meth c hini
  have fin : atR (xR σ r) i = none → K p l e s m ([.ref r, .int i] : List Value).toArray below meth c (rmm 0 0 0) yX2_at.cls cX2_at 2 (some (.object "EmberCache$Item")) G A (MQ below (Qd (some (va_rf (atR (xR σ r) i))) (CH G A ad ar ow cap kd it σ) A) ([.ref r, .int i] : List Value).toArray s 0 0 A) 0 0 (CH G A ad ar ow cap kd it σ) 21 [some (.ref r), some (.int i)] [] := by
    intro h
    rw [h]
    refine k_null (pc := 21) dX2_at_21 ?_
    exact k_aret (pc := 22) dX2_at_22 rfl (fun _ h => h) (Nat.le_refl _) (Nat.le_refl _)
  have hlen : ∃ (N : Nat), (xR σ r).length ≤ N ∧ N ≤ 1000 ∨ True := ⟨0, Or.inr trivial⟩
  refine k_openC fun sz ct hr => ?_
  have h1000 : (xR σ r).length ≤ 1000 := Nat.le_trans (hr r hk).2.1 (hst.2.2.1 r hk).2.2
  refine k_closeC hr ?_
  refine k_iload_n (pc := 0) dX2_at_0 rfl ?_
  refine k_if_lt (tgt := 21) (pc := 1) dX2_at_1 (by decide) (fun h1 => ?_) (fun h1 => ?_)
  · exact fin (by unfold atR; rw [if_pos h1])
  · obtain ⟨j, hj, e3⟩ := nI_of h1
    have ha : atR (xR σ r) i = ((xR σ r)[j]?).getD none := by unfold atR; rw [if_neg h1, e3, nI_clamp hj]
    refine k_iload_n (pc := 4) dX2_at_4 rfl ?_
    refine k_aload_n (pc := 5) dX2_at_5 rfl ?_
    refine h_X2_23 hk (pc := 6) dX2_at_6 ?_
    by_cases hjl : j < (xR σ r).length
    · refine k_icmp_ge (tgt := 21) (pc := 9) dX2_at_9 (by decide) (fun c => absurd (e3 ▸ c) (nI_ge hjl (by omega))) (fun _ => ?_)
      cases ho : (xR σ r)[j] with
      | none =>
        have hb : (xR σ r)[j]? = some none := by rw [List.getElem?_eq_getElem hjl, ho]
        rw [ha, hb]
        refine k_aload_n (pc := 12) dX2_at_12 rfl ?_
        refine h_X2_17 hk (pc := 13) dX2_at_13 ?_
        refine k_iload_n (pc := 16) dX2_at_16 rfl ?_
        refine rw_ldN hst hk hb (pc := 17) dX2_at_17 e3 ?_
        refine k_goto (tgt := 22) (pc := 18) dX2_at_18 (by decide) ?_
        exact k_aret (pc := 22) dX2_at_22 rfl (fun _ h => h) (Nat.le_refl _) (Nat.le_refl _)
      | some b =>
        have hb : (xR σ r)[j]? = some (some b) := by rw [List.getElem?_eq_getElem hjl, ho]
        rw [ha, hb]
        refine k_aload_n (pc := 12) dX2_at_12 rfl ?_
        refine h_X2_17 hk (pc := 13) dX2_at_13 ?_
        refine k_iload_n (pc := 16) dX2_at_16 rfl ?_
        refine rw_ld hst hk hb (pc := 17) dX2_at_17 e3 ?_
        refine k_goto (tgt := 22) (pc := 18) dX2_at_18 (by decide) ?_
        exact k_aret (pc := 22) dX2_at_22 rfl (fun _ h => h) (Nat.le_refl _) (Nat.le_refl _)
    · refine k_icmp_ge (tgt := 21) (pc := 9) dX2_at_9 (by decide) (fun _ => ?_) (fun c => absurd (e3 ▸ nI_le (by omega) hj) c)
      exact fin (by rw [ha, List.getElem?_eq_none (by omega)]; rfl)
set_option maxRecDepth 4000 in
theorem r_clear (hst : CSt ad ar ow cap kd) {r : Nat} (hk : kd r = 2) : Ct 0 0 0 yX2_clear cX2_clear 1 (none) G A [.ref r] (CH G A ad ar ow cap kd it σ) (none) (CH G A ad ar ow cap kd it (zRr σ r [])) := by
  refine Ct.of 0 rfl rfl (Nat.le_of_ble_eq_true rfl) ?_
  intro p l e s m below meth c hini
  refine k_openC fun sz ct hr => ?_
  refine k_aload_n (pc := 0) dX2_clear_0 rfl ?_
  refine k_iconst (v := 0) (pc := 1) dX2_clear_1 (by decide) ?_
  refine p_X2_23 (pc := 2) dX2_clear_2 (cw_at hk) rfl rfl (Nat.le_of_ble_eq_true rfl) ?_
  rw [show ([.ref (ar r), .int (sz r)] : List Value).set 1 (.int 0) = [.ref (ar r), .int 0] from rfl, cw_sz hst hk]
  exact k_vret (pc := 5) dX2_clear_5 (CH.of (σ := zRr σ r []) (by have := rls_set (r := r) hr (L := []) (z := 0) (f := ct r) rfl (Nat.zero_le _) (fun j x h => by simp at h); rwa [va_id] at this)) (Nat.le_refl _) (Nat.le_refl _)
set_option maxRecDepth 4000 in
theorem r_add (hst : CSt ad ar ow cap kd) {r : Nat} (hk : kd r = 2) (a : Nat) (ha : kd a = 1) : Ct 0 0 0 yX2_add cX2_add 2 (none) G A [.ref r, .ref a] (CH G A ad ar ow cap kd it σ) (none) (CH G A ad ar ow cap kd it (zRr σ r (addR (cap r) (xR σ r) (some a)))) := by
  refine Ct.of 0 rfl rfl (Nat.le_of_ble_eq_true rfl) ?_
  intro p l e s m below meth c hini
  refine k_openC fun sz ct hr => ?_
  obtain ⟨q1, q2, q3⟩ := hr r hk
  obtain ⟨h1, h2, h3⟩ := hst.2.2.1 r hk
  have hcell : cw ad ar ow cap kd it σ sz ct (ar r) = some (.inl (3, cap r, fun q => va_rf (ct r q))) := (cw_at h1).trans (by simp only [cwk, h2])
  refine k_aload_n (pc := 0) dX2_add_0 rfl ?_
  refine g_X2_23 (pc := 1) dX2_add_1 (cw_at hk) rfl ?_
  refine k_aload_n (pc := 4) dX2_add_4 rfl ?_
  refine g_X2_17 (pc := 5) dX2_add_5 (cw_at hk) rfl ?_
  refine k_alen (ty := .object "EmberCache$Item") rfl (pc := 8) dX2_add_8 hcell ?_
  rw [q1]
  by_cases hlt : (xR σ r).length < cap r
  · refine k_icmp_ge (tgt := 32) (pc := 9) dX2_add_9 (by decide) (fun c => absurd c (nI_ge hlt (by omega))) (fun _ => ?_)
    refine k_aload_n (pc := 12) dX2_add_12 rfl ?_
    refine g_X2_17 (pc := 13) dX2_add_13 (cw_at hk) rfl ?_
    refine k_aload_n (pc := 16) dX2_add_16 rfl ?_
    refine g_X2_23 (pc := 17) dX2_add_17 (cw_at hk) rfl ?_
    refine k_aload_n (pc := 20) dX2_add_20 rfl ?_
    refine k_aast (ci := 0) rfl rfl (pc := 21) dX2_add_21 hcell (cw_at ha) q1 hlt (by omega) ?_
    rw [cw_ct hst hk]
    refine k_aload_n (pc := 22) dX2_add_22 rfl ?_
    refine k_dup (pc := 23) dX2_add_23 rfl ?_
    refine g_X2_23 (pc := 24) dX2_add_24 (cw_at hk) rfl ?_
    refine k_iconst (v := 1) (pc := 27) dX2_add_27 (by decide) ?_
    refine k_iadd (pc := 28) dX2_add_28 ?_
    refine p_X2_23 (pc := 29) dX2_add_29 (cw_at hk) rfl rfl (Nat.le_of_ble_eq_true rfl) ?_
    rw [show ([.ref (ar r), .int (sz r)] : List Value).set 1 (.int (sz r + 1)) = [.ref (ar r), .int (sz r + 1)] from rfl, cw_sz hst hk]
    have hadd : addR (cap r) (xR σ r) (some a) = xR σ r ++ [some a] := if_pos hlt
    rw [hadd]
    refine k_vret (pc := 32) dX2_add_32 (CH.of (σ := zRr σ r (xR σ r ++ [some a])) (rls_set hr (by rw [q1, nI_1, List.length_append]; rfl) (by simp; omega) (fun j x hj => ?_))) (Nat.le_refl _) (Nat.le_refl _)
    by_cases hjl : j < (xR σ r).length
    · rw [List.getElem?_append_left hjl] at hj
      rw [va_up_ne _ _ (by omega)]
      exact q3 j x hj
    · rw [List.getElem?_append_right (by omega)] at hj
      have hj2 : j = (xR σ r).length := by
        have := (List.getElem?_eq_some_iff.mp hj).1
        simp at this
        omega
      subst hj2
      simp at hj
      rw [va_up_self, hj]
  · refine k_icmp_ge (tgt := 32) (pc := 9) dX2_add_9 (by decide) (fun _ => ?_) (fun c => absurd (nI_le (by omega) (by omega)) c)
    have hadd : addR (cap r) (xR σ r) (some a) = xR σ r := if_neg hlt
    rw [hadd, zRr_id]
    exact k_vret (pc := 32) dX2_add_32 (CH.of hr) (Nat.le_refl _) (Nat.le_refl _)
set_option maxRecDepth 4000 in
theorem r_blank (hst : CSt ad ar ow cap kd) {r : Nat} (hk : kd r = 2) (j : Nat) (hj : j < (xR σ r).length) : Ct 0 0 0 yX2_blank cX2_blank 2 (none) G A [.ref r, .int (nI j)] (CH G A ad ar ow cap kd it σ) (none) (CH G A ad ar ow cap kd it (zRr σ r ((xR σ r).set j none))) := by
  refine Ct.of 0 rfl rfl (Nat.le_of_ble_eq_true rfl) ?_
  intro p l e s m below meth c hini
  refine k_openC fun sz ct hr => ?_
  obtain ⟨q1, q2, q3⟩ := hr r hk
  obtain ⟨h1, h2, h3⟩ := hst.2.2.1 r hk
  have hcell : cw ad ar ow cap kd it σ sz ct (ar r) = some (.inl (3, cap r, fun q => va_rf (ct r q))) := (cw_at h1).trans (by simp only [cwk, h2])
  refine k_iload_n (pc := 0) dX2_blank_0 rfl ?_
  refine k_if_lt (tgt := 19) (pc := 1) dX2_blank_1 (by decide) (fun c => absurd c (nI_pos (by omega))) (fun _ => ?_)
  refine k_iload_n (pc := 4) dX2_blank_4 rfl ?_
  refine k_aload_n (pc := 5) dX2_blank_5 rfl ?_
  refine g_X2_23 (pc := 6) dX2_blank_6 (cw_at hk) rfl ?_
  rw [q1]
  refine k_icmp_ge (tgt := 19) (pc := 9) dX2_blank_9 (by decide) (fun c => absurd c (nI_ge hj (by omega))) (fun _ => ?_)
  refine k_aload_n (pc := 12) dX2_blank_12 rfl ?_
  refine g_X2_17 (pc := 13) dX2_blank_13 (cw_at hk) rfl ?_
  refine k_iload_n (pc := 16) dX2_blank_16 rfl ?_
  refine k_null (pc := 17) dX2_blank_17 ?_
  refine k_aastN (C := "EmberCache$Item") rfl (pc := 18) dX2_blank_18 hcell rfl (by omega) (by omega) ?_
  rw [cw_ct hst hk]
  refine k_vret (pc := 19) dX2_blank_19 (CH.of (σ := zRr σ r ((xR σ r).set j none)) ?_) (Nat.le_refl _) (Nat.le_refl _)
  have hnew := rls_set (r := r) hr (L := (xR σ r).set j none) (z := sz r) (f := va_up (ct r) j none) (by rw [q1, List.length_set]) (by rw [List.length_set]; exact q2) (fun i x hi => by
    by_cases hij : i = j
    · subst hij
      rw [List.getElem?_set_self hj] at hi
      cases hi
      rw [va_up_self]
    · rw [List.getElem?_set_ne (Ne.symm hij)] at hi
      rw [va_up_ne _ _ hij]
      exact q3 i x hi)
  rwa [va_id] at hnew
end ROWM
