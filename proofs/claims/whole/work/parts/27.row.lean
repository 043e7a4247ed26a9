def keyIs (it : Nat → Da) (key : Int64) (o : Option Nat) : Bool := match o with
  | some a => (it a).1 == key
  | none => false
def liveIs (it : Nat → Da) (il : Nat → Bool) (key : Int64) (o : Option Nat) : Bool := match o with
  | some a => (it a).1 == key && il a
  | none => false
def inL (il : Nat → Bool) (o : Option Nat) : Bool := match o with
  | some a => il a
  | none => false
def plO (it : Nat → Da) (o : Option Nat) : Nat := match o with
  | some a => plc (it a)
  | none => 0
def plR (it : Nat → Da) (xs : List (Option Nat)) : Nat := (xs.map (plO it)).sum
def orO (it : Nat → Da) (f : Int64) (o : Option Nat) : Int64 := match o with
  | some a => f ||| bitI (it a).1
  | none => f
def flR (it : Nat → Da) (xs : List (Option Nat)) : Int64 := xs.foldl (orO it) 0
def selO (it : Nat → Da) (il : Nat → Bool) (s : Nat) (o : Option Nat) : Bool := match o with
  | some a => il a && setN (it a).1 == s
  | none => false
def addsR (cp : Nat) (xs ys : List (Option Nat)) : List (Option Nat) := ys.foldl (addR cp) xs
theorem addsR_snoc (cp : Nat) (xs ys : List (Option Nat)) (o : Option Nat) : addsR cp xs (ys ++ [o]) = addR cp (addsR cp xs ys) o := by simp [addsR]
theorem take_snoc {α : Type} {xs : List α} {i : Nat} {o : α} (h : xs[i]? = some o) : xs.take (i + 1) = xs.take i ++ [o] := by
  rw [List.take_add_one, h]
  rfl
section ROWN
variable {p : Program} {l : Launch} {e : Env} {s : State} {m : MethodId} {args : Array Value} {below : List Frame} {meth : Method} {c : Code} {R : Room} {G : Gd} {A : Nat → Prop} {Q : State → Prop} {k n : Nat} {ad ar ow cap kd : Nat → Nat} {it : Nat → Da} {σ : CS}
theorem k_len (hst : CSt ad ar ow cap kd) {own : String} {cc : ByteArray} {nL : Nat} {rt : Option FieldType} {pc : Nat} {lv : List (Option Value)} {st : List Value} {r : Nat} (hk : kd r = 2) (kk : (xR σ r).length ≤ cap r → (xR σ r).length ≤ 1000 → K p l e s m args below meth c R own cc nL rt G A Q k n (CH G A ad ar ow cap kd it σ) pc lv st) : K p l e s m args below meth c R own cc nL rt G A Q k n (CH G A ad ar ow cap kd it σ) pc lv st :=
  k_openC fun sz ct hr => k_closeC hr (kk (hr r hk).2.1 (Nat.le_trans (hr r hk).2.1 (hst.2.2.1 r hk).2.2))
set_option maxRecDepth 4000 in
theorem r_indexOf (hst : CSt ad ar ow cap kd) {r : Nat} (hk : kd r = 2) (hw : RW kd (xR σ r)) (key : Int64) : Ct 0 0 0 yX2_indexOf cX2_indexOf 5 (some .int) G A [.ref r, .long key] (CH G A ad ar ow cap kd it σ) (some (.int (oI ((xR σ r).findIdx? (keyIs it key))))) (CH G A ad ar ow cap kd it σ) := by
  refine Ct.of 2 rfl rfl (Nat.le_of_ble_eq_true rfl) ?_
  intro p l e s m below meth c hini
  refine k_len hst hk fun _ h1000 => ?_
  have loop : ∀ j i : Nat, i + j = (xR σ r).length → fromIx (keyIs it key) (xR σ r) i = (xR σ r).findIdx? (keyIs it key) → K p l e s m ([.ref r, .long key] : List Value).toArray below meth c (rmm 0 0 0) yX2_indexOf.cls cX2_indexOf 5 (some .int) G A (MQ below (Qd (some (.int (oI ((xR σ r).findIdx? (keyIs it key))))) (CH G A ad ar ow cap kd it σ) A) ([.ref r, .long key] : List Value).toArray s 0 0 A) 0 0 (CH G A ad ar ow cap kd it σ) 2 [some (.ref r), some (.long key), none, some (.int (nI i)), none] [] := by
    intro j
    induction j with
    | zero =>
      intro i hi hf
      have hi6 : i = (xR σ r).length := by omega
      subst hi6
      rw [fromIx_end] at hf
      refine k_iload_n (pc := 2) dX2_indexOf_2 rfl ?_
      refine k_aload_n (pc := 3) dX2_indexOf_3 rfl ?_
      refine h_X2_23 hk (pc := 4) dX2_indexOf_4 ?_
      refine k_icmp_ge (tgt := 41) (pc := 7) dX2_indexOf_7 (by decide) (fun _ => ?_) (fun c => absurd (nI_le (Nat.le_refl _) (by omega)) c)
      rw [← hf]
      refine k_iconst (v := -1) (pc := 41) dX2_indexOf_41 (by decide) ?_
      exact k_iret (pc := 42) dX2_indexOf_42 rfl (fun _ h => h) (Nat.le_refl _) (Nat.le_refl _)
    | succ j ih =>
      intro i hi hf
      obtain ⟨o, ho⟩ : ∃ o, (xR σ r)[i]? = some o := ⟨_, List.getElem?_eq_getElem (by omega)⟩
      rw [fromIx_step ho] at hf
      refine k_iload_n (pc := 2) dX2_indexOf_2 rfl ?_
      refine k_aload_n (pc := 3) dX2_indexOf_3 rfl ?_
      refine h_X2_23 hk (pc := 4) dX2_indexOf_4 ?_
      refine k_icmp_ge (tgt := 41) (pc := 7) dX2_indexOf_7 (by decide) (fun c => absurd c (nI_ge (by omega) (by omega))) (fun _ => ?_)
      cases o with
      | none =>
        rw [if_neg (by simp [keyIs])] at hf
        refine k_aload_n (pc := 10) dX2_indexOf_10 rfl ?_
        refine h_X2_17 hk (pc := 11) dX2_indexOf_11 ?_
        refine k_iload_n (pc := 14) dX2_indexOf_14 rfl ?_
        refine rw_ldN hst hk ho (pc := 15) dX2_indexOf_15 rfl ?_
        refine k_astoreN (pc := 16) dX2_indexOf_16 (by decide) rfl ?_
        refine k_aloadN (pc := 18) dX2_indexOf_18 rfl ?_
        refine k_ifnullN (tgt := 35) (pc := 20) dX2_indexOf_20 (by decide) ?_
        refine k_iinc (pc := 35) dX2_indexOf_35 rfl (nI_inc _) (by decide) rfl ?_
        refine k_goto (tgt := 2) (pc := 38) dX2_indexOf_38 (by decide) ?_
        exact k_lv (fun i v h => by match i, h with | 0, h => exact h | 1, h => exact h | 2, h => exact h | 3, h => exact h | 4, h => cases h | i + 5, h => cases h) (ih (i + 1) (by omega) hf)
      | some b =>
        have hb := hw b (List.mem_of_getElem? ho)
        refine k_aload_n (pc := 10) dX2_indexOf_10 rfl ?_
        refine h_X2_17 hk (pc := 11) dX2_indexOf_11 ?_
        refine k_iload_n (pc := 14) dX2_indexOf_14 rfl ?_
        refine rw_ld hst hk ho (pc := 15) dX2_indexOf_15 rfl ?_
        refine k_astore (pc := 16) dX2_indexOf_16 (by decide) rfl ?_
        refine k_aload (pc := 18) dX2_indexOf_18 rfl ?_
        refine k_ifnull (pc := 20) dX2_indexOf_20 ?_
        refine k_aload (pc := 23) dX2_indexOf_23 rfl ?_
        refine h_X2_42 hb (pc := 25) dX2_indexOf_25 ?_
        refine k_lload_n (pc := 28) dX2_indexOf_28 rfl ?_
        refine k_lcmp (pc := 29) dX2_indexOf_29 ?_
        refine k_if_ne (tgt := 35) (pc := 30) dX2_indexOf_30 (by decide) (fun h2 => ?_) (fun h2 => ?_)
        · rw [if_neg (by simpa [keyIs] using cmp_ne h2)] at hf
          refine k_iinc (pc := 35) dX2_indexOf_35 rfl (nI_inc _) (by decide) rfl ?_
          refine k_goto (tgt := 2) (pc := 38) dX2_indexOf_38 (by decide) ?_
          exact k_lv (fun i v h => by match i, h with | 0, h => exact h | 1, h => exact h | 2, h => exact h | 3, h => exact h | 4, h => cases h | i + 5, h => cases h) (ih (i + 1) (by omega) hf)
        · rw [if_pos (by simpa [keyIs] using cmp_eq h2)] at hf
          rw [← hf]
          refine k_iload_n (pc := 33) dX2_indexOf_33 rfl ?_
          exact k_iret (pc := 34) dX2_indexOf_34 rfl (fun _ h => h) (Nat.le_refl _) (Nat.le_refl _)
  refine k_iconst (v := 0) (pc := 0) dX2_indexOf_0 (by decide) ?_
  refine k_istore_n (pc := 1) dX2_indexOf_1 (by decide) rfl ?_
  exact loop (xR σ r).length 0 (by omega) (fromIx_0 _ _)
theorem find_from {α : Type} {q : α → Bool} {xs : List α} {i : Nat} {o : α} (h : xs[i]? = some o) : (xs.drop i).find? q = if q o then some o else (xs.drop (i + 1)).find? q := by
  obtain ⟨h1, h2⟩ := List.getElem?_eq_some_iff.mp h
  rw [List.drop_eq_getElem_cons h1, List.find?_cons, h2]
  split <;> simp_all
set_option maxRecDepth 4000 in
theorem r_findInLog (hst : CSt ad ar ow cap kd) {r : Nat} (hk : kd r = 2) (hw : RW kd (xR σ r)) (key : Int64) : Ct 0 0 0 yX2_findInLog cX2_findInLog 5 (some (.object "EmberCache$Item")) G A [.ref r, .long key] (CH G A ad ar ow cap kd it σ) (some (va_rf (((xR σ r).find? (liveIs it (xI σ) key)).getD none))) (CH G A ad ar ow cap kd it σ) := by
  refine Ct.of 2 rfl rfl (Nat.le_of_ble_eq_true rfl) ?_
  intro p l e s m below meth c hini
  refine k_len hst hk fun _ h1000 => ?_
  have loop : ∀ j i : Nat, i + j = (xR σ r).length → ((xR σ r).drop i).find? (liveIs it (xI σ) key) = (xR σ r).find? (liveIs it (xI σ) key) → K p l e s m ([.ref r, .long key] : List Value).toArray below meth c (rmm 0 0 0) yX2_findInLog.cls cX2_findInLog 5 (some (.object "EmberCache$Item")) G A (MQ below (Qd (some (va_rf (((xR σ r).find? (liveIs it (xI σ) key)).getD none))) (CH G A ad ar ow cap kd it σ) A) ([.ref r, .long key] : List Value).toArray s 0 0 A) 0 0 (CH G A ad ar ow cap kd it σ) 2 [some (.ref r), some (.long key), none, some (.int (nI i)), none] [] := by
    intro j
    induction j with
    | zero =>
      intro i hi hf
      have hi6 : i = (xR σ r).length := by omega
      subst hi6
      rw [List.drop_length] at hf
      refine k_iload_n (pc := 2) dX2_findInLog_2 rfl ?_
      refine k_aload_n (pc := 3) dX2_findInLog_3 rfl ?_
      refine h_X2_23 hk (pc := 4) dX2_findInLog_4 ?_
      refine k_icmp_ge (tgt := 50) (pc := 7) dX2_findInLog_7 (by decide) (fun _ => ?_) (fun c => absurd (nI_le (Nat.le_refl _) (by omega)) c)
      rw [← hf]
      refine k_null (pc := 50) dX2_findInLog_50 ?_
      exact k_aret (pc := 51) dX2_findInLog_51 rfl (fun _ h => h) (Nat.le_refl _) (Nat.le_refl _)
    | succ j ih =>
      intro i hi hf
      obtain ⟨o, ho⟩ : ∃ o, (xR σ r)[i]? = some o := ⟨_, List.getElem?_eq_getElem (by omega)⟩
      rw [find_from ho] at hf
      refine k_iload_n (pc := 2) dX2_findInLog_2 rfl ?_
      refine k_aload_n (pc := 3) dX2_findInLog_3 rfl ?_
      refine h_X2_23 hk (pc := 4) dX2_findInLog_4 ?_
      refine k_icmp_ge (tgt := 50) (pc := 7) dX2_findInLog_7 (by decide) (fun c => absurd c (nI_ge (by omega) (by omega))) (fun _ => ?_)
      cases o with
      | none =>
        rw [if_neg (by simp [liveIs])] at hf
        refine k_aload_n (pc := 10) dX2_findInLog_10 rfl ?_
        refine h_X2_17 hk (pc := 11) dX2_findInLog_11 ?_
        refine k_iload_n (pc := 14) dX2_findInLog_14 rfl ?_
        refine rw_ldN hst hk ho (pc := 15) dX2_findInLog_15 rfl ?_
        refine k_astoreN (pc := 16) dX2_findInLog_16 (by decide) rfl ?_
        refine k_aloadN (pc := 18) dX2_findInLog_18 rfl ?_
        refine k_ifnullN (tgt := 44) (pc := 20) dX2_findInLog_20 (by decide) ?_
        refine k_iinc (pc := 44) dX2_findInLog_44 rfl (nI_inc _) (by decide) rfl ?_
        refine k_goto (tgt := 2) (pc := 47) dX2_findInLog_47 (by decide) ?_
        exact k_lv (fun i v h => by match i, h with | 0, h => exact h | 1, h => exact h | 2, h => exact h | 3, h => exact h | 4, h => cases h | i + 5, h => cases h) (ih (i + 1) (by omega) hf)
      | some b =>
        have hb := hw b (List.mem_of_getElem? ho)
        refine k_aload_n (pc := 10) dX2_findInLog_10 rfl ?_
        refine h_X2_17 hk (pc := 11) dX2_findInLog_11 ?_
        refine k_iload_n (pc := 14) dX2_findInLog_14 rfl ?_
        refine rw_ld hst hk ho (pc := 15) dX2_findInLog_15 rfl ?_
        refine k_astore (pc := 16) dX2_findInLog_16 (by decide) rfl ?_
        refine k_aload (pc := 18) dX2_findInLog_18 rfl ?_
        refine k_ifnull (pc := 20) dX2_findInLog_20 ?_
        refine k_aload (pc := 23) dX2_findInLog_23 rfl ?_
        refine h_X2_42 hb (pc := 25) dX2_findInLog_25 ?_
        refine k_lload_n (pc := 28) dX2_findInLog_28 rfl ?_
        refine k_lcmp (pc := 29) dX2_findInLog_29 ?_
        refine k_if_ne (tgt := 44) (pc := 30) dX2_findInLog_30 (by decide) (fun h2 => ?_) (fun h2 => ?_)
        · rw [if_neg (by simp [liveIs, cmp_ne h2])] at hf
          refine k_iinc (pc := 44) dX2_findInLog_44 rfl (nI_inc _) (by decide) rfl ?_
          refine k_goto (tgt := 2) (pc := 47) dX2_findInLog_47 (by decide) ?_
          exact k_lv (fun i v h => by match i, h with | 0, h => exact h | 1, h => exact h | 2, h => exact h | 3, h => exact h | 4, h => cases h | i + 5, h => cases h) (ih (i + 1) (by omega) hf)
        · refine k_aload (pc := 33) dX2_findInLog_33 rfl ?_
          refine h_X2_35 hb (pc := 35) dX2_findInLog_35 ?_
          refine k_if_eq (tgt := 44) (pc := 38) dX2_findInLog_38 (by decide) (fun h3 => ?_) (fun h3 => ?_)
          · rw [if_neg (by simp [liveIs, bI_f h3])] at hf
            refine k_iinc (pc := 44) dX2_findInLog_44 rfl (nI_inc _) (by decide) rfl ?_
            refine k_goto (tgt := 2) (pc := 47) dX2_findInLog_47 (by decide) ?_
            exact k_lv (fun i v h => by match i, h with | 0, h => exact h | 1, h => exact h | 2, h => exact h | 3, h => exact h | 4, h => cases h | i + 5, h => cases h) (ih (i + 1) (by omega) hf)
          · rw [if_pos (by simp [liveIs, cmp_eq h2, bI_t h3])] at hf
            rw [← hf]
            refine k_aload (pc := 41) dX2_findInLog_41 rfl ?_
            exact k_aret (pc := 43) dX2_findInLog_43 rfl (fun _ h => h) (Nat.le_refl _) (Nat.le_refl _)
  refine k_iconst (v := 0) (pc := 0) dX2_findInLog_0 (by decide) ?_
  refine k_istore_n (pc := 1) dX2_findInLog_1 (by decide) rfl ?_
  exact loop (xR σ r).length 0 (by omega) rfl
theorem cntO_next {xs : List (Option Nat)} {i : Nat} {o : Option Nat} (pr : Option Nat → Bool) (he : xs[i]? = some o) : nI ((xs.take (i + 1)).filter pr).length = if pr o then nI ((xs.take i).filter pr).length + 1 else nI ((xs.take i).filter pr).length := by
  rw [take_snoc he, List.filter_append]
  by_cases h : pr o
  · simp [h, nI_1]
  · simp [h]
set_option maxRecDepth 4000 in
theorem r_countInLog (hst : CSt ad ar ow cap kd) {r : Nat} (hk : kd r = 2) (hw : RW kd (xR σ r)) : Ct 0 0 0 yX2_countInLog cX2_countInLog 4 (some .int) G A [.ref r] (CH G A ad ar ow cap kd it σ) (some (.int (nI ((xR σ r).filter (inL (xI σ))).length))) (CH G A ad ar ow cap kd it σ) := by
  refine Ct.of 3 rfl rfl (Nat.le_of_ble_eq_true rfl) ?_
  intro p l e s m below meth c hini
  refine k_len hst hk fun _ h1000 => ?_
  have loop : ∀ j i : Nat, i + j = (xR σ r).length → K p l e s m ([.ref r] : List Value).toArray below meth c (rmm 0 0 0) yX2_countInLog.cls cX2_countInLog 4 (some .int) G A (MQ below (Qd (some (.int (nI ((xR σ r).filter (inL (xI σ))).length))) (CH G A ad ar ow cap kd it σ) A) ([.ref r] : List Value).toArray s 0 0 A) 0 0 (CH G A ad ar ow cap kd it σ) 4 [some (.ref r), some (.int (nI (((xR σ r).take i).filter (inL (xI σ))).length)), some (.int (nI i)), none] [] := by
    intro j
    induction j with
    | zero =>
      intro i hi
      have hi6 : i = (xR σ r).length := by omega
      subst hi6
      refine k_iload_n (pc := 4) dX2_countInLog_4 rfl ?_
      refine k_aload_n (pc := 5) dX2_countInLog_5 rfl ?_
      refine h_X2_23 hk (pc := 6) dX2_countInLog_6 ?_
      refine k_icmp_ge (tgt := 39) (pc := 9) dX2_countInLog_9 (by decide) (fun _ => ?_) (fun c => absurd (nI_le (Nat.le_refl _) (by omega)) c)
      rw [List.take_length]
      refine k_iload_n (pc := 39) dX2_countInLog_39 rfl ?_
      exact k_iret (pc := 40) dX2_countInLog_40 rfl (fun _ h => h) (Nat.le_refl _) (Nat.le_refl _)
    | succ j ih =>
      intro i hi
      obtain ⟨o, ho⟩ : ∃ o, (xR σ r)[i]? = some o := ⟨_, List.getElem?_eq_getElem (by omega)⟩
      have step := ih (i + 1) (by omega)
      rw [cntO_next _ ho] at step
      refine k_iload_n (pc := 4) dX2_countInLog_4 rfl ?_
      refine k_aload_n (pc := 5) dX2_countInLog_5 rfl ?_
      refine h_X2_23 hk (pc := 6) dX2_countInLog_6 ?_
      refine k_icmp_ge (tgt := 39) (pc := 9) dX2_countInLog_9 (by decide) (fun c => absurd c (nI_ge (by omega) (by omega))) (fun _ => ?_)
      cases o with
      | none =>
        rw [if_neg (by simp [inL])] at step
        refine k_aload_n (pc := 12) dX2_countInLog_12 rfl ?_
        refine h_X2_17 hk (pc := 13) dX2_countInLog_13 ?_
        refine k_iload_n (pc := 16) dX2_countInLog_16 rfl ?_
        refine rw_ldN hst hk ho (pc := 17) dX2_countInLog_17 rfl ?_
        refine k_astore_nN (pc := 18) dX2_countInLog_18 (by decide) rfl ?_
        refine k_aload_nN (pc := 19) dX2_countInLog_19 rfl ?_
        refine k_ifnullN (tgt := 33) (pc := 20) dX2_countInLog_20 (by decide) ?_
        refine k_iinc (pc := 33) dX2_countInLog_33 rfl (nI_inc _) (by decide) rfl ?_
        refine k_goto (tgt := 4) (pc := 36) dX2_countInLog_36 (by decide) ?_
        exact k_lv (fun i v h => by match i, h with | 0, h => exact h | 1, h => exact h | 2, h => exact h | 3, h => cases h | i + 4, h => cases h) step
      | some b =>
        have hb := hw b (List.mem_of_getElem? ho)
        refine k_aload_n (pc := 12) dX2_countInLog_12 rfl ?_
        refine h_X2_17 hk (pc := 13) dX2_countInLog_13 ?_
        refine k_iload_n (pc := 16) dX2_countInLog_16 rfl ?_
        refine rw_ld hst hk ho (pc := 17) dX2_countInLog_17 rfl ?_
        refine k_astore_n (pc := 18) dX2_countInLog_18 (by decide) rfl ?_
        refine k_aload_n (pc := 19) dX2_countInLog_19 rfl ?_
        refine k_ifnull (pc := 20) dX2_countInLog_20 ?_
        refine k_aload_n (pc := 23) dX2_countInLog_23 rfl ?_
        refine h_X2_35 hb (pc := 24) dX2_countInLog_24 ?_
        refine k_if_eq (tgt := 33) (pc := 27) dX2_countInLog_27 (by decide) (fun h3 => ?_) (fun h3 => ?_)
        · rw [if_neg (by simp [inL, bI_f h3])] at step
          refine k_iinc (pc := 33) dX2_countInLog_33 rfl (nI_inc _) (by decide) rfl ?_
          refine k_goto (tgt := 4) (pc := 36) dX2_countInLog_36 (by decide) ?_
          exact k_lv (fun i v h => by match i, h with | 0, h => exact h | 1, h => exact h | 2, h => exact h | 3, h => cases h | i + 4, h => cases h) step
        · rw [if_pos (by simp [inL, bI_t h3])] at step
          refine k_iinc (pc := 30) dX2_countInLog_30 rfl rfl (by decide) rfl ?_
          refine k_iinc (pc := 33) dX2_countInLog_33 rfl (nI_inc _) (by decide) rfl ?_
          refine k_goto (tgt := 4) (pc := 36) dX2_countInLog_36 (by decide) ?_
          exact k_lv (fun i v h => by match i, h with | 0, h => exact h | 1, h => exact h | 2, h => exact h | 3, h => cases h | i + 4, h => cases h) step
  refine k_iconst (v := 0) (pc := 0) dX2_countInLog_0 (by decide) ?_
  refine k_istore_n (pc := 1) dX2_countInLog_1 (by decide) rfl ?_
  refine k_iconst (v := 0) (pc := 2) dX2_countInLog_2 (by decide) ?_
  refine k_istore_n (pc := 3) dX2_countInLog_3 (by decide) rfl ?_
  exact loop (xR σ r).length 0 (by omega)
theorem plR_next {it : Nat → Da} {xs : List (Option Nat)} {i : Nat} {o : Option Nat} (he : xs[i]? = some o) : nI (plR it (xs.take (i + 1))) = nI (plR it (xs.take i)) + nI (plO it o) := by
  rw [take_snoc he, nI_add]
  simp [plR]
set_option maxRecDepth 4000 in
theorem r_places (hst : CSt ad ar ow cap kd) {r : Nat} (hk : kd r = 2) (hw : RW kd (xR σ r)) : Ct 0 0 0 yX2_places cX2_places 4 (some .int) G A [.ref r] (CH G A ad ar ow cap kd it σ) (some (.int (nI (plR it (xR σ r))))) (CH G A ad ar ow cap kd it σ) := by
  refine Ct.of 3 rfl rfl (Nat.le_of_ble_eq_true rfl) ?_
  intro p l e s m below meth c hini
  refine k_len hst hk fun _ h1000 => ?_
  have loop : ∀ j i : Nat, i + j = (xR σ r).length → K p l e s m ([.ref r] : List Value).toArray below meth c (rmm 0 0 0) yX2_places.cls cX2_places 4 (some .int) G A (MQ below (Qd (some (.int (nI (plR it (xR σ r))))) (CH G A ad ar ow cap kd it σ) A) ([.ref r] : List Value).toArray s 0 0 A) 0 0 (CH G A ad ar ow cap kd it σ) 4 [some (.ref r), some (.int (nI (plR it ((xR σ r).take i)))), some (.int (nI i)), none] [] := by
    intro j
    induction j with
    | zero =>
      intro i hi
      have hi6 : i = (xR σ r).length := by omega
      subst hi6
      refine k_iload_n (pc := 4) dX2_places_4 rfl ?_
      refine k_aload_n (pc := 5) dX2_places_5 rfl ?_
      refine h_X2_23 hk (pc := 6) dX2_places_6 ?_
      refine k_icmp_ge (tgt := 36) (pc := 9) dX2_places_9 (by decide) (fun _ => ?_) (fun c => absurd (nI_le (Nat.le_refl _) (by omega)) c)
      rw [List.take_length]
      refine k_iload_n (pc := 36) dX2_places_36 rfl ?_
      exact k_iret (pc := 37) dX2_places_37 rfl (fun _ h => h) (Nat.le_refl _) (Nat.le_refl _)
    | succ j ih =>
      intro i hi
      obtain ⟨o, ho⟩ : ∃ o, (xR σ r)[i]? = some o := ⟨_, List.getElem?_eq_getElem (by omega)⟩
      have step := ih (i + 1) (by omega)
      rw [plR_next ho] at step
      refine k_iload_n (pc := 4) dX2_places_4 rfl ?_
      refine k_aload_n (pc := 5) dX2_places_5 rfl ?_
      refine h_X2_23 hk (pc := 6) dX2_places_6 ?_
      refine k_icmp_ge (tgt := 36) (pc := 9) dX2_places_9 (by decide) (fun c => absurd c (nI_ge (by omega) (by omega))) (fun _ => ?_)
      cases o with
      | none =>
        rw [show nI (plO it none) = 0 from rfl, Int32.add_zero] at step
        refine k_aload_n (pc := 12) dX2_places_12 rfl ?_
        refine h_X2_17 hk (pc := 13) dX2_places_13 ?_
        refine k_iload_n (pc := 16) dX2_places_16 rfl ?_
        refine rw_ldN hst hk ho (pc := 17) dX2_places_17 rfl ?_
        refine k_astore_nN (pc := 18) dX2_places_18 (by decide) rfl ?_
        refine k_aload_nN (pc := 19) dX2_places_19 rfl ?_
        refine k_ifnullN (tgt := 30) (pc := 20) dX2_places_20 (by decide) ?_
        refine k_iinc (pc := 30) dX2_places_30 rfl (nI_inc _) (by decide) rfl ?_
        refine k_goto (tgt := 4) (pc := 33) dX2_places_33 (by decide) ?_
        exact k_lv (fun i v h => by match i, h with | 0, h => exact h | 1, h => exact h | 2, h => exact h | 3, h => cases h | i + 4, h => cases h) step
      | some b =>
        have hb := hw b (List.mem_of_getElem? ho)
        refine k_aload_n (pc := 12) dX2_places_12 rfl ?_
        refine h_X2_17 hk (pc := 13) dX2_places_13 ?_
        refine k_iload_n (pc := 16) dX2_places_16 rfl ?_
        refine rw_ld hst hk ho (pc := 17) dX2_places_17 rfl ?_
        refine k_astore_n (pc := 18) dX2_places_18 (by decide) rfl ?_
        refine k_aload_n (pc := 19) dX2_places_19 rfl ?_
        refine k_ifnull (pc := 20) dX2_places_20 ?_
        refine k_iload_n (pc := 23) dX2_places_23 rfl ?_
        refine k_aload_n (pc := 24) dX2_places_24 rfl ?_
        refine h_X2_46 hb (pc := 25) dX2_places_25 ?_
        refine k_iadd (pc := 28) dX2_places_28 ?_
        refine k_istore_n (pc := 29) dX2_places_29 (by decide) rfl ?_
        refine k_iinc (pc := 30) dX2_places_30 rfl (nI_inc _) (by decide) rfl ?_
        refine k_goto (tgt := 4) (pc := 33) dX2_places_33 (by decide) ?_
        exact k_lv (fun i v h => by match i, h with | 0, h => exact h | 1, h => exact h | 2, h => exact h | 3, h => cases h | i + 4, h => cases h) step
  refine k_iconst (v := 0) (pc := 0) dX2_places_0 (by decide) ?_
  refine k_istore_n (pc := 1) dX2_places_1 (by decide) rfl ?_
  refine k_iconst (v := 0) (pc := 2) dX2_places_2 (by decide) ?_
  refine k_istore_n (pc := 3) dX2_places_3 (by decide) rfl ?_
  exact loop (xR σ r).length 0 (by omega)
set_option maxRecDepth 4000 in
theorem r_hasRoom (hst : CSt ad ar ow cap kd) {r : Nat} (hk : kd r = 2) (hw : RW kd (xR σ r)) (a : Nat) (ha : kd a = 1) (hs : plR it (xR σ r) + plc (it a) < 1000000) : Ct 1 0 0 yX2_hasRoomFor cX2_hasRoomFor 2 (some .boolean) G A [.ref r, .ref a] (CH G A ad ar ow cap kd it σ) (some (.int (bI (decide (plR it (xR σ r) + plc (it a) ≤ 32))))) (CH G A ad ar ow cap kd it σ) := by
  refine Ct.of 0 rfl rfl (Nat.le_of_ble_eq_true rfl) ?_
  intro p l e s m below meth c hini
  refine k_aload_n (pc := 0) dX2_hasRoomFor_0 rfl ?_
  refine k_callC2 sv_X2_49 hk (r_places hst hk hw) (pc := 1) dX2_hasRoomFor_1 rfl rfl (Nat.le_of_ble_eq_true rfl) (by decide) (by decide) (Nat.le_refl _) (Nat.le_refl _) ?_
  refine k_aload_n (pc := 4) dX2_hasRoomFor_4 rfl ?_
  refine h_X2_46 ha (pc := 5) dX2_hasRoomFor_5 ?_
  refine k_iadd (pc := 8) dX2_hasRoomFor_8 ?_
  rw [nI_add]
  refine k_bipush (v := 32) (pc := 9) dX2_hasRoomFor_9 (by decide) ?_
  by_cases hle : plR it (xR σ r) + plc (it a) ≤ 32
  · refine k_icmp_gt (tgt := 18) (pc := 11) dX2_hasRoomFor_11 (by decide) (fun c => absurd c (nI_nlt (b := plR it (xR σ r) + plc (it a)) (a := 32) hle (by decide))) (fun _ => ?_)
    rw [decide_eq_true hle]
    refine k_iconst (v := 1) (pc := 14) dX2_hasRoomFor_14 (by decide) ?_
    refine k_goto (tgt := 19) (pc := 15) dX2_hasRoomFor_15 (by decide) ?_
    exact k_zret (pc := 19) dX2_hasRoomFor_19 rfl (bI_nar _) (fun _ h => h) (Nat.le_refl _) (Nat.le_refl _)
  · refine k_icmp_gt (tgt := 18) (pc := 11) dX2_hasRoomFor_11 (by decide) (fun _ => ?_) (fun c => absurd (nI_lt (a := 32) (by omega) (by omega)) c)
    rw [decide_eq_false hle]
    refine k_iconst (v := 0) (pc := 18) dX2_hasRoomFor_18 (by decide) ?_
    exact k_zret (pc := 19) dX2_hasRoomFor_19 rfl (bI_nar _) (fun _ h => h) (Nat.le_refl _) (Nat.le_refl _)
theorem flR_next {it : Nat → Da} {xs : List (Option Nat)} {i : Nat} {o : Option Nat} (he : xs[i]? = some o) : flR it (xs.take (i + 1)) = orO it (flR it (xs.take i)) o := by
  rw [take_snoc he]
  simp [flR]
set_option maxRecDepth 4000 in
theorem r_filter (hst : CSt ad ar ow cap kd) {r : Nat} (hk : kd r = 2) (hw : RW kd (xR σ r)) : Ct 0 0 0 yX2_filterOfKeys cX2_filterOfKeys 5 (some .long) G A [.ref r] (CH G A ad ar ow cap kd it σ) (some (.long (flR it (xR σ r)))) (CH G A ad ar ow cap kd it σ) := by
  refine Ct.of 4 rfl rfl (Nat.le_of_ble_eq_true rfl) ?_
  intro p l e s m below meth c hini
  refine k_len hst hk fun _ h1000 => ?_
  have loop : ∀ j i : Nat, i + j = (xR σ r).length → K p l e s m ([.ref r] : List Value).toArray below meth c (rmm 0 0 0) yX2_filterOfKeys.cls cX2_filterOfKeys 5 (some .long) G A (MQ below (Qd (some (.long (flR it (xR σ r)))) (CH G A ad ar ow cap kd it σ) A) ([.ref r] : List Value).toArray s 0 0 A) 0 0 (CH G A ad ar ow cap kd it σ) 4 [some (.ref r), some (.long (flR it ((xR σ r).take i))), none, some (.int (nI i)), none] [] := by
    intro j
    induction j with
    | zero =>
      intro i hi
      have hi6 : i = (xR σ r).length := by omega
      subst hi6
      refine k_iload_n (pc := 4) dX2_filterOfKeys_4 rfl ?_
      refine k_aload_n (pc := 5) dX2_filterOfKeys_5 rfl ?_
      refine h_X2_23 hk (pc := 6) dX2_filterOfKeys_6 ?_
      refine k_icmp_ge (tgt := 39) (pc := 9) dX2_filterOfKeys_9 (by decide) (fun _ => ?_) (fun c => absurd (nI_le (Nat.le_refl _) (by omega)) c)
      rw [List.take_length]
      refine k_lload_n (pc := 39) dX2_filterOfKeys_39 rfl ?_
      exact k_lret (pc := 40) dX2_filterOfKeys_40 rfl (fun _ h => h) (Nat.le_refl _) (Nat.le_refl _)
    | succ j ih =>
      intro i hi
      obtain ⟨o, ho⟩ : ∃ o, (xR σ r)[i]? = some o := ⟨_, List.getElem?_eq_getElem (by omega)⟩
      have step := ih (i + 1) (by omega)
      rw [flR_next ho] at step
      refine k_iload_n (pc := 4) dX2_filterOfKeys_4 rfl ?_
      refine k_aload_n (pc := 5) dX2_filterOfKeys_5 rfl ?_
      refine h_X2_23 hk (pc := 6) dX2_filterOfKeys_6 ?_
      refine k_icmp_ge (tgt := 39) (pc := 9) dX2_filterOfKeys_9 (by decide) (fun c => absurd c (nI_ge (by omega) (by omega))) (fun _ => ?_)
      cases o with
      | none =>
        refine k_aload_n (pc := 12) dX2_filterOfKeys_12 rfl ?_
        refine h_X2_17 hk (pc := 13) dX2_filterOfKeys_13 ?_
        refine k_iload_n (pc := 16) dX2_filterOfKeys_16 rfl ?_
        refine rw_ldN hst hk ho (pc := 17) dX2_filterOfKeys_17 rfl ?_
        refine k_astoreN (pc := 18) dX2_filterOfKeys_18 (by decide) rfl ?_
        refine k_aloadN (pc := 20) dX2_filterOfKeys_20 rfl ?_
        refine k_ifnullN (tgt := 33) (pc := 22) dX2_filterOfKeys_22 (by decide) ?_
        refine k_iinc (pc := 33) dX2_filterOfKeys_33 rfl (nI_inc _) (by decide) rfl ?_
        refine k_goto (tgt := 4) (pc := 36) dX2_filterOfKeys_36 (by decide) ?_
        exact k_lv (fun i v h => by match i, h with | 0, h => exact h | 1, h => exact h | 2, h => exact h | 3, h => exact h | 4, h => cases h | i + 5, h => cases h) step
      | some b =>
        have hb := hw b (List.mem_of_getElem? ho)
        refine k_aload_n (pc := 12) dX2_filterOfKeys_12 rfl ?_
        refine h_X2_17 hk (pc := 13) dX2_filterOfKeys_13 ?_
        refine k_iload_n (pc := 16) dX2_filterOfKeys_16 rfl ?_
        refine rw_ld hst hk ho (pc := 17) dX2_filterOfKeys_17 rfl ?_
        refine k_astore (pc := 18) dX2_filterOfKeys_18 (by decide) rfl ?_
        refine k_aload (pc := 20) dX2_filterOfKeys_20 rfl ?_
        refine k_ifnull (pc := 22) dX2_filterOfKeys_22 ?_
        refine k_lload_n (pc := 25) dX2_filterOfKeys_25 rfl ?_
        refine k_aload (pc := 26) dX2_filterOfKeys_26 rfl ?_
        refine h_X2_52 hb (pc := 28) dX2_filterOfKeys_28 ?_
        refine k_lor (pc := 31) dX2_filterOfKeys_31 ?_
        refine k_lstore_n (pc := 32) dX2_filterOfKeys_32 (by decide) rfl ?_
        refine k_iinc (pc := 33) dX2_filterOfKeys_33 rfl (nI_inc _) (by decide) rfl ?_
        refine k_goto (tgt := 4) (pc := 36) dX2_filterOfKeys_36 (by decide) ?_
        exact k_lv (fun i v h => by match i, h with | 0, h => exact h | 1, h => exact h | 2, h => exact h | 3, h => exact h | 4, h => cases h | i + 5, h => cases h) step
  refine k_lconst (v := 0) (pc := 0) dX2_filterOfKeys_0 (by decide) ?_
  refine k_lstore_n (pc := 1) dX2_filterOfKeys_1 (by decide) rfl ?_
  refine k_iconst (v := 0) (pc := 2) dX2_filterOfKeys_2 (by decide) ?_
  refine k_istore_n (pc := 3) dX2_filterOfKeys_3 (by decide) rfl ?_
  exact loop (xR σ r).length 0 (by omega)
end ROWN
