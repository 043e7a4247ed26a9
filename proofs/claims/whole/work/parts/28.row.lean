section ROWO
variable {p : Program} {l : Launch} {e : Env} {s : State} {m : MethodId} {args : Array Value} {below : List Frame} {meth : Method} {c : Code} {R : Room} {G : Gd} {A : Nat → Prop} {Q : State → Prop} {k n : Nat} {ad ar ow cap kd : Nat → Nat} {it : Nat → Da} {σ : CS}
set_option maxRecDepth 4000 in
theorem r_belongs (hst : CSt ad ar ow cap kd) {r : Nat} (hk : kd r = 2) (hw : RW kd (xR σ r)) (s0 : Nat) (hall : ∀ i o, (xR σ r)[i]? = some o → ∃ a, o = some a ∧ setN (it a).1 = s0 ∧ (xR σ r).findIdx? (keyIs it (it a).1) = some i) : Ct 1 0 0 yX2_belongsTo cX2_belongsTo 4 (some .boolean) G A [.ref r, .int (nI s0)] (CH G A ad ar ow cap kd it σ) (some (.int 1)) (CH G A ad ar ow cap kd it σ) := by
  refine Ct.of 2 rfl rfl (Nat.le_of_ble_eq_true rfl) ?_
  intro p l e s m below meth c hini
  refine k_len hst hk fun _ h1000 => ?_
  have loop : ∀ j i : Nat, i + j = (xR σ r).length → K p l e s m ([.ref r, .int (nI s0)] : List Value).toArray below meth c (rmm 1 0 0) yX2_belongsTo.cls cX2_belongsTo 4 (some .boolean) G A (MQ below (Qd (some (.int 1)) (CH G A ad ar ow cap kd it σ) A) ([.ref r, .int (nI s0)] : List Value).toArray s 0 0 A) 0 0 (CH G A ad ar ow cap kd it σ) 2 [some (.ref r), some (.int (nI s0)), some (.int (nI i)), none] [] := by
    intro j
    induction j with
    | zero =>
      intro i hi
      have hi6 : i = (xR σ r).length := by omega
      subst hi6
      refine k_iload_n (pc := 2) dX2_belongsTo_2 rfl ?_
      refine k_aload_n (pc := 3) dX2_belongsTo_3 rfl ?_
      refine h_X2_23 hk (pc := 4) dX2_belongsTo_4 ?_
      refine k_icmp_ge (tgt := 49) (pc := 7) dX2_belongsTo_7 (by decide) (fun _ => ?_) (fun c => absurd (nI_le (Nat.le_refl _) (by omega)) c)
      refine k_iconst (v := 1) (pc := 49) dX2_belongsTo_49 (by decide) ?_
      exact k_zret (pc := 50) dX2_belongsTo_50 rfl rfl (fun _ h => h) (Nat.le_refl _) (Nat.le_refl _)
    | succ j ih =>
      intro i hi
      obtain ⟨o, ho⟩ : ∃ o, (xR σ r)[i]? = some o := ⟨_, List.getElem?_eq_getElem (by omega)⟩
      obtain ⟨b, rfl, hset, hix⟩ := hall i o ho
      have hb := hw b (List.mem_of_getElem? ho)
      have step := ih (i + 1) (by omega)
      refine k_iload_n (pc := 2) dX2_belongsTo_2 rfl ?_
      refine k_aload_n (pc := 3) dX2_belongsTo_3 rfl ?_
      refine h_X2_23 hk (pc := 4) dX2_belongsTo_4 ?_
      refine k_icmp_ge (tgt := 49) (pc := 7) dX2_belongsTo_7 (by decide) (fun c => absurd c (nI_ge (by omega) (by omega))) (fun _ => ?_)
      refine k_aload_n (pc := 10) dX2_belongsTo_10 rfl ?_
      refine h_X2_17 hk (pc := 11) dX2_belongsTo_11 ?_
      refine k_iload_n (pc := 14) dX2_belongsTo_14 rfl ?_
      refine rw_ld hst hk ho (pc := 15) dX2_belongsTo_15 rfl ?_
      refine k_astore_n (pc := 16) dX2_belongsTo_16 (by decide) rfl ?_
      refine k_aload_n (pc := 17) dX2_belongsTo_17 rfl ?_
      refine k_ifnull (pc := 18) dX2_belongsTo_18 ?_
      refine k_aload_n (pc := 21) dX2_belongsTo_21 rfl ?_
      refine h_X2_39 hb (pc := 22) dX2_belongsTo_22 ?_
      refine k_iload_n (pc := 25) dX2_belongsTo_25 rfl ?_
      rw [hset]
      refine k_icmp_ne (tgt := 41) (pc := 26) dX2_belongsTo_26 (by decide) (fun c => absurd (rfl) c) (fun _ => ?_)
      refine k_aload_n (pc := 29) dX2_belongsTo_29 rfl ?_
      refine k_aload_n (pc := 30) dX2_belongsTo_30 rfl ?_
      refine h_X2_42 hb (pc := 31) dX2_belongsTo_31 ?_
      refine k_callC2 sv_X2_55 hk (r_indexOf hst hk hw (it b).1) (pc := 34) dX2_belongsTo_34 rfl rfl (Nat.le_of_ble_eq_true rfl) (by decide) (by decide) (Nat.le_refl _) (Nat.le_refl _) ?_
      rw [hix]
      refine k_iload_n (pc := 37) dX2_belongsTo_37 rfl ?_
      refine k_icmp_eq (tgt := 43) (pc := 38) dX2_belongsTo_38 (by decide) (fun _ => ?_) (fun c => absurd (rfl) c)
      refine k_iinc (pc := 43) dX2_belongsTo_43 rfl (nI_inc _) (by decide) rfl ?_
      refine k_goto (tgt := 2) (pc := 46) dX2_belongsTo_46 (by decide) ?_
      exact k_lv (fun i v h => by match i, h with | 0, h => exact h | 1, h => exact h | 2, h => exact h | 3, h => cases h | i + 4, h => cases h) step
  refine k_iconst (v := 0) (pc := 0) dX2_belongsTo_0 (by decide) ?_
  refine k_istore_n (pc := 1) dX2_belongsTo_1 (by decide) rfl ?_
  exact loop (xR σ r).length 0 (by omega)
set_option maxRecDepth 4000 in
theorem r_addAll (hst : CSt ad ar ow cap kd) {r r2 : Nat} (hk : kd r = 2) (hk2 : kd r2 = 2) (hne : r2 ≠ r) (hall : ∀ o ∈ xR σ r2, ∃ a, o = some a ∧ kd a = 1) : Ct 1 0 0 yX2_addAll cX2_addAll 3 (none) G A [.ref r, .ref r2] (CH G A ad ar ow cap kd it σ) (none) (CH G A ad ar ow cap kd it (zRr σ r (addsR (cap r) (xR σ r) (xR σ r2)))) := by
  refine Ct.of 1 rfl rfl (Nat.le_of_ble_eq_true rfl) ?_
  intro p l e s m below meth c hini
  refine k_len hst hk2 fun _ h1000 => ?_
  have loop : ∀ j i : Nat, i + j = (xR σ r2).length → K p l e s m ([.ref r, .ref r2] : List Value).toArray below meth c (rmm 1 0 0) yX2_addAll.cls cX2_addAll 3 (none) G A (MQ below (Qd (none) (CH G A ad ar ow cap kd it (zRr σ r (addsR (cap r) (xR σ r) (xR σ r2)))) A) ([.ref r, .ref r2] : List Value).toArray s 0 0 A) 0 0 (CH G A ad ar ow cap kd it (zRr σ r (addsR (cap r) (xR σ r) ((xR σ r2).take i)))) 2 [some (.ref r), some (.ref r2), some (.int (nI i))] [] := by
    intro j
    induction j with
    | zero =>
      intro i hi
      have hi6 : i = (xR σ r2).length := by omega
      subst hi6
      refine k_iload_n (pc := 2) dX2_addAll_2 rfl ?_
      refine k_aload_n (pc := 3) dX2_addAll_3 rfl ?_
      refine h_X2_23 hk2 (pc := 4) dX2_addAll_4 ?_
      rw [zRr_ne hne]
      refine k_icmp_ge (tgt := 25) (pc := 7) dX2_addAll_7 (by decide) (fun _ => ?_) (fun c => absurd (nI_le (Nat.le_refl _) (by omega)) c)
      rw [List.take_length]
      exact k_vret (pc := 25) dX2_addAll_25 (fun _ h => h) (Nat.le_refl _) (Nat.le_refl _)
    | succ j ih =>
      intro i hi
      obtain ⟨o, ho⟩ : ∃ o, (xR σ r2)[i]? = some o := ⟨_, List.getElem?_eq_getElem (by omega)⟩
      obtain ⟨b, rfl, hb⟩ := hall o (List.mem_of_getElem? ho)
      have step := ih (i + 1) (by omega)
      rw [take_snoc ho, addsR_snoc] at step
      have hat : atR (xR (zRr σ r (addsR (cap r) (xR σ r) ((xR σ r2).take i))) r2) (nI i) = some b := by
        rw [zRr_ne hne]
        unfold atR
        rw [if_neg (nI_pos (by omega)), nI_clamp (by omega), ho]
        rfl
      refine k_iload_n (pc := 2) dX2_addAll_2 rfl ?_
      refine k_aload_n (pc := 3) dX2_addAll_3 rfl ?_
      refine h_X2_23 hk2 (pc := 4) dX2_addAll_4 ?_
      rw [zRr_ne hne]
      refine k_icmp_ge (tgt := 25) (pc := 7) dX2_addAll_7 (by decide) (fun c => absurd c (nI_ge (by omega) (by omega))) (fun _ => ?_)
      refine k_aload_n (pc := 10) dX2_addAll_10 rfl ?_
      refine k_aload_n (pc := 11) dX2_addAll_11 rfl ?_
      refine k_iload_n (pc := 12) dX2_addAll_12 rfl ?_
      refine k_callC2 sv_X2_27 hk2 (r_at hst hk2 (nI i)) (pc := 13) dX2_addAll_13 rfl rfl (Nat.le_of_ble_eq_true rfl) (by decide) (by decide) (Nat.le_refl _) (Nat.le_refl _) ?_
      rw [hat]
      have hadd := r_add (G := G) (A := A) (it := it) (σ := zRr σ r (addsR (cap r) (xR σ r) ((xR σ r2).take i))) hst hk b hb
      rw [zRr_same, zRr_zRr] at hadd
      refine k_callC2 sv_X2_31 hk (hadd) (pc := 16) dX2_addAll_16 rfl rfl (Nat.le_of_ble_eq_true rfl) (by decide) (by decide) (Nat.le_refl _) (Nat.le_refl _) ?_
      refine k_iinc (pc := 19) dX2_addAll_19 rfl (nI_inc _) (by decide) rfl ?_
      refine k_goto (tgt := 2) (pc := 22) dX2_addAll_22 (by decide) ?_
      exact step
  have l0 := loop (xR σ r2).length 0 (by omega)
  rw [show (xR σ r2).take 0 = [] from rfl, show addsR (cap r) (xR σ r) [] = xR σ r from rfl, zRr_id] at l0
  refine k_iconst (v := 0) (pc := 0) dX2_addAll_0 (by decide) ?_
  refine k_istore_n (pc := 1) dX2_addAll_1 (by decide) rfl ?_
  exact l0
theorem filt_snoc {α : Type} {xs : List α} {f i : Nat} {o : α} (q : α → Bool) (hf : f ≤ i) (ho : xs[i]? = some o) : ((xs.take (i + 1)).drop f).filter q = ((xs.take i).drop f).filter q ++ (if q o then [o] else []) := by
  have hi := (List.getElem?_eq_some_iff.mp ho).1
  rw [take_snoc ho, List.drop_append_of_le_length (by rw [List.length_take]; omega), List.filter_append]
  simp only [List.filter_cons, List.filter_nil]
set_option maxRecDepth 4000 in
theorem r_addInLog (hst : CSt ad ar ow cap kd) {r r2 : Nat} (hk : kd r = 2) (hk2 : kd r2 = 2) (hne : r2 ≠ r) (hw : RW kd (xR σ r2)) (f0 s0 : Nat) (hf : f0 ≤ (xR σ r2).length) (hs : s0 < 64) : Ct 1 0 0 yX2_addInLog cX2_addInLog 6 (none) G A [.ref r, .ref r2, .int (nI f0), .int (nI s0)] (CH G A ad ar ow cap kd it σ) (none) (CH G A ad ar ow cap kd it (zRr σ r (addsR (cap r) (xR σ r) (((xR σ r2).drop f0).filter (selO it (xI σ) s0))))) := by
  refine Ct.of 2 rfl rfl (Nat.le_of_ble_eq_true rfl) ?_
  intro p l e s m below meth c hini
  refine k_len hst hk2 fun _ h1000 => ?_
  have loop : ∀ j i : Nat, i + j = (xR σ r2).length → f0 ≤ i → K p l e s m ([.ref r, .ref r2, .int (nI f0), .int (nI s0)] : List Value).toArray below meth c (rmm 1 0 0) yX2_addInLog.cls cX2_addInLog 6 (none) G A (MQ below (Qd (none) (CH G A ad ar ow cap kd it (zRr σ r (addsR (cap r) (xR σ r) (((xR σ r2).drop f0).filter (selO it (xI σ) s0))))) A) ([.ref r, .ref r2, .int (nI f0), .int (nI s0)] : List Value).toArray s 0 0 A) 0 0 (CH G A ad ar ow cap kd it (zRr σ r (addsR (cap r) (xR σ r) ((((xR σ r2).take i).drop f0).filter (selO it (xI σ) s0))))) 3 [some (.ref r), some (.ref r2), some (.int (nI f0)), some (.int (nI s0)), some (.int (nI i)), none] [] := by
    intro j
    induction j with
    | zero =>
      intro i hi hfi
      have hi6 : i = (xR σ r2).length := by omega
      subst hi6
      refine k_iload (pc := 3) dX2_addInLog_3 rfl ?_
      refine k_aload_n (pc := 5) dX2_addInLog_5 rfl ?_
      refine h_X2_23 hk2 (pc := 6) dX2_addInLog_6 ?_
      rw [zRr_ne hne]
      refine k_icmp_ge (tgt := 54) (pc := 9) dX2_addInLog_9 (by decide) (fun _ => ?_) (fun c => absurd (nI_le (Nat.le_refl _) (by omega)) c)
      rw [List.take_length]
      exact k_vret (pc := 54) dX2_addInLog_54 (fun _ h => h) (Nat.le_refl _) (Nat.le_refl _)
    | succ j ih =>
      intro i hi hfi
      obtain ⟨o, ho⟩ : ∃ o, (xR σ r2)[i]? = some o := ⟨_, List.getElem?_eq_getElem (by omega)⟩
      have step := ih (i + 1) (by omega) (by omega)
      rw [filt_snoc _ hfi ho] at step
      have hat : atR (xR (zRr σ r (addsR (cap r) (xR σ r) ((((xR σ r2).take i).drop f0).filter (selO it (xI σ) s0)))) r2) (nI i) = o := by
        rw [zRr_ne hne]
        unfold atR
        rw [if_neg (nI_pos (by omega)), nI_clamp (by omega), ho]
        rfl
      have skip : selO it (xI σ) s0 o = false → ∀ z : Option Value, K p l e s m ([.ref r, .ref r2, .int (nI f0), .int (nI s0)] : List Value).toArray below meth c (rmm 1 0 0) yX2_addInLog.cls cX2_addInLog 6 (none) G A (MQ below (Qd (none) (CH G A ad ar ow cap kd it (zRr σ r (addsR (cap r) (xR σ r) (((xR σ r2).drop f0).filter (selO it (xI σ) s0))))) A) ([.ref r, .ref r2, .int (nI f0), .int (nI s0)] : List Value).toArray s 0 0 A) 0 0 (CH G A ad ar ow cap kd it (zRr σ r (addsR (cap r) (xR σ r) ((((xR σ r2).take i).drop f0).filter (selO it (xI σ) s0))))) 48 [some (.ref r), some (.ref r2), some (.int (nI f0)), some (.int (nI s0)), some (.int (nI i)), z] [] := by
        intro hsel z
        rw [hsel] at step
        simp only [Bool.false_eq_true, if_false, List.append_nil] at step
        refine k_iinc (pc := 48) dX2_addInLog_48 rfl (nI_inc _) (by decide) rfl ?_
        refine k_goto (tgt := 3) (pc := 51) dX2_addInLog_51 (by decide) ?_
        exact k_lv (fun i v h => by match i, h with | 0, h => exact h | 1, h => exact h | 2, h => exact h | 3, h => exact h | 4, h => exact h | 5, h => cases h | i + 6, h => cases h) step
      refine k_iload (pc := 3) dX2_addInLog_3 rfl ?_
      refine k_aload_n (pc := 5) dX2_addInLog_5 rfl ?_
      refine h_X2_23 hk2 (pc := 6) dX2_addInLog_6 ?_
      rw [zRr_ne hne]
      refine k_icmp_ge (tgt := 54) (pc := 9) dX2_addInLog_9 (by decide) (fun c => absurd c (nI_ge (by omega) (by omega))) (fun _ => ?_)
      refine k_aload_n (pc := 12) dX2_addInLog_12 rfl ?_
      refine k_iload (pc := 13) dX2_addInLog_13 rfl ?_
      refine k_callC2 sv_X2_27 hk2 (r_at hst hk2 (nI i)) (pc := 15) dX2_addInLog_15 rfl rfl (Nat.le_of_ble_eq_true rfl) (by decide) (by decide) (Nat.le_refl _) (Nat.le_refl _) ?_
      rw [hat]
      cases o with
      | none =>
        refine k_astoreN (pc := 18) dX2_addInLog_18 (by decide) rfl ?_
        refine k_aloadN (pc := 20) dX2_addInLog_20 rfl ?_
        refine k_ifnullN (tgt := 48) (pc := 22) dX2_addInLog_22 (by decide) ?_
        exact skip rfl _
      | some b =>
        have hb := hw b (List.mem_of_getElem? ho)
        refine k_astore (pc := 18) dX2_addInLog_18 (by decide) rfl ?_
        refine k_aload (pc := 20) dX2_addInLog_20 rfl ?_
        refine k_ifnull (pc := 22) dX2_addInLog_22 ?_
        refine k_aload (pc := 25) dX2_addInLog_25 rfl ?_
        refine h_X2_35 hb (pc := 27) dX2_addInLog_27 ?_
        refine k_if_eq (tgt := 48) (pc := 30) dX2_addInLog_30 (by decide) (fun h1 => ?_) (fun h1 => ?_)
        · have hf1 : xI σ b = false := bI_f h1
          exact skip (by simp [selO, hf1]) _
        · have ht1 : xI σ b = true := bI_t h1
          refine k_aload (pc := 33) dX2_addInLog_33 rfl ?_
          refine h_X2_39 hb (pc := 35) dX2_addInLog_35 ?_
          refine k_iload_n (pc := 38) dX2_addInLog_38 rfl ?_
          by_cases hset : setN (it b).1 = s0
          · have hsel : selO it (xI σ) s0 (some b) = true := by simp [selO, ht1, hset]
            rw [hsel] at step
            simp only [if_true] at step
            rw [addsR_snoc] at step
            rw [hset]
            have hadd := r_add (G := G) (A := A) (it := it) (σ := zRr σ r (addsR (cap r) (xR σ r) ((((xR σ r2).take i).drop f0).filter (selO it (xI σ) s0)))) hst hk b hb
            rw [zRr_same, zRr_zRr] at hadd
            refine k_icmp_ne (tgt := 48) (pc := 39) dX2_addInLog_39 (by decide) (fun c => absurd (rfl) c) (fun _ => ?_)
            refine k_aload_n (pc := 42) dX2_addInLog_42 rfl ?_
            refine k_aload (pc := 43) dX2_addInLog_43 rfl ?_
            refine k_callC2 sv_X2_31 hk (hadd) (pc := 45) dX2_addInLog_45 rfl rfl (Nat.le_of_ble_eq_true rfl) (by decide) (by decide) (Nat.le_refl _) (Nat.le_refl _) ?_
            refine k_iinc (pc := 48) dX2_addInLog_48 rfl (nI_inc _) (by decide) rfl ?_
            refine k_goto (tgt := 3) (pc := 51) dX2_addInLog_51 (by decide) ?_
            exact k_lv (fun i v h => by match i, h with | 0, h => exact h | 1, h => exact h | 2, h => exact h | 3, h => exact h | 4, h => exact h | 5, h => cases h | i + 6, h => cases h) step
          · refine k_icmp_ne (tgt := 48) (pc := 39) dX2_addInLog_39 (by decide) (fun _ => ?_) (fun c => absurd ((nI_eq (by have := setN_lt (it b).1; omega) (by omega)).mp c) hset)
            exact skip (by simp [selO, hset]) _
  have l0 := loop ((xR σ r2).length - f0) f0 (by omega) (Nat.le_refl _)
  have e0 : ((xR σ r2).take f0).drop f0 = [] := List.drop_eq_nil_of_le (by rw [List.length_take]; omega)
  rw [e0, show List.filter (selO it (xI σ) s0) [] = [] from rfl, show addsR (cap r) (xR σ r) [] = xR σ r from rfl, zRr_id] at l0
  refine k_iload_n (pc := 0) dX2_addInLog_0 rfl ?_
  refine k_istore (pc := 1) dX2_addInLog_1 (by decide) rfl ?_
  exact l0
set_option maxRecDepth 4000 in
theorem r_closeUp (hst : CSt ad ar ow cap kd) {r : Nat} (hk : kd r = 2) (hall : ∀ o ∈ xR σ r, ∃ a, o = some a ∧ kd a = 1) (i0 : Nat) (hi0 : i0 < (xR σ r).length) : Ct 0 0 0 yX2_closeUpOver cX2_closeUpOver 3 (none) G A [.ref r, .int (nI i0)] (CH G A ad ar ow cap kd it σ) (none) (CH G A ad ar ow cap kd it (zRr σ r ((xR σ r).eraseIdx i0))) := by
  refine Ct.of 1 rfl rfl (Nat.le_of_ble_eq_true rfl) ?_
  intro p l e s m below meth c hini
  refine k_openC fun sz ct hr => ?_
  obtain ⟨q1, q2, q3⟩ := hr r hk
  obtain ⟨h1, h2, h3⟩ := hst.2.2.1 r hk
  have hcell : ∀ ct : Nat → Nat → Option Nat, cw ad ar ow cap kd it σ sz ct (ar r) = some (.inl (3, cap r, fun q => va_rf (ct r q))) := fun ct => (cw_at h1).trans (by simp only [cwk, h2])
  have hle : ((xR σ r).eraseIdx i0).length = (xR σ r).length - 1 := by rw [List.length_eraseIdx]; simp [hi0]
  have loop : ∀ j i : Nat, i + j = (xR σ r).length → i0 + 1 ≤ i → ∀ f : Nat → Option Nat, (∀ z, f z = if i0 ≤ z ∧ z + 1 < i then ct r (z + 1) else ct r z) → K p l e s m ([.ref r, .int (nI i0)] : List Value).toArray below meth c (rmm 0 0 0) yX2_closeUpOver.cls cX2_closeUpOver 3 (none) G A (MQ below (Qd (none) (CH G A ad ar ow cap kd it (zRr σ r ((xR σ r).eraseIdx i0))) A) ([.ref r, .int (nI i0)] : List Value).toArray s 0 0 A) 0 0 (Hd G A (cw ad ar ow cap kd it σ sz (va_up ct r f))) 17 [some (.ref r), some (.int (nI i0)), some (.int (nI i))] [] := by
    intro j
    induction j with
    | zero =>
      intro i hi hii f hf
      have hi6 : i = (xR σ r).length := by omega
      subst hi6
      refine k_iload_n (pc := 17) dX2_closeUpOver_17 rfl ?_
      refine k_aload_n (pc := 18) dX2_closeUpOver_18 rfl ?_
      refine g_X2_23 (pc := 19) dX2_closeUpOver_19 (cw_at hk) rfl ?_
      rw [q1]
      refine k_icmp_ge (tgt := 45) (pc := 22) dX2_closeUpOver_22 (by decide) (fun _ => ?_) (fun c => absurd (nI_le (Nat.le_refl _) (by omega)) c)
      refine k_aload_n (pc := 45) dX2_closeUpOver_45 rfl ?_
      refine k_dup (pc := 46) dX2_closeUpOver_46 rfl ?_
      refine g_X2_23 (pc := 47) dX2_closeUpOver_47 (cw_at hk) rfl ?_
      refine k_iconst (v := 1) (pc := 50) dX2_closeUpOver_50 (by decide) ?_
      refine k_isub (pc := 51) dX2_closeUpOver_51 ?_
      refine p_X2_23 (pc := 52) dX2_closeUpOver_52 (cw_at hk) rfl rfl (Nat.le_of_ble_eq_true rfl) ?_
      rw [show ([.ref (ar r), .int (sz r)] : List Value).set 1 (.int (sz r - 1)) = [.ref (ar r), .int (sz r - 1)] from rfl, cw_sz hst hk]
      refine k_vret (pc := 55) dX2_closeUpOver_55 (CH.of (σ := zRr σ r ((xR σ r).eraseIdx i0)) (rls_set hr (by rw [q1, hle]; exact nI_dec (by omega)) (by omega) (fun z x hz => ?_))) (Nat.le_refl _) (Nat.le_refl _)
      have hzl : z < (xR σ r).length - 1 := by rw [← hle]; exact (List.getElem?_eq_some_iff.mp hz).1
      rw [erase_at hi0 hzl] at hz
      rw [hf z]
      by_cases hz0 : i0 ≤ z
      · rw [if_pos hz0] at hz
        rw [if_pos ⟨hz0, by omega⟩]
        exact q3 _ _ hz
      · rw [if_neg hz0] at hz
        rw [if_neg (fun w => hz0 w.1)]
        exact q3 _ _ hz
    | succ j ih =>
      intro i hi hii f hf
      obtain ⟨o, ho⟩ : ∃ o, (xR σ r)[i]? = some o := ⟨_, List.getElem?_eq_getElem (by omega)⟩
      obtain ⟨b, rfl, hb⟩ := hall o (List.mem_of_getElem? ho)
      have hfi : f i = some b := by rw [hf i, if_neg (by omega)]; exact q3 i _ ho
      have hsub : nI i - 1 = nI (i - 1) := nI_dec (by omega)
      refine k_iload_n (pc := 17) dX2_closeUpOver_17 rfl ?_
      refine k_aload_n (pc := 18) dX2_closeUpOver_18 rfl ?_
      refine g_X2_23 (pc := 19) dX2_closeUpOver_19 (cw_at hk) rfl ?_
      rw [q1]
      refine k_icmp_ge (tgt := 45) (pc := 22) dX2_closeUpOver_22 (by decide) (fun c => absurd c (nI_ge (by omega) (by omega))) (fun _ => ?_)
      refine k_aload_n (pc := 25) dX2_closeUpOver_25 rfl ?_
      refine g_X2_17 (pc := 26) dX2_closeUpOver_26 (cw_at hk) rfl ?_
      refine k_iload_n (pc := 29) dX2_closeUpOver_29 rfl ?_
      refine k_iconst (v := 1) (pc := 30) dX2_closeUpOver_30 (by decide) ?_
      refine k_isub (pc := 31) dX2_closeUpOver_31 ?_
      refine k_aload_n (pc := 32) dX2_closeUpOver_32 rfl ?_
      refine g_X2_17 (pc := 33) dX2_closeUpOver_33 (cw_at hk) rfl ?_
      refine k_iload_n (pc := 36) dX2_closeUpOver_36 rfl ?_
      refine k_aald (b := b) (j := i) (C := "EmberCache$Item") rfl (pc := 37) dX2_closeUpOver_37 (hcell _) rfl (by omega) (by omega) (by rw [va_up_self]; exact hfi) ?_
      refine k_aast (ci := 0) (j := i - 1) rfl rfl (pc := 38) dX2_closeUpOver_38 (hcell _) (cw_at hb) hsub (by omega) (by omega) ?_
      rw [cw_ct hst hk]
      refine k_iinc (pc := 39) dX2_closeUpOver_39 rfl (nI_inc _) (by decide) rfl ?_
      refine k_goto (tgt := 17) (pc := 42) dX2_closeUpOver_42 (by decide) ?_
      have hvv : ∀ g : Nat → Option Nat, va_up (va_up ct r f) r g = va_up ct r g := by
        intro g
        funext z
        unfold va_up
        split <;> rfl
      rw [hvv, va_up_self]
      refine ih (i + 1) (by omega) (by omega) _ (fun z => ?_)
      by_cases hz : z = i - 1
      · subst hz
        rw [va_up_self, if_pos (by omega), show i - 1 + 1 = i by omega]
        exact (q3 i _ ho).symm
      · rw [va_up_ne _ _ hz, hf z]
        by_cases h9 : i0 ≤ z ∧ z + 1 < i
        · rw [if_pos h9, if_pos (by omega)]
        · rw [if_neg h9, if_neg (by omega)]
  refine k_iload_n (pc := 0) dX2_closeUpOver_0 rfl ?_
  refine k_if_lt (tgt := 12) (pc := 1) dX2_closeUpOver_1 (by decide) (fun c => absurd c (nI_pos (by omega))) (fun _ => ?_)
  refine k_iload_n (pc := 4) dX2_closeUpOver_4 rfl ?_
  refine k_aload_n (pc := 5) dX2_closeUpOver_5 rfl ?_
  refine g_X2_23 (pc := 6) dX2_closeUpOver_6 (cw_at hk) rfl ?_
  rw [q1]
  refine k_icmp_lt (tgt := 13) (pc := 9) dX2_closeUpOver_9 (by decide) (fun _ => ?_) (fun c => absurd (nI_lt hi0 (by omega)) c)
  refine k_iload_n (pc := 13) dX2_closeUpOver_13 rfl ?_
  refine k_iconst (v := 1) (pc := 14) dX2_closeUpOver_14 (by decide) ?_
  refine k_iadd (pc := 15) dX2_closeUpOver_15 ?_
  rw [nI_1]
  refine k_istore_n (pc := 16) dX2_closeUpOver_16 (by decide) rfl ?_
  have l0 := loop ((xR σ r).length - (i0 + 1)) (i0 + 1) (by omega) (Nat.le_refl _) (ct r) (fun z => by rw [if_neg (by omega)])
  rw [va_id] at l0
  exact l0
end ROWO
