def wpR (ad : Nat → Nat) (rl : Nat → List (Option Nat)) : Nat → (Nat → List (Option Nat))
  | 0 => rl
  | i + 1 => va_up (wpR ad rl i) (ad (11 + i)) []
def wpF (fl : Nat → Int64) : Nat → (Nat → Int64)
  | 0 => fl
  | i + 1 => va_up (wpF fl i) i 0
def sumR (ad : Nat → Nat) (rl : Nat → List (Option Nat)) : Nat → Nat
  | 0 => 0
  | i + 1 => sumR ad rl i + (rl (ad (11 + i))).length
section SETV
variable {p : Program} {l : Launch} {e : Env} {s : State} {m : MethodId} {args : Array Value} {below : List Frame} {meth : Method} {c : Code} {R : Room} {G : Gd} {A : Nat → Prop} {Q : State → Prop} {k n : Nat} {ad ar ow cap kd : Nat → Nat} {it : Nat → Da} {σ : CS} {I0 : Heap → Prop}
set_option maxRecDepth 4000 in
theorem s_wipe (hst : CSt ad ar ow cap kd)  : Ct 1 0 0 yX3_wipe cX3_wipe 2 (none) G A [.ref (ad 1)] (CH G A ad ar ow cap kd it σ) (none) (CH G A ad ar ow cap kd it (zS (zF (zR σ (wpR ad (xR σ) 64)) (wpF (xF σ) 64)) 0)) := by
  refine Ct.of 1 rfl rfl (Nat.le_of_ble_eq_true rfl) ?_
  intro p l e s m below meth c hini
  have loop : ∀ j i : Nat, i + j = 64 → K p l e s m ([.ref (ad 1)] : List Value).toArray below meth c (rmm 1 0 0) yX3_wipe.cls cX3_wipe 2 (none) G A (MQ below (Qd (none) (CH G A ad ar ow cap kd it (zS (zF (zR σ (wpR ad (xR σ) 64)) (wpF (xF σ) 64)) 0)) A) ([.ref (ad 1)] : List Value).toArray s 0 0 A) 0 0 (CH G A ad ar ow cap kd it (zF (zR σ (wpR ad (xR σ) i)) (wpF (xF σ) i))) 2 [some (.ref (ad 1)), some (.int (nI i))] [] := by
    intro j
    induction j with
    | zero =>
      intro i hi
      have hi6 : i = 64 := by omega
      subst hi6
      refine k_iload_n (pc := 2) dX3_wipe_2 rfl ?_
      refine k_bipush (v := 64) (pc := 3) dX3_wipe_3 (by decide) ?_
      refine k_icmp_ge (tgt := 30) (pc := 5) dX3_wipe_5 (by decide) (fun _ => ?_) (fun c => absurd (by decide) c)
      refine k_aload_n (pc := 30) dX3_wipe_30 rfl ?_
      refine k_iconst (v := 0) (pc := 31) dX3_wipe_31 (by decide) ?_
      refine hp_X3_63 hst rfl (pc := 32) dX3_wipe_32 ?_
      exact k_vret (pc := 35) dX3_wipe_35 (fun _ h => h) (Nat.le_refl _) (Nat.le_refl _)
    | succ j ih =>
      intro i hi
      have hi64 : i < 64 := by omega
      have step := ih (i + 1) (by omega)
      refine k_iload_n (pc := 2) dX3_wipe_2 rfl ?_
      refine k_bipush (v := 64) (pc := 3) dX3_wipe_3 (by decide) ?_
      refine k_icmp_ge (tgt := 30) (pc := 5) dX3_wipe_5 (by decide) (fun c => absurd c (nI_ge (a := i) (b := 64) (by omega) (by decide))) (fun _ => ?_)
      refine k_aload_n (pc := 8) dX3_wipe_8 rfl ?_
      refine h_X3_17 hst (pc := 9) dX3_wipe_9 ?_
      refine k_iload_n (pc := 12) dX3_wipe_12 rfl ?_
      refine pg_ld hst (pc := 13) dX3_wipe_13 rfl hi64 ?_
      refine k_callC2 sv_X3_92 (pgs hst hi64) (r_clear hst (pgs hst hi64)) (pc := 14) dX3_wipe_14 rfl rfl (Nat.le_of_ble_eq_true rfl) (by decide) (by decide) (Nat.le_refl _) (Nat.le_refl _) ?_
      refine k_aload_n (pc := 17) dX3_wipe_17 rfl ?_
      refine h_X3_24 hst (pc := 18) dX3_wipe_18 ?_
      refine k_iload_n (pc := 21) dX3_wipe_21 rfl ?_
      refine k_lconst (v := 0) (pc := 22) dX3_wipe_22 (by decide) ?_
      refine fl_st hst rfl (pc := 23) dX3_wipe_23 rfl hi64 ?_
      refine k_iinc (pc := 24) dX3_wipe_24 rfl (nI_inc _) (by decide) rfl ?_
      refine k_goto (tgt := 2) (pc := 27) dX3_wipe_27 (by decide) ?_
      exact step
  refine k_iconst (v := 0) (pc := 0) dX3_wipe_0 (by decide) ?_
  refine k_istore_n (pc := 1) dX3_wipe_1 (by decide) rfl ?_
  exact loop 64 0 (by omega)
set_option maxRecDepth 4000 in
theorem s_pagesFit (hst : CSt ad ar ow cap kd) (hw : RWF ad kd σ) (hfit : ∀ s, s < 64 → plR it (xR σ (ad (11 + s))) ≤ 32) : Ct 1 0 0 yX3_pagesFit cX3_pagesFit 2 (some .boolean) G A [.ref (ad 1)] (CH G A ad ar ow cap kd it σ) (some (.int 1)) (CH G A ad ar ow cap kd it σ) := by
  refine Ct.of 1 rfl rfl (Nat.le_of_ble_eq_true rfl) ?_
  intro p l e s m below meth c hini
  have loop : ∀ j i : Nat, i + j = 64 → K p l e s m ([.ref (ad 1)] : List Value).toArray below meth c (rmm 1 0 0) yX3_pagesFit.cls cX3_pagesFit 2 (some .boolean) G A (MQ below (Qd (some (.int 1)) (CH G A ad ar ow cap kd it σ) A) ([.ref (ad 1)] : List Value).toArray s 0 0 A) 0 0 (CH G A ad ar ow cap kd it σ) 2 [some (.ref (ad 1)), some (.int (nI i))] [] := by
    intro j
    induction j with
    | zero =>
      intro i hi
      have hi6 : i = 64 := by omega
      subst hi6
      refine k_iload_n (pc := 2) dX3_pagesFit_2 rfl ?_
      refine k_bipush (v := 64) (pc := 3) dX3_pagesFit_3 (by decide) ?_
      refine k_icmp_ge (tgt := 30) (pc := 5) dX3_pagesFit_5 (by decide) (fun _ => ?_) (fun c => absurd (by decide) c)
      refine k_iconst (v := 1) (pc := 30) dX3_pagesFit_30 (by decide) ?_
      exact k_zret (pc := 31) dX3_pagesFit_31 rfl rfl (fun _ h => h) (Nat.le_refl _) (Nat.le_refl _)
    | succ j ih =>
      intro i hi
      have hi64 : i < 64 := by omega
      have step := ih (i + 1) (by omega)
      have hpk := pgs hst hi64
      refine k_iload_n (pc := 2) dX3_pagesFit_2 rfl ?_
      refine k_bipush (v := 64) (pc := 3) dX3_pagesFit_3 (by decide) ?_
      refine k_icmp_ge (tgt := 30) (pc := 5) dX3_pagesFit_5 (by decide) (fun c => absurd c (nI_ge (a := i) (b := 64) (by omega) (by decide))) (fun _ => ?_)
      refine k_aload_n (pc := 8) dX3_pagesFit_8 rfl ?_
      refine h_X3_17 hst (pc := 9) dX3_pagesFit_9 ?_
      refine k_iload_n (pc := 12) dX3_pagesFit_12 rfl ?_
      refine pg_ld hst (pc := 13) dX3_pagesFit_13 rfl hi64 ?_
      refine k_callC2 sv_X3_81 hpk (r_places hst hpk (hw.1 _ hpk)) (pc := 14) dX3_pagesFit_14 rfl rfl (Nat.le_of_ble_eq_true rfl) (by decide) (by decide) (Nat.le_refl _) (Nat.le_refl _) ?_
      refine k_bipush (v := 32) (pc := 17) dX3_pagesFit_17 (by decide) ?_
      refine k_icmp_le (tgt := 24) (pc := 19) dX3_pagesFit_19 (by decide) (fun _ => ?_) (fun c => absurd (nI_le (b := 32) (hfit i hi64) (by decide)) c)
      refine k_iinc (pc := 24) dX3_pagesFit_24 rfl (nI_inc _) (by decide) rfl ?_
      refine k_goto (tgt := 2) (pc := 27) dX3_pagesFit_27 (by decide) ?_
      exact step
  refine k_iconst (v := 0) (pc := 0) dX3_pagesFit_0 (by decide) ?_
  refine k_istore_n (pc := 1) dX3_pagesFit_1 (by decide) rfl ?_
  exact loop 64 0 (by omega)
set_option maxRecDepth 4000 in
theorem s_keysBelong (hst : CSt ad ar ow cap kd) (hw : RWF ad kd σ) (hall : ∀ s, s < 64 → ∀ i o, (xR σ (ad (11 + s)))[i]? = some o → ∃ a, o = some a ∧ setN (it a).1 = s ∧ (xR σ (ad (11 + s))).findIdx? (keyIs it (it a).1) = some i) : Ct 2 0 0 yX3_keysBelong cX3_keysBelong 2 (some .boolean) G A [.ref (ad 1)] (CH G A ad ar ow cap kd it σ) (some (.int 1)) (CH G A ad ar ow cap kd it σ) := by
  refine Ct.of 1 rfl rfl (Nat.le_of_ble_eq_true rfl) ?_
  intro p l e s m below meth c hini
  have loop : ∀ j i : Nat, i + j = 64 → K p l e s m ([.ref (ad 1)] : List Value).toArray below meth c (rmm 2 0 0) yX3_keysBelong.cls cX3_keysBelong 2 (some .boolean) G A (MQ below (Qd (some (.int 1)) (CH G A ad ar ow cap kd it σ) A) ([.ref (ad 1)] : List Value).toArray s 0 0 A) 0 0 (CH G A ad ar ow cap kd it σ) 2 [some (.ref (ad 1)), some (.int (nI i))] [] := by
    intro j
    induction j with
    | zero =>
      intro i hi
      have hi6 : i = 64 := by omega
      subst hi6
      refine k_iload_n (pc := 2) dX3_keysBelong_2 rfl ?_
      refine k_bipush (v := 64) (pc := 3) dX3_keysBelong_3 (by decide) ?_
      refine k_icmp_ge (tgt := 29) (pc := 5) dX3_keysBelong_5 (by decide) (fun _ => ?_) (fun c => absurd (by decide) c)
      refine k_iconst (v := 1) (pc := 29) dX3_keysBelong_29 (by decide) ?_
      exact k_zret (pc := 30) dX3_keysBelong_30 rfl rfl (fun _ h => h) (Nat.le_refl _) (Nat.le_refl _)
    | succ j ih =>
      intro i hi
      have hi64 : i < 64 := by omega
      have step := ih (i + 1) (by omega)
      have hpk := pgs hst hi64
      refine k_iload_n (pc := 2) dX3_keysBelong_2 rfl ?_
      refine k_bipush (v := 64) (pc := 3) dX3_keysBelong_3 (by decide) ?_
      refine k_icmp_ge (tgt := 29) (pc := 5) dX3_keysBelong_5 (by decide) (fun c => absurd c (nI_ge (a := i) (b := 64) (by omega) (by decide))) (fun _ => ?_)
      refine k_aload_n (pc := 8) dX3_keysBelong_8 rfl ?_
      refine h_X3_17 hst (pc := 9) dX3_keysBelong_9 ?_
      refine k_iload_n (pc := 12) dX3_keysBelong_12 rfl ?_
      refine pg_ld hst (pc := 13) dX3_keysBelong_13 rfl hi64 ?_
      refine k_iload_n (pc := 14) dX3_keysBelong_14 rfl ?_
      refine k_callC2 sv_X3_112 hpk (r_belongs hst hpk (hw.1 _ hpk) i (hall i hi64)) (pc := 15) dX3_keysBelong_15 rfl rfl (Nat.le_of_ble_eq_true rfl) (by decide) (by decide) (Nat.le_refl _) (Nat.le_refl _) ?_
      refine k_if_ne (tgt := 23) (pc := 18) dX3_keysBelong_18 (by decide) (fun _ => ?_) (fun c => absurd c ((show ¬ (1 : Int32) = 0 by decide)))
      refine k_iinc (pc := 23) dX3_keysBelong_23 rfl (nI_inc _) (by decide) rfl ?_
      refine k_goto (tgt := 2) (pc := 26) dX3_keysBelong_26 (by decide) ?_
      exact step
  refine k_iconst (v := 0) (pc := 0) dX3_keysBelong_0 (by decide) ?_
  refine k_istore_n (pc := 1) dX3_keysBelong_1 (by decide) rfl ?_
  exact loop 64 0 (by omega)
set_option maxRecDepth 4000 in
theorem s_filtersRight (hst : CSt ad ar ow cap kd) (hw : RWF ad kd σ) (hall : ∀ s, s < 64 → xF σ s = flR it (xR σ (ad (11 + s)))) : Ct 1 0 0 yX3_filtersAreRight cX3_filtersAreRight 2 (some .boolean) G A [.ref (ad 1)] (CH G A ad ar ow cap kd it σ) (some (.int 1)) (CH G A ad ar ow cap kd it σ) := by
  refine Ct.of 1 rfl rfl (Nat.le_of_ble_eq_true rfl) ?_
  intro p l e s m below meth c hini
  have loop : ∀ j i : Nat, i + j = 64 → K p l e s m ([.ref (ad 1)] : List Value).toArray below meth c (rmm 1 0 0) yX3_filtersAreRight.cls cX3_filtersAreRight 2 (some .boolean) G A (MQ below (Qd (some (.int 1)) (CH G A ad ar ow cap kd it σ) A) ([.ref (ad 1)] : List Value).toArray s 0 0 A) 0 0 (CH G A ad ar ow cap kd it σ) 2 [some (.ref (ad 1)), some (.int (nI i))] [] := by
    intro j
    induction j with
    | zero =>
      intro i hi
      have hi6 : i = 64 := by omega
      subst hi6
      refine k_iload_n (pc := 2) dX3_filtersAreRight_2 rfl ?_
      refine k_bipush (v := 64) (pc := 3) dX3_filtersAreRight_3 (by decide) ?_
      refine k_icmp_ge (tgt := 35) (pc := 5) dX3_filtersAreRight_5 (by decide) (fun _ => ?_) (fun c => absurd (by decide) c)
      refine k_iconst (v := 1) (pc := 35) dX3_filtersAreRight_35 (by decide) ?_
      exact k_zret (pc := 36) dX3_filtersAreRight_36 rfl rfl (fun _ h => h) (Nat.le_refl _) (Nat.le_refl _)
    | succ j ih =>
      intro i hi
      have hi64 : i < 64 := by omega
      have step := ih (i + 1) (by omega)
      have hpk := pgs hst hi64
      refine k_iload_n (pc := 2) dX3_filtersAreRight_2 rfl ?_
      refine k_bipush (v := 64) (pc := 3) dX3_filtersAreRight_3 (by decide) ?_
      refine k_icmp_ge (tgt := 35) (pc := 5) dX3_filtersAreRight_5 (by decide) (fun c => absurd c (nI_ge (a := i) (b := 64) (by omega) (by decide))) (fun _ => ?_)
      refine k_aload_n (pc := 8) dX3_filtersAreRight_8 rfl ?_
      refine h_X3_24 hst (pc := 9) dX3_filtersAreRight_9 ?_
      refine k_iload_n (pc := 12) dX3_filtersAreRight_12 rfl ?_
      refine fl_ld hst (pc := 13) dX3_filtersAreRight_13 rfl hi64 ?_
      refine k_aload_n (pc := 14) dX3_filtersAreRight_14 rfl ?_
      refine h_X3_17 hst (pc := 15) dX3_filtersAreRight_15 ?_
      refine k_iload_n (pc := 18) dX3_filtersAreRight_18 rfl ?_
      refine pg_ld hst (pc := 19) dX3_filtersAreRight_19 rfl hi64 ?_
      refine k_callC2 sv_X3_66 hpk (r_filter hst hpk (hw.1 _ hpk)) (pc := 20) dX3_filtersAreRight_20 rfl rfl (Nat.le_of_ble_eq_true rfl) (by decide) (by decide) (Nat.le_refl _) (Nat.le_refl _) ?_
      refine k_lcmp (pc := 23) dX3_filtersAreRight_23 ?_
      refine k_if_eq (tgt := 29) (pc := 24) dX3_filtersAreRight_24 (by decide) (fun _ => ?_) (fun c => absurd (((lg_cmp_eq _ _).mpr (hall i hi64))) c)
      refine k_iinc (pc := 29) dX3_filtersAreRight_29 rfl (nI_inc _) (by decide) rfl ?_
      refine k_goto (tgt := 2) (pc := 32) dX3_filtersAreRight_32 (by decide) ?_
      exact step
  refine k_iconst (v := 0) (pc := 0) dX3_filtersAreRight_0 (by decide) ?_
  refine k_istore_n (pc := 1) dX3_filtersAreRight_1 (by decide) rfl ?_
  exact loop 64 0 (by omega)
set_option maxRecDepth 4000 in
theorem s_countRight (hst : CSt ad ar ow cap kd) (hall : xS σ = nI (sumR ad (xR σ) 64)) : Ct 0 0 0 yX3_countIsRight cX3_countIsRight 3 (some .boolean) G A [.ref (ad 1)] (CH G A ad ar ow cap kd it σ) (some (.int 1)) (CH G A ad ar ow cap kd it σ) := by
  refine Ct.of 2 rfl rfl (Nat.le_of_ble_eq_true rfl) ?_
  intro p l e s m below meth c hini
  have loop : ∀ j i : Nat, i + j = 64 → K p l e s m ([.ref (ad 1)] : List Value).toArray below meth c (rmm 0 0 0) yX3_countIsRight.cls cX3_countIsRight 3 (some .boolean) G A (MQ below (Qd (some (.int 1)) (CH G A ad ar ow cap kd it σ) A) ([.ref (ad 1)] : List Value).toArray s 0 0 A) 0 0 (CH G A ad ar ow cap kd it σ) 4 [some (.ref (ad 1)), some (.int (nI (sumR ad (xR σ) i))), some (.int (nI i))] [] := by
    intro j
    induction j with
    | zero =>
      intro i hi
      have hi6 : i = 64 := by omega
      subst hi6
      refine k_iload_n (pc := 4) dX3_countIsRight_4 rfl ?_
      refine k_bipush (v := 64) (pc := 5) dX3_countIsRight_5 (by decide) ?_
      refine k_icmp_ge (tgt := 28) (pc := 7) dX3_countIsRight_7 (by decide) (fun _ => ?_) (fun c => absurd (by decide) c)
      refine k_iload_n (pc := 28) dX3_countIsRight_28 rfl ?_
      refine k_aload_n (pc := 29) dX3_countIsRight_29 rfl ?_
      refine h_X3_63 hst (pc := 30) dX3_countIsRight_30 ?_
      refine k_icmp_ne (tgt := 40) (pc := 33) dX3_countIsRight_33 (by decide) (fun c => absurd (hall.symm) c) (fun _ => ?_)
      refine k_iconst (v := 1) (pc := 36) dX3_countIsRight_36 (by decide) ?_
      refine k_goto (tgt := 41) (pc := 37) dX3_countIsRight_37 (by decide) ?_
      exact k_zret (pc := 41) dX3_countIsRight_41 rfl rfl (fun _ h => h) (Nat.le_refl _) (Nat.le_refl _)
    | succ j ih =>
      intro i hi
      have hi64 : i < 64 := by omega
      have step := ih (i + 1) (by omega)
      rw [show sumR ad (xR σ) (i + 1) = sumR ad (xR σ) i + (xR σ (ad (11 + i))).length from rfl, ← nI_add] at step
      have hpk := pgs hst hi64
      refine k_iload_n (pc := 4) dX3_countIsRight_4 rfl ?_
      refine k_bipush (v := 64) (pc := 5) dX3_countIsRight_5 (by decide) ?_
      refine k_icmp_ge (tgt := 28) (pc := 7) dX3_countIsRight_7 (by decide) (fun c => absurd c (nI_ge (a := i) (b := 64) (by omega) (by decide))) (fun _ => ?_)
      refine k_iload_n (pc := 10) dX3_countIsRight_10 rfl ?_
      refine k_aload_n (pc := 11) dX3_countIsRight_11 rfl ?_
      refine h_X3_17 hst (pc := 12) dX3_countIsRight_12 ?_
      refine k_iload_n (pc := 15) dX3_countIsRight_15 rfl ?_
      refine pg_ld hst (pc := 16) dX3_countIsRight_16 rfl hi64 ?_
      refine h_X3_70 hpk (pc := 17) dX3_countIsRight_17 ?_
      refine k_iadd (pc := 20) dX3_countIsRight_20 ?_
      refine k_istore_n (pc := 21) dX3_countIsRight_21 (by decide) rfl ?_
      refine k_iinc (pc := 22) dX3_countIsRight_22 rfl (nI_inc _) (by decide) rfl ?_
      refine k_goto (tgt := 4) (pc := 25) dX3_countIsRight_25 (by decide) ?_
      exact step
  refine k_iconst (v := 0) (pc := 0) dX3_countIsRight_0 (by decide) ?_
  refine k_istore_n (pc := 1) dX3_countIsRight_1 (by decide) rfl ?_
  refine k_iconst (v := 0) (pc := 2) dX3_countIsRight_2 (by decide) ?_
  refine k_istore_n (pc := 3) dX3_countIsRight_3 (by decide) rfl ?_
  exact loop 64 0 (by omega)
end SETV
