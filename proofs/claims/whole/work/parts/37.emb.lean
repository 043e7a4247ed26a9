def gotC (it : Nat → Da) (σ : CS) (a : Nat) : CS := zQ (zM σ (va_up (xM σ) a true)) (nI (it a).2.1, (it a).2.2.1, (it a).2.2.2)
def getC (ad : Nat → Nat) (it : Nat → Da) (σ : CS) (key : Int64) : Int32 × CS :=
  if xC σ = true then (-2, σ) else
  match findC it σ key with
  | some a => (nI (it a).2.1, gotC it σ a)
  | none => match (readC ad it σ key).2 with
    | some a => (nI (it a).2.1, gotC it (readC ad it σ key).1 a)
    | none => (0, (readC ad it σ key).1)
def removeC (ad : Nat → Nat) (it : Nat → Da) (σ : CS) (key : Int64) : Int32 × CS :=
  if xC σ = true then (-2, σ) else
  (bI ((killC σ (findC it σ key)).2 || (takeC ad it (killC σ (findC it σ key)).1 key 4).2), (takeC ad it (killC σ (findC it σ key)).1 key 4).1)
def gotI (σ : CS) (i : Int32) : Int32 := if ¬ i < 0 ∧ ¬ (xQ σ).1 ≤ i then (xQ σ).2.1 + i * (xQ σ).2.2 else 0
def whereC (ad : Nat → Nat) (it : Nat → Da) (σ : CS) (key : Int64) : Int32 := if xC σ = true then -2 else if (findC it σ key).isSome then 1 else if (findP ad it σ key).isSome then 2 else 0
def markO (σ : CS) (o : Option Nat) : Int32 := match o with
  | some a => bI (xM σ a)
  | none => 0
def markC (ad : Nat → Nat) (it : Nat → Da) (σ : CS) (key : Int64) : Int32 := if xC σ = true then -2 else match findC it σ key with
  | some a => bI (xM σ a)
  | none => markO σ (findP ad it σ key)
def standsC (ad : Nat → Nat) (σ : CS) (x : Int32) : Int32 := if xC σ = true then -2 else if isSet x = true then nI (xR σ (ad (11 + x.toNatClampNeg))).length else -1
def keyO (it : Nat → Da) (o : Option Nat) : Int64 := match o with
  | some a => (it a).1
  | none => 0
def keyC (ad : Nat → Nat) (it : Nat → Da) (σ : CS) (x i : Int32) : Int64 := if xC σ = true then 0 else if isSet x = true then keyO it (atR (xR σ (ad (11 + x.toNatClampNeg))) i) else 0
def filterC (σ : CS) (x : Int32) : Int64 := if xC σ = true then 0 else if isSet x = true then xF σ x.toNatClampNeg else 0
def aliveC (σ : CS) (x : Int32) : Int32 := if xC σ = true then -2 else if x < 0 ∨ (8 : Int32) < x then -1 else if x = 8 then nI ((xR σ (xO σ)).filter (inL (xI σ))).length else nI (cnS σ (4 * x.toNatClampNeg) 4)
def countC (it : Nat → Da) (σ : CS) (x : Int32) : Int32 :=
  if ¬ x < 0 ∧ ¬ (12 : Int32) ≤ x then xT σ x.toNatClampNeg
  else if x = 12 then xV σ else if x = 13 then xS σ else if x = 14 then nI (plR it (xR σ (xO σ))) else if x = 15 then nI (xH σ) else if x = 16 then nI (xW σ (xH σ)) else if x = 17 then bI (xC σ) else -1
def closeC (σ : CS) : Int32 × CS := if xC σ = true then (-2, σ) else (1, zC σ true)
def swipeC (ad : Nat → Nat) (σ : CS) : CS := zS (zF (zR σ (wpR ad (xR σ) 64)) (wpF (xF σ) 64)) 0
def crashC (ad : Nat → Nat) (σ : CS) : CS := zC (swipeC ad (lwipeC σ)) true
def openC (σ : CS) : Int32 × CS := if xC σ = true then (xV σ, zC σ false) else (-1, σ)
/-- what check() looks for, on the class's side -/
def CkC (ad cap : Nat → Nat) (it : Nat → Da) (σ : CS) : Prop :=
  (∀ s, s < 64 → ∀ i o, (addsR (cap (ad 9)) [] (gaL ad it σ s 0))[i]? = some o → ∃ a, o = some a ∧ setN (it a).1 = s ∧ (addsR (cap (ad 9)) [] (gaL ad it σ s 0)).findIdx? (keyIs it (it a).1) = some i) ∧
  (∀ j, j < 32 → plR it (xR σ (xG σ j)) ≤ 32) ∧ plR it (xR σ (xO σ)) ≤ 32 ∧ (∀ s, s < 64 → plR it (xR σ (ad (11 + s))) ≤ 32) ∧
  (∀ s, s < 64 → ∀ i o, (xR σ (ad (11 + s)))[i]? = some o → ∃ a, o = some a ∧ setN (it a).1 = s ∧ (xR σ (ad (11 + s))).findIdx? (keyIs it (it a).1) = some i) ∧
  (∀ s, s < 64 → xF σ s = flR it (xR σ (ad (11 + s)))) ∧ xV σ = nI (((xR σ (xO σ)).filter (inL (xI σ))).length + cnS σ 0 32) ∧ xS σ = nI (sumR ad (xR σ) 64)
theorem CWF.read {ad kd : Nat → Nat} {it : Nat → Da} {σ : CS} (h : CWF ad kd σ) (key : Int64) : CWF ad kd (readC ad it σ key).1 := by
  unfold readC
  split
  · exact h
  · exact h
theorem readC_ok {ad kd ar ow cap : Nat → Nat} {it : Nat → Da} {σ : CS} (hst : CSt ad ar ow cap kd) (h : CWF ad kd σ) {key : Int64} {a : Nat} (ha : (readC ad it σ key).2 = some a) : kd a = 1 ∧ (it a).1 = key ∧ some a ∈ xR σ (ad (11 + setN key)) := by
  unfold readC at ha
  split at ha
  · obtain ⟨h1, h2⟩ := findP_key ha
    exact ⟨h.1.1 _ (pgk hst key) a h2, h1, h2⟩
  · cases ha
theorem findP_ok {ad kd ar ow cap : Nat → Nat} {it : Nat → Da} {σ : CS} (hst : CSt ad ar ow cap kd) (h : CWF ad kd σ) {key : Int64} {a : Nat} (ha : findP ad it σ key = some a) : kd a = 1 := h.1.1 _ (pgk hst key) a (findP_key ha).2
section EMB
variable {p : Program} {l : Launch} {e : Env} {s : State} {m : MethodId} {args : Array Value} {below : List Frame} {meth : Method} {c : Code} {R : Room} {G : Gd} {A : Nat → Prop} {Q : State → Prop} {k n : Nat} {ad ar ow cap kd : Nat → Nat} {it : Nat → Da} {σ : CS} {I0 : Heap → Prop}
set_option maxRecDepth 4000 in
theorem e_get (hst : CSt ad ar ow cap kd) (key : Int64) (hc : CWF ad kd σ) : Ct 2 0 0 yX4_get cX4_get 4 (some .int) G A [.ref (ad 0), .long key] (CH G A ad ar ow cap kd it σ) (some (.int (getC ad it σ key).1)) (CH G A ad ar ow cap kd it (getC ad it σ key).2) := by
  refine Ct.of 1 rfl rfl (Nat.le_of_ble_eq_true rfl) ?_
  intro p l e s m below meth c hini
  unfold getC
  refine k_aload_n (pc := 0) dX4_get_0 rfl ?_
  refine h_X4_31 hst (pc := 1) dX4_get_1 ?_
  cases hx : xC σ with
  | true =>
    rw [if_pos rfl]
    refine k_if_eq (tgt := 10) (pc := 4) dX4_get_4 (by decide) (fun c => absurd c ((show ¬ bI true = 0 by decide))) (fun _ => ?_)
    refine k_bipush (v := -2) (pc := 7) dX4_get_7 (by decide) ?_
    exact k_iret (pc := 9) dX4_get_9 rfl (fun _ h => h) (Nat.le_refl _) (Nat.le_refl _)
  | false =>
    rw [if_neg (by decide)]
    refine k_if_eq (tgt := 10) (pc := 4) dX4_get_4 (by decide) (fun _ => ?_) (fun c => absurd (show bI false = 0 by decide) c)
    refine k_aload_n (pc := 10) dX4_get_10 rfl ?_
    refine h_X4_27 hst (pc := 11) dX4_get_11 ?_
    refine k_lload_n (pc := 14) dX4_get_14 rfl ?_
    refine k_callC1 sv_X4_35 hst (l_find hst key hc) (pc := 15) dX4_get_15 rfl rfl (Nat.le_of_ble_eq_true rfl) (by decide) (by decide) (Nat.le_refl _) (Nat.le_refl _) ?_
    cases ho : findC it σ key with
    | some a =>
      have ha := (findC_ok hc ho).1
      refine k_astore_n (pc := 18) dX4_get_18 (by decide) rfl ?_
      refine k_aload_n (pc := 19) dX4_get_19 rfl ?_
      refine k_ifnonnull (tgt := 32) (pc := 20) dX4_get_20 (by decide) ?_
      refine k_aload_n (pc := 32) dX4_get_32 rfl ?_
      refine k_ifnonnull (tgt := 38) (pc := 33) dX4_get_33 (by decide) ?_
      refine k_aload_n (pc := 38) dX4_get_38 rfl ?_
      refine k_iconst (v := 1) (pc := 39) dX4_get_39 (by decide) ?_
      refine hp_X4_55 ha (show (1 : Int32) = bI true from rfl) (pc := 40) dX4_get_40 ?_
      refine k_aload_n (pc := 43) dX4_get_43 rfl ?_
      refine k_aload_n (pc := 44) dX4_get_44 rfl ?_
      refine h_X4_58 ha (pc := 45) dX4_get_45 ?_
      refine hp_X4_62 hst rfl (pc := 48) dX4_get_48 ?_
      refine k_aload_n (pc := 51) dX4_get_51 rfl ?_
      refine k_aload_n (pc := 52) dX4_get_52 rfl ?_
      refine h_X4_65 ha (pc := 53) dX4_get_53 ?_
      refine hp_X4_68 hst rfl (pc := 56) dX4_get_56 ?_
      refine k_aload_n (pc := 59) dX4_get_59 rfl ?_
      refine k_aload_n (pc := 60) dX4_get_60 rfl ?_
      refine h_X4_71 ha (pc := 61) dX4_get_61 ?_
      refine hp_X4_74 hst rfl (pc := 64) dX4_get_64 ?_
      refine k_aload_n (pc := 67) dX4_get_67 rfl ?_
      refine h_X4_62 hst (pc := 68) dX4_get_68 ?_
      exact k_iret (pc := 71) dX4_get_71 rfl (fun _ h => h) (Nat.le_refl _) (Nat.le_refl _)
    | none =>
      refine k_astore_nN (pc := 18) dX4_get_18 (by decide) rfl ?_
      refine k_aload_nN (pc := 19) dX4_get_19 rfl ?_
      refine k_ifnonnullN (pc := 20) dX4_get_20 ?_
      refine k_aload_n (pc := 23) dX4_get_23 rfl ?_
      refine h_X4_18 hst (pc := 24) dX4_get_24 ?_
      refine k_lload_n (pc := 27) dX4_get_27 rfl ?_
      refine k_callC3 sv_X4_52 hst (s_read hst key hc.1) (pc := 28) dX4_get_28 rfl rfl (Nat.le_of_ble_eq_true rfl) (by decide) (by decide) (Nat.le_refl _) (Nat.le_refl _) ?_
      cases hr : (readC ad it σ key).2 with
      | none =>
        refine k_astore_nN (pc := 31) dX4_get_31 (by decide) rfl ?_
        refine k_aload_nN (pc := 32) dX4_get_32 rfl ?_
        refine k_ifnonnullN (pc := 33) dX4_get_33 ?_
        refine k_iconst (v := 0) (pc := 36) dX4_get_36 (by decide) ?_
        exact k_iret (pc := 37) dX4_get_37 rfl (fun _ h => h) (Nat.le_refl _) (Nat.le_refl _)
      | some a =>
        have ha := (readC_ok hst hc hr).1
        refine k_astore_n (pc := 31) dX4_get_31 (by decide) rfl ?_
        refine k_aload_n (pc := 32) dX4_get_32 rfl ?_
        refine k_ifnonnull (tgt := 38) (pc := 33) dX4_get_33 (by decide) ?_
        refine k_aload_n (pc := 38) dX4_get_38 rfl ?_
        refine k_iconst (v := 1) (pc := 39) dX4_get_39 (by decide) ?_
        refine hp_X4_55 ha (show (1 : Int32) = bI true from rfl) (pc := 40) dX4_get_40 ?_
        refine k_aload_n (pc := 43) dX4_get_43 rfl ?_
        refine k_aload_n (pc := 44) dX4_get_44 rfl ?_
        refine h_X4_58 ha (pc := 45) dX4_get_45 ?_
        refine hp_X4_62 hst rfl (pc := 48) dX4_get_48 ?_
        refine k_aload_n (pc := 51) dX4_get_51 rfl ?_
        refine k_aload_n (pc := 52) dX4_get_52 rfl ?_
        refine h_X4_65 ha (pc := 53) dX4_get_53 ?_
        refine hp_X4_68 hst rfl (pc := 56) dX4_get_56 ?_
        refine k_aload_n (pc := 59) dX4_get_59 rfl ?_
        refine k_aload_n (pc := 60) dX4_get_60 rfl ?_
        refine h_X4_71 ha (pc := 61) dX4_get_61 ?_
        refine hp_X4_74 hst rfl (pc := 64) dX4_get_64 ?_
        refine k_aload_n (pc := 67) dX4_get_67 rfl ?_
        refine h_X4_62 hst (pc := 68) dX4_get_68 ?_
        exact k_iret (pc := 71) dX4_get_71 rfl (fun _ h => h) (Nat.le_refl _) (Nat.le_refl _)
set_option maxRecDepth 4000 in
theorem e_got (hst : CSt ad ar ow cap kd) (i : Int32) : Ct 0 0 0 yX4_got cX4_got 2 (some .int) G A [.ref (ad 0), .int i] (CH G A ad ar ow cap kd it σ) (some (.int (gotI σ i))) (CH G A ad ar ow cap kd it σ) := by
  refine Ct.of 0 rfl rfl (Nat.le_of_ble_eq_true rfl) ?_
  intro p l e s m below meth c hini
  refine k_iload_n (pc := 0) dX4_got_0 rfl ?_
  refine k_if_lt (tgt := 26) (pc := 1) dX4_got_1 (by decide) (fun h1 => ?_) (fun h1 => ?_)
  · refine k_iconst (v := 0) (pc := 26) dX4_got_26 (by decide) ?_
    exact k_iret (pc := 27) dX4_got_27 (by unfold gotI; rw [if_neg (fun z => z.1 h1)]) (fun _ h => h) (Nat.le_refl _) (Nat.le_refl _)
  · refine k_iload_n (pc := 4) dX4_got_4 rfl ?_
    refine k_aload_n (pc := 5) dX4_got_5 rfl ?_
    refine h_X4_62 hst (pc := 6) dX4_got_6 ?_
    refine k_icmp_ge (tgt := 26) (pc := 9) dX4_got_9 (by decide) (fun h2 => ?_) (fun h2 => ?_)
    · refine k_iconst (v := 0) (pc := 26) dX4_got_26 (by decide) ?_
      exact k_iret (pc := 27) dX4_got_27 (by unfold gotI; rw [if_neg (fun z => z.2 h2)]) (fun _ h => h) (Nat.le_refl _) (Nat.le_refl _)
    · refine k_aload_n (pc := 12) dX4_got_12 rfl ?_
      refine h_X4_68 hst (pc := 13) dX4_got_13 ?_
      refine k_iload_n (pc := 16) dX4_got_16 rfl ?_
      refine k_aload_n (pc := 17) dX4_got_17 rfl ?_
      refine h_X4_74 hst (pc := 18) dX4_got_18 ?_
      refine k_imul (pc := 21) dX4_got_21 ?_
      refine k_iadd (pc := 22) dX4_got_22 ?_
      refine k_goto (tgt := 27) (pc := 23) dX4_got_23 (by decide) ?_
      exact k_iret (pc := 27) dX4_got_27 (by unfold gotI; rw [if_pos ⟨h1, h2⟩]) (fun _ h => h) (Nat.le_refl _) (Nat.le_refl _)
set_option maxRecDepth 4000 in
theorem e_remove (hst : CSt ad ar ow cap kd) (key : Int64) (hc : CWF ad kd σ) : Ct 3 0 0 yX4_remove cX4_remove 5 (some .int) G A [.ref (ad 0), .long key] (CH G A ad ar ow cap kd it σ) (some (.int (removeC ad it σ key).1)) (CH G A ad ar ow cap kd it (removeC ad it σ key).2) := by
  refine Ct.of 2 rfl rfl (Nat.le_of_ble_eq_true rfl) ?_
  intro p l e s m below meth c hini
  unfold removeC
  refine k_aload_n (pc := 0) dX4_remove_0 rfl ?_
  refine h_X4_31 hst (pc := 1) dX4_remove_1 ?_
  cases hx : xC σ with
  | true =>
    rw [if_pos rfl]
    refine k_if_eq (tgt := 10) (pc := 4) dX4_remove_4 (by decide) (fun c => absurd c ((show ¬ bI true = 0 by decide))) (fun _ => ?_)
    refine k_bipush (v := -2) (pc := 7) dX4_remove_7 (by decide) ?_
    exact k_iret (pc := 9) dX4_remove_9 rfl (fun _ h => h) (Nat.le_refl _) (Nat.le_refl _)
  | false =>
    rw [if_neg (by decide)]
    refine k_if_eq (tgt := 10) (pc := 4) dX4_remove_4 (by decide) (fun _ => ?_) (fun c => absurd (show bI false = 0 by decide) c)
    have hck := hc.kill (findC it σ key)
    refine k_aload_n (pc := 10) dX4_remove_10 rfl ?_
    refine h_X4_27 hst (pc := 11) dX4_remove_11 ?_
    refine k_aload_n (pc := 14) dX4_remove_14 rfl ?_
    refine h_X4_27 hst (pc := 15) dX4_remove_15 ?_
    refine k_lload_n (pc := 18) dX4_remove_18 rfl ?_
    refine k_callC1 sv_X4_35 hst (l_find hst key hc) (pc := 19) dX4_remove_19 rfl rfl (Nat.le_of_ble_eq_true rfl) (by decide) (by decide) (Nat.le_refl _) (Nat.le_refl _) ?_
    refine k_callC1 sv_X4_39 hst (l_kill hst (findC it σ key) (fun a ha => (findC_ok hc ha).1)) (pc := 22) dX4_remove_22 rfl rfl (Nat.le_of_ble_eq_true rfl) (by decide) (by decide) (Nat.le_refl _) (Nat.le_refl _) ?_
    refine k_istore_n (pc := 25) dX4_remove_25 (by decide) rfl ?_
    refine k_aload_n (pc := 26) dX4_remove_26 rfl ?_
    refine h_X4_18 hst (pc := 27) dX4_remove_27 ?_
    refine k_lload_n (pc := 30) dX4_remove_30 rfl ?_
    refine k_iconst (v := 4) (pc := 31) dX4_remove_31 (by decide) ?_
    refine k_callC3 sv_X4_77 hst (s_takeOut hst key 4 (by decide) hck.1) (pc := 32) dX4_remove_32 rfl rfl (Nat.le_of_ble_eq_true rfl) (by decide) (by decide) (Nat.le_refl _) (Nat.le_refl _) ?_
    refine k_istore (pc := 35) dX4_remove_35 (by decide) rfl ?_
    refine k_iload_n (pc := 37) dX4_remove_37 rfl ?_
    cases hk : (killC σ (findC it σ key)).2 with
    | true =>
      refine k_if_ne (tgt := 46) (pc := 38) dX4_remove_38 (by decide) (fun _ => ?_) (fun c => absurd c ((show ¬ bI true = 0 by decide)))
      refine k_iconst (v := 1) (pc := 46) dX4_remove_46 (by decide) ?_
      refine k_goto (tgt := 51) (pc := 47) dX4_remove_47 (by decide) ?_
      exact k_iret (pc := 51) dX4_remove_51 rfl (fun _ h => h) (Nat.le_refl _) (Nat.le_refl _)
    | false =>
      refine k_if_ne (tgt := 46) (pc := 38) dX4_remove_38 (by decide) (fun c => absurd ((show bI false = 0 by decide)) c) (fun _ => ?_)
      refine k_iload (pc := 41) dX4_remove_41 rfl ?_
      cases ht : (takeC ad it (killC σ (findC it σ key)).1 key 4).2 with
      | true =>
        refine k_if_eq (tgt := 50) (pc := 43) dX4_remove_43 (by decide) (fun c => absurd c ((show ¬ bI true = 0 by decide))) (fun _ => ?_)
        refine k_iconst (v := 1) (pc := 46) dX4_remove_46 (by decide) ?_
        refine k_goto (tgt := 51) (pc := 47) dX4_remove_47 (by decide) ?_
        exact k_iret (pc := 51) dX4_remove_51 rfl (fun _ h => h) (Nat.le_refl _) (Nat.le_refl _)
      | false =>
        refine k_if_eq (tgt := 50) (pc := 43) dX4_remove_43 (by decide) (fun _ => ?_) (fun c => absurd ((show bI false = 0 by decide)) c)
        refine k_iconst (v := 0) (pc := 50) dX4_remove_50 (by decide) ?_
        exact k_iret (pc := 51) dX4_remove_51 rfl (fun _ h => h) (Nat.le_refl _) (Nat.le_refl _)
set_option maxRecDepth 4000 in
theorem e_mix (r : Nat) (key : Int64) : Ct 1 0 0 yX4_mix cX4_mix 3 (some .long) G A [.ref r, .long key] (I0) (some (.long (mixI key))) (I0) := by
  refine Ct.of 0 rfl rfl (Nat.le_of_ble_eq_true rfl) ?_
  intro p l e s m below meth c hini
  refine k_lload_n (pc := 0) dX4_mix_0 rfl ?_
  refine k_callS ss_X4_81 (e_mixOf key) (pc := 1) dX4_mix_1 rfl rfl (Nat.le_of_ble_eq_true rfl) (by decide) (by decide) (Nat.le_refl _) (Nat.le_refl _) ?_
  exact k_lret (pc := 4) dX4_mix_4 rfl (fun _ h => h) (Nat.le_refl _) (Nat.le_refl _)
set_option maxRecDepth 4000 in
theorem e_unmix (r : Nat) (key : Int64) : Ct 0 0 0 yX4_unmix cX4_unmix 5 (some .long) G A [.ref r, .long key] (I0) (some (.long (unmixI key))) (I0) := by
  refine Ct.of 2 rfl rfl (Nat.le_of_ble_eq_true rfl) ?_
  intro p l e s m below meth c hini
  refine k_lload_n (pc := 0) dX4_unmix_0 rfl ?_
  refine k_lload_n (pc := 1) dX4_unmix_1 rfl ?_
  refine k_bipush (v := 32) (pc := 2) dX4_unmix_2 (by decide) ?_
  refine k_lushr (pc := 4) dX4_unmix_4 ?_
  refine k_lxor (pc := 5) dX4_unmix_5 ?_
  refine k_ldc2 gw_334 (pc := 6) dX4_unmix_6 ?_
  refine k_lmul (pc := 9) dX4_unmix_9 ?_
  refine k_lstore_n (pc := 10) dX4_unmix_10 (by decide) rfl ?_
  refine k_lload_n (pc := 11) dX4_unmix_11 rfl ?_
  refine k_lload_n (pc := 12) dX4_unmix_12 rfl ?_
  refine k_bipush (v := 32) (pc := 13) dX4_unmix_13 (by decide) ?_
  refine k_lushr (pc := 15) dX4_unmix_15 ?_
  refine k_lxor (pc := 16) dX4_unmix_16 ?_
  refine k_ldc2 gw_334 (pc := 17) dX4_unmix_17 ?_
  refine k_lmul (pc := 20) dX4_unmix_20 ?_
  refine k_lstore_n (pc := 21) dX4_unmix_21 (by decide) rfl ?_
  refine k_lload_n (pc := 22) dX4_unmix_22 rfl ?_
  refine k_lload_n (pc := 23) dX4_unmix_23 rfl ?_
  refine k_bipush (v := 32) (pc := 24) dX4_unmix_24 (by decide) ?_
  refine k_lushr (pc := 26) dX4_unmix_26 ?_
  refine k_lxor (pc := 27) dX4_unmix_27 ?_
  exact k_lret (pc := 28) dX4_unmix_28 rfl (fun _ h => h) (Nat.le_refl _) (Nat.le_refl _)
set_option maxRecDepth 4000 in
theorem e_setOf (r : Nat) (key : Int64) : Ct 1 0 0 yX4_setOf cX4_setOf 3 (some .int) G A [.ref r, .long key] (I0) (some (.int (nI (setN key)))) (I0) := by
  refine Ct.of 0 rfl rfl (Nat.le_of_ble_eq_true rfl) ?_
  intro p l e s m below meth c hini
  refine k_lload_n (pc := 0) dX4_setOf_0 rfl ?_
  refine k_callS ss_X4_81 (e_mixOf key) (pc := 1) dX4_setOf_1 rfl rfl (Nat.le_of_ble_eq_true rfl) (by decide) (by decide) (Nat.le_refl _) (Nat.le_refl _) ?_
  refine k_callS ss_X4_87 (e_setOfMix (mixI key)) (pc := 4) dX4_setOf_4 rfl rfl (Nat.le_of_ble_eq_true rfl) (by decide) (by decide) (Nat.le_refl _) (Nat.le_refl _) ?_
  exact k_iret (pc := 7) dX4_setOf_7 rfl (fun _ h => h) (Nat.le_refl _) (Nat.le_refl _)
set_option maxRecDepth 4000 in
theorem e_where (hst : CSt ad ar ow cap kd) (key : Int64) (hc : CWF ad kd σ) : Ct 2 0 0 yX4_where cX4_where 3 (some .int) G A [.ref (ad 0), .long key] (CH G A ad ar ow cap kd it σ) (some (.int (whereC ad it σ key))) (CH G A ad ar ow cap kd it σ) := by
  refine Ct.of 0 rfl rfl (Nat.le_of_ble_eq_true rfl) ?_
  intro p l e s m below meth c hini
  unfold whereC
  refine k_aload_n (pc := 0) dX4_where_0 rfl ?_
  refine h_X4_31 hst (pc := 1) dX4_where_1 ?_
  cases hx : xC σ with
  | true =>
    rw [if_pos rfl]
    refine k_if_eq (tgt := 10) (pc := 4) dX4_where_4 (by decide) (fun c => absurd c ((show ¬ bI true = 0 by decide))) (fun _ => ?_)
    refine k_bipush (v := -2) (pc := 7) dX4_where_7 (by decide) ?_
    exact k_iret (pc := 9) dX4_where_9 rfl (fun _ h => h) (Nat.le_refl _) (Nat.le_refl _)
  | false =>
    rw [if_neg (by decide)]
    refine k_if_eq (tgt := 10) (pc := 4) dX4_where_4 (by decide) (fun _ => ?_) (fun c => absurd (show bI false = 0 by decide) c)
    refine k_aload_n (pc := 10) dX4_where_10 rfl ?_
    refine h_X4_27 hst (pc := 11) dX4_where_11 ?_
    refine k_lload_n (pc := 14) dX4_where_14 rfl ?_
    refine k_callC1 sv_X4_35 hst (l_find hst key hc) (pc := 15) dX4_where_15 rfl rfl (Nat.le_of_ble_eq_true rfl) (by decide) (by decide) (Nat.le_refl _) (Nat.le_refl _) ?_
    cases ho : findC it σ key with
    | some a =>
      refine k_ifnull (pc := 18) dX4_where_18 ?_
      refine k_iconst (v := 1) (pc := 21) dX4_where_21 (by decide) ?_
      exact k_iret (pc := 22) dX4_where_22 rfl (fun _ h => h) (Nat.le_refl _) (Nat.le_refl _)
    | none =>
      refine k_ifnullN (tgt := 23) (pc := 18) dX4_where_18 (by decide) ?_
      refine k_aload_n (pc := 23) dX4_where_23 rfl ?_
      refine h_X4_18 hst (pc := 24) dX4_where_24 ?_
      refine k_lload_n (pc := 27) dX4_where_27 rfl ?_
      refine k_callC3 sv_X4_91 hst (s_find hst key hc.1) (pc := 28) dX4_where_28 rfl rfl (Nat.le_of_ble_eq_true rfl) (by decide) (by decide) (Nat.le_refl _) (Nat.le_refl _) ?_
      cases hr : findP ad it σ key with
      | none =>
        refine k_ifnullN (tgt := 38) (pc := 31) dX4_where_31 (by decide) ?_
        refine k_iconst (v := 0) (pc := 38) dX4_where_38 (by decide) ?_
        exact k_iret (pc := 39) dX4_where_39 rfl (fun _ h => h) (Nat.le_refl _) (Nat.le_refl _)
      | some a =>
        refine k_ifnull (pc := 31) dX4_where_31 ?_
        refine k_iconst (v := 2) (pc := 34) dX4_where_34 (by decide) ?_
        refine k_goto (tgt := 39) (pc := 35) dX4_where_35 (by decide) ?_
        exact k_iret (pc := 39) dX4_where_39 rfl (fun _ h => h) (Nat.le_refl _) (Nat.le_refl _)
set_option maxRecDepth 4000 in
theorem e_mark (hst : CSt ad ar ow cap kd) (key : Int64) (hc : CWF ad kd σ) : Ct 2 0 0 yX4_mark cX4_mark 4 (some .int) G A [.ref (ad 0), .long key] (CH G A ad ar ow cap kd it σ) (some (.int (markC ad it σ key))) (CH G A ad ar ow cap kd it σ) := by
  refine Ct.of 1 rfl rfl (Nat.le_of_ble_eq_true rfl) ?_
  intro p l e s m below meth c hini
  unfold markC
  refine k_aload_n (pc := 0) dX4_mark_0 rfl ?_
  refine h_X4_31 hst (pc := 1) dX4_mark_1 ?_
  cases hx : xC σ with
  | true =>
    rw [if_pos rfl]
    refine k_if_eq (tgt := 10) (pc := 4) dX4_mark_4 (by decide) (fun c => absurd c ((show ¬ bI true = 0 by decide))) (fun _ => ?_)
    refine k_bipush (v := -2) (pc := 7) dX4_mark_7 (by decide) ?_
    exact k_iret (pc := 9) dX4_mark_9 rfl (fun _ h => h) (Nat.le_refl _) (Nat.le_refl _)
  | false =>
    rw [if_neg (by decide)]
    refine k_if_eq (tgt := 10) (pc := 4) dX4_mark_4 (by decide) (fun _ => ?_) (fun c => absurd (show bI false = 0 by decide) c)
    refine k_aload_n (pc := 10) dX4_mark_10 rfl ?_
    refine h_X4_27 hst (pc := 11) dX4_mark_11 ?_
    refine k_lload_n (pc := 14) dX4_mark_14 rfl ?_
    refine k_callC1 sv_X4_35 hst (l_find hst key hc) (pc := 15) dX4_mark_15 rfl rfl (Nat.le_of_ble_eq_true rfl) (by decide) (by decide) (Nat.le_refl _) (Nat.le_refl _) ?_
    cases ho : findC it σ key with
    | some a =>
      have ha := (findC_ok hc ho).1
      refine k_astore_n (pc := 18) dX4_mark_18 (by decide) rfl ?_
      refine k_aload_n (pc := 19) dX4_mark_19 rfl ?_
      refine k_ifnonnull (tgt := 32) (pc := 20) dX4_mark_20 (by decide) ?_
      refine k_aload_n (pc := 32) dX4_mark_32 rfl ?_
      refine k_ifnull (pc := 33) dX4_mark_33 ?_
      refine k_aload_n (pc := 36) dX4_mark_36 rfl ?_
      refine h_X4_55 ha (pc := 37) dX4_mark_37 ?_
      cases hm : xM σ a with
      | true =>
        refine k_if_eq (tgt := 47) (pc := 40) dX4_mark_40 (by decide) (fun c => absurd c ((show ¬ bI true = 0 by decide))) (fun _ => ?_)
        refine k_iconst (v := 1) (pc := 43) dX4_mark_43 (by decide) ?_
        refine k_goto (tgt := 48) (pc := 44) dX4_mark_44 (by decide) ?_
        exact k_iret (pc := 48) dX4_mark_48 (by simp [hm, bI]) (fun _ h => h) (Nat.le_refl _) (Nat.le_refl _)
      | false =>
        refine k_if_eq (tgt := 47) (pc := 40) dX4_mark_40 (by decide) (fun _ => ?_) (fun c => absurd ((show bI false = 0 by decide)) c)
        refine k_iconst (v := 0) (pc := 47) dX4_mark_47 (by decide) ?_
        exact k_iret (pc := 48) dX4_mark_48 (by simp [hm, bI]) (fun _ h => h) (Nat.le_refl _) (Nat.le_refl _)
    | none =>
      refine k_astore_nN (pc := 18) dX4_mark_18 (by decide) rfl ?_
      refine k_aload_nN (pc := 19) dX4_mark_19 rfl ?_
      refine k_ifnonnullN (pc := 20) dX4_mark_20 ?_
      refine k_aload_n (pc := 23) dX4_mark_23 rfl ?_
      refine h_X4_18 hst (pc := 24) dX4_mark_24 ?_
      refine k_lload_n (pc := 27) dX4_mark_27 rfl ?_
      refine k_callC3 sv_X4_91 hst (s_find hst key hc.1) (pc := 28) dX4_mark_28 rfl rfl (Nat.le_of_ble_eq_true rfl) (by decide) (by decide) (Nat.le_refl _) (Nat.le_refl _) ?_
      cases hr : findP ad it σ key with
      | none =>
        refine k_astore_nN (pc := 31) dX4_mark_31 (by decide) rfl ?_
        refine k_aload_nN (pc := 32) dX4_mark_32 rfl ?_
        refine k_ifnullN (tgt := 47) (pc := 33) dX4_mark_33 (by decide) ?_
        refine k_iconst (v := 0) (pc := 47) dX4_mark_47 (by decide) ?_
        exact k_iret (pc := 48) dX4_mark_48 rfl (fun _ h => h) (Nat.le_refl _) (Nat.le_refl _)
      | some a =>
        have ha := findP_ok hst hc hr
        refine k_astore_n (pc := 31) dX4_mark_31 (by decide) rfl ?_
        refine k_aload_n (pc := 32) dX4_mark_32 rfl ?_
        refine k_ifnull (pc := 33) dX4_mark_33 ?_
        refine k_aload_n (pc := 36) dX4_mark_36 rfl ?_
        refine h_X4_55 ha (pc := 37) dX4_mark_37 ?_
        cases hm : xM σ a with
        | true =>
          refine k_if_eq (tgt := 47) (pc := 40) dX4_mark_40 (by decide) (fun c => absurd c ((show ¬ bI true = 0 by decide))) (fun _ => ?_)
          refine k_iconst (v := 1) (pc := 43) dX4_mark_43 (by decide) ?_
          refine k_goto (tgt := 48) (pc := 44) dX4_mark_44 (by decide) ?_
          exact k_iret (pc := 48) dX4_mark_48 (by simp [markO, hm, bI]) (fun _ h => h) (Nat.le_refl _) (Nat.le_refl _)
        | false =>
          refine k_if_eq (tgt := 47) (pc := 40) dX4_mark_40 (by decide) (fun _ => ?_) (fun c => absurd ((show bI false = 0 by decide)) c)
          refine k_iconst (v := 0) (pc := 47) dX4_mark_47 (by decide) ?_
          exact k_iret (pc := 48) dX4_mark_48 (by simp [markO, hm, bI]) (fun _ h => h) (Nat.le_refl _) (Nat.le_refl _)
set_option maxRecDepth 4000 in
theorem e_isSet (x : Int32) : Ct 0 0 0 yX4_isSet cX4_isSet 1 (some .boolean) G A [.int x] (I0) (some (.int (bI (isSet x)))) (I0) := by
  refine Ct.of 0 rfl rfl (Nat.le_of_ble_eq_true rfl) ?_
  intro p l e s m below meth c hini
  refine k_iload_n (pc := 0) dX4_isSet_0 rfl ?_
  refine k_if_lt (tgt := 14) (pc := 1) dX4_isSet_1 (by decide) (fun h1 => ?_) (fun h1 => ?_)
  · refine k_iconst (v := 0) (pc := 14) dX4_isSet_14 (by decide) ?_
    exact k_zret (pc := 15) dX4_isSet_15 (by simp [isSet, h1, bI]) (bI_nar _) (fun _ h => h) (Nat.le_refl _) (Nat.le_refl _)
  · refine k_iload_n (pc := 4) dX4_isSet_4 rfl ?_
    refine k_bipush (v := 64) (pc := 5) dX4_isSet_5 (by decide) ?_
    refine k_icmp_ge (tgt := 14) (pc := 7) dX4_isSet_7 (by decide) (fun h2 => ?_) (fun h2 => ?_)
    · refine k_iconst (v := 0) (pc := 14) dX4_isSet_14 (by decide) ?_
      exact k_zret (pc := 15) dX4_isSet_15 (by simp [isSet, h2, bI]) (bI_nar _) (fun _ h => h) (Nat.le_refl _) (Nat.le_refl _)
    · refine k_iconst (v := 1) (pc := 10) dX4_isSet_10 (by decide) ?_
      refine k_goto (tgt := 15) (pc := 11) dX4_isSet_11 (by decide) ?_
      exact k_zret (pc := 15) dX4_isSet_15 (by simp [isSet, h1, h2, bI]) (bI_nar _) (fun _ h => h) (Nat.le_refl _) (Nat.le_refl _)
set_option maxRecDepth 4000 in
theorem e_stands (hst : CSt ad ar ow cap kd) (x : Int32) : Ct 1 0 0 yX4_stands cX4_stands 2 (some .int) G A [.ref (ad 0), .int x] (CH G A ad ar ow cap kd it σ) (some (.int (standsC ad σ x))) (CH G A ad ar ow cap kd it σ) := by
  refine Ct.of 0 rfl rfl (Nat.le_of_ble_eq_true rfl) ?_
  intro p l e s m below meth c hini
  unfold standsC
  refine k_aload_n (pc := 0) dX4_stands_0 rfl ?_
  refine h_X4_31 hst (pc := 1) dX4_stands_1 ?_
  cases hx : xC σ with
  | true =>
    rw [if_pos rfl]
    refine k_if_eq (tgt := 10) (pc := 4) dX4_stands_4 (by decide) (fun c => absurd c ((show ¬ bI true = 0 by decide))) (fun _ => ?_)
    refine k_bipush (v := -2) (pc := 7) dX4_stands_7 (by decide) ?_
    exact k_iret (pc := 9) dX4_stands_9 rfl (fun _ h => h) (Nat.le_refl _) (Nat.le_refl _)
  | false =>
    rw [if_neg (by decide)]
    refine k_if_eq (tgt := 10) (pc := 4) dX4_stands_4 (by decide) (fun _ => ?_) (fun c => absurd (show bI false = 0 by decide) c)
    refine k_iload_n (pc := 10) dX4_stands_10 rfl ?_
    refine k_callS ss_X4_92 (e_isSet x) (pc := 11) dX4_stands_11 rfl rfl (Nat.le_of_ble_eq_true rfl) (by decide) (by decide) (Nat.le_refl _) (Nat.le_refl _) ?_
    cases hi : isSet x with
    | true =>
      obtain ⟨e1, e2⟩ := isSet_ok hi
      rw [if_pos rfl]
      refine k_if_eq (tgt := 32) (pc := 14) dX4_stands_14 (by decide) (fun c => absurd c ((show ¬ bI true = 0 by decide))) (fun _ => ?_)
      refine k_aload_n (pc := 17) dX4_stands_17 rfl ?_
      refine h_X4_18 hst (pc := 18) dX4_stands_18 ?_
      refine h_X4_96 hst (pc := 21) dX4_stands_21 ?_
      refine k_iload_n (pc := 24) dX4_stands_24 rfl ?_
      refine pg_ld hst (pc := 25) dX4_stands_25 e1 e2 ?_
      refine h_X4_100 (pgs hst e2) (pc := 26) dX4_stands_26 ?_
      refine k_goto (tgt := 33) (pc := 29) dX4_stands_29 (by decide) ?_
      exact k_iret (pc := 33) dX4_stands_33 rfl (fun _ h => h) (Nat.le_refl _) (Nat.le_refl _)
    | false =>
      rw [if_neg (by decide)]
      refine k_if_eq (tgt := 32) (pc := 14) dX4_stands_14 (by decide) (fun _ => ?_) (fun c => absurd ((show bI false = 0 by decide)) c)
      refine k_iconst (v := -1) (pc := 32) dX4_stands_32 (by decide) ?_
      exact k_iret (pc := 33) dX4_stands_33 rfl (fun _ h => h) (Nat.le_refl _) (Nat.le_refl _)
set_option maxRecDepth 4000 in
theorem e_key (hst : CSt ad ar ow cap kd) (x i : Int32) (hc : CWF ad kd σ) : Ct 1 0 0 yX4_key cX4_key 4 (some .long) G A [.ref (ad 0), .int x, .int i] (CH G A ad ar ow cap kd it σ) (some (.long (keyC ad it σ x i))) (CH G A ad ar ow cap kd it σ) := by
  refine Ct.of 1 rfl rfl (Nat.le_of_ble_eq_true rfl) ?_
  intro p l e s m below meth c hini
  unfold keyC
  refine k_aload_n (pc := 0) dX4_key_0 rfl ?_
  refine h_X4_31 hst (pc := 1) dX4_key_1 ?_
  cases hx : xC σ with
  | true =>
    rw [if_pos rfl]
    refine k_if_ne (tgt := 14) (pc := 4) dX4_key_4 (by decide) (fun _ => ?_) (fun c => absurd c ((show ¬ bI true = 0 by decide)))
    refine k_lconst (v := 0) (pc := 14) dX4_key_14 (by decide) ?_
    exact k_lret (pc := 15) dX4_key_15 rfl (fun _ h => h) (Nat.le_refl _) (Nat.le_refl _)
  | false =>
    rw [if_neg (by decide)]
    refine k_if_ne (tgt := 14) (pc := 4) dX4_key_4 (by decide) (fun c => absurd (show bI false = 0 by decide) c) (fun _ => ?_)
    refine k_iload_n (pc := 7) dX4_key_7 rfl ?_
    refine k_callS ss_X4_92 (e_isSet x) (pc := 8) dX4_key_8 rfl rfl (Nat.le_of_ble_eq_true rfl) (by decide) (by decide) (Nat.le_refl _) (Nat.le_refl _) ?_
    cases hi : isSet x with
    | false =>
      rw [if_neg (by decide)]
      refine k_if_ne (tgt := 16) (pc := 11) dX4_key_11 (by decide) (fun c => absurd ((show bI false = 0 by decide)) c) (fun _ => ?_)
      refine k_lconst (v := 0) (pc := 14) dX4_key_14 (by decide) ?_
      exact k_lret (pc := 15) dX4_key_15 rfl (fun _ h => h) (Nat.le_refl _) (Nat.le_refl _)
    | true =>
      obtain ⟨e1, e2⟩ := isSet_ok hi
      rw [if_pos rfl]
      have hpk := pgs hst e2
      refine k_if_ne (tgt := 16) (pc := 11) dX4_key_11 (by decide) (fun _ => ?_) (fun c => absurd c ((show ¬ bI true = 0 by decide)))
      refine k_aload_n (pc := 16) dX4_key_16 rfl ?_
      refine h_X4_18 hst (pc := 17) dX4_key_17 ?_
      refine h_X4_96 hst (pc := 20) dX4_key_20 ?_
      refine k_iload_n (pc := 23) dX4_key_23 rfl ?_
      refine pg_ld hst (pc := 24) dX4_key_24 e1 e2 ?_
      refine k_iload_n (pc := 25) dX4_key_25 rfl ?_
      refine k_callC2 sv_X4_105 hpk (r_at hst hpk i) (pc := 26) dX4_key_26 rfl rfl (Nat.le_of_ble_eq_true rfl) (by decide) (by decide) (Nat.le_refl _) (Nat.le_refl _) ?_
      cases ho : atR (xR σ (ad (11 + x.toNatClampNeg))) i with
      | none =>
        refine k_astore_nN (pc := 29) dX4_key_29 (by decide) rfl ?_
        refine k_aload_nN (pc := 30) dX4_key_30 rfl ?_
        refine k_ifnullN (tgt := 41) (pc := 31) dX4_key_31 (by decide) ?_
        refine k_lconst (v := 0) (pc := 41) dX4_key_41 (by decide) ?_
        exact k_lret (pc := 42) dX4_key_42 rfl (fun _ h => h) (Nat.le_refl _) (Nat.le_refl _)
      | some a =>
        have ha : kd a = 1 := by
          unfold atR at ho
          split at ho
          · cases ho
          · cases hq : (xR σ (ad (11 + x.toNatClampNeg)))[i.toNatClampNeg]? with
            | none => rw [hq] at ho; cases ho
            | some o =>
              rw [hq] at ho
              have : o = some a := ho
              subst this
              exact hc.1.1 _ hpk a (List.mem_of_getElem? hq)
        refine k_astore_n (pc := 29) dX4_key_29 (by decide) rfl ?_
        refine k_aload_n (pc := 30) dX4_key_30 rfl ?_
        refine k_ifnull (pc := 31) dX4_key_31 ?_
        refine k_aload_n (pc := 34) dX4_key_34 rfl ?_
        refine h_X4_109 ha (pc := 35) dX4_key_35 ?_
        refine k_goto (tgt := 42) (pc := 38) dX4_key_38 (by decide) ?_
        exact k_lret (pc := 42) dX4_key_42 rfl (fun _ h => h) (Nat.le_refl _) (Nat.le_refl _)
set_option maxRecDepth 4000 in
theorem e_filter (hst : CSt ad ar ow cap kd) (x : Int32) : Ct 1 0 0 yX4_filter cX4_filter 2 (some .long) G A [.ref (ad 0), .int x] (CH G A ad ar ow cap kd it σ) (some (.long (filterC σ x))) (CH G A ad ar ow cap kd it σ) := by
  refine Ct.of 0 rfl rfl (Nat.le_of_ble_eq_true rfl) ?_
  intro p l e s m below meth c hini
  unfold filterC
  refine k_aload_n (pc := 0) dX4_filter_0 rfl ?_
  refine h_X4_31 hst (pc := 1) dX4_filter_1 ?_
  cases hx : xC σ with
  | true =>
    rw [if_pos rfl]
    refine k_if_ne (tgt := 14) (pc := 4) dX4_filter_4 (by decide) (fun _ => ?_) (fun c => absurd c ((show ¬ bI true = 0 by decide)))
    refine k_lconst (v := 0) (pc := 14) dX4_filter_14 (by decide) ?_
    refine k_goto (tgt := 27) (pc := 15) dX4_filter_15 (by decide) ?_
    exact k_lret (pc := 27) dX4_filter_27 rfl (fun _ h => h) (Nat.le_refl _) (Nat.le_refl _)
  | false =>
    rw [if_neg (by decide)]
    refine k_if_ne (tgt := 14) (pc := 4) dX4_filter_4 (by decide) (fun c => absurd (show bI false = 0 by decide) c) (fun _ => ?_)
    refine k_iload_n (pc := 7) dX4_filter_7 rfl ?_
    refine k_callS ss_X4_92 (e_isSet x) (pc := 8) dX4_filter_8 rfl rfl (Nat.le_of_ble_eq_true rfl) (by decide) (by decide) (Nat.le_refl _) (Nat.le_refl _) ?_
    cases hi : isSet x with
    | false =>
      rw [if_neg (by decide)]
      refine k_if_ne (tgt := 18) (pc := 11) dX4_filter_11 (by decide) (fun c => absurd ((show bI false = 0 by decide)) c) (fun _ => ?_)
      refine k_lconst (v := 0) (pc := 14) dX4_filter_14 (by decide) ?_
      refine k_goto (tgt := 27) (pc := 15) dX4_filter_15 (by decide) ?_
      exact k_lret (pc := 27) dX4_filter_27 rfl (fun _ h => h) (Nat.le_refl _) (Nat.le_refl _)
    | true =>
      obtain ⟨e1, e2⟩ := isSet_ok hi
      rw [if_pos rfl]
      refine k_if_ne (tgt := 18) (pc := 11) dX4_filter_11 (by decide) (fun _ => ?_) (fun c => absurd c ((show ¬ bI true = 0 by decide)))
      refine k_aload_n (pc := 18) dX4_filter_18 rfl ?_
      refine h_X4_18 hst (pc := 19) dX4_filter_19 ?_
      refine h_X4_113 hst (pc := 22) dX4_filter_22 ?_
      refine k_iload_n (pc := 25) dX4_filter_25 rfl ?_
      refine fl_ld hst (pc := 26) dX4_filter_26 e1 e2 ?_
      exact k_lret (pc := 27) dX4_filter_27 rfl (fun _ h => h) (Nat.le_refl _) (Nat.le_refl _)
set_option maxRecDepth 4000 in
theorem e_alive (hst : CSt ad ar ow cap kd) (x : Int32) (hc : CWF ad kd σ) : Ct 2 0 0 yX4_alive cX4_alive 2 (some .int) G A [.ref (ad 0), .int x] (CH G A ad ar ow cap kd it σ) (some (.int (aliveC σ x))) (CH G A ad ar ow cap kd it σ) := by
  refine Ct.of 0 rfl rfl (Nat.le_of_ble_eq_true rfl) ?_
  intro p l e s m below meth c hini
  unfold aliveC
  refine k_aload_n (pc := 0) dX4_alive_0 rfl ?_
  refine h_X4_31 hst (pc := 1) dX4_alive_1 ?_
  cases hx : xC σ with
  | true =>
    rw [if_pos rfl]
    refine k_if_eq (tgt := 10) (pc := 4) dX4_alive_4 (by decide) (fun c => absurd c ((show ¬ bI true = 0 by decide))) (fun _ => ?_)
    refine k_bipush (v := -2) (pc := 7) dX4_alive_7 (by decide) ?_
    exact k_iret (pc := 9) dX4_alive_9 rfl (fun _ h => h) (Nat.le_refl _) (Nat.le_refl _)
  | false =>
    rw [if_neg (by decide)]
    refine k_if_eq (tgt := 10) (pc := 4) dX4_alive_4 (by decide) (fun _ => ?_) (fun c => absurd (show bI false = 0 by decide) c)
    refine k_iload_n (pc := 10) dX4_alive_10 rfl ?_
    refine k_if_lt (tgt := 20) (pc := 11) dX4_alive_11 (by decide) (fun h1 => ?_) (fun h1 => ?_)
    · rw [if_pos (Or.inl h1)]
      refine k_iconst (v := -1) (pc := 20) dX4_alive_20 (by decide) ?_
      exact k_iret (pc := 21) dX4_alive_21 rfl (fun _ h => h) (Nat.le_refl _) (Nat.le_refl _)
    · refine k_iload_n (pc := 14) dX4_alive_14 rfl ?_
      refine k_bipush (v := 8) (pc := 15) dX4_alive_15 (by decide) ?_
      refine k_icmp_le (tgt := 22) (pc := 17) dX4_alive_17 (by decide) (fun h2 => ?_) (fun h2 => ?_)
      · have h3 : ¬ (x < 0 ∨ (8 : Int32) < x) := by
          rintro (z | z)
          · exact h1 z
          · exact absurd (Int32.lt_of_lt_of_le z h2) (by decide)
        rw [if_neg h3]
        refine k_iload_n (pc := 22) dX4_alive_22 rfl ?_
        refine k_bipush (v := 8) (pc := 23) dX4_alive_23 (by decide) ?_
        by_cases h8 : x = 8
        · rw [if_pos h8]
          have hO := hc.2.2.1
          refine k_icmp_ne (tgt := 41) (pc := 25) dX4_alive_25 (by decide) (fun c => absurd (h8) c) (fun _ => ?_)
          refine k_aload_n (pc := 28) dX4_alive_28 rfl ?_
          refine h_X4_27 hst (pc := 29) dX4_alive_29 ?_
          refine h_X4_117 hst (pc := 32) dX4_alive_32 ?_
          refine k_callC2 sv_X4_121 hO (r_countInLog hst hO (hc.1.1 _ hO)) (pc := 35) dX4_alive_35 rfl rfl (Nat.le_of_ble_eq_true rfl) (by decide) (by decide) (Nat.le_refl _) (Nat.le_refl _) ?_
          refine k_goto (tgt := 49) (pc := 38) dX4_alive_38 (by decide) ?_
          exact k_iret (pc := 49) dX4_alive_49 rfl (fun _ h => h) (Nat.le_refl _) (Nat.le_refl _)
        · rw [if_neg h8]
          obtain ⟨j, hj, e3⟩ := nI_of h1
          have hj8 : j < 8 := by
            have h5 : j ≤ 8 := (nI_leI (b := 8) hj (by decide)).mp (e3 ▸ h2)
            rcases Nat.lt_or_ge j 8 with q | q
            · exact q
            · exact absurd (by rw [e3, show j = 8 from by omega]; rfl) h8
          subst e3
          rw [nI_clamp hj]
          refine k_icmp_ne (tgt := 41) (pc := 25) dX4_alive_25 (by decide) (fun _ => ?_) (fun c => absurd c (h8))
          refine k_aload_n (pc := 41) dX4_alive_41 rfl ?_
          refine h_X4_27 hst (pc := 42) dX4_alive_42 ?_
          refine k_iload_n (pc := 45) dX4_alive_45 rfl ?_
          refine k_callC1 sv_X4_125 hst (l_countSeg hst hc j hj8) (pc := 46) dX4_alive_46 rfl rfl (Nat.le_of_ble_eq_true rfl) (by decide) (by decide) (Nat.le_refl _) (Nat.le_refl _) ?_
          exact k_iret (pc := 49) dX4_alive_49 rfl (fun _ h => h) (Nat.le_refl _) (Nat.le_refl _)
      · rw [if_pos (Or.inr (Int32.not_le.mp h2))]
        refine k_iconst (v := -1) (pc := 20) dX4_alive_20 (by decide) ?_
        exact k_iret (pc := 21) dX4_alive_21 rfl (fun _ h => h) (Nat.le_refl _) (Nat.le_refl _)
set_option maxRecDepth 4000 in
theorem e_count (hst : CSt ad ar ow cap kd) (x : Int32) (hc : CWF ad kd σ) : Ct 1 0 0 yX4_count cX4_count 2 (some .int) G A [.ref (ad 0), .int x] (CH G A ad ar ow cap kd it σ) (some (.int (countC it σ x))) (CH G A ad ar ow cap kd it σ) := by
  refine Ct.of 0 rfl rfl (Nat.le_of_ble_eq_true rfl) ?_
  intro p l e s m below meth c hini
  have hO := hc.2.2.1
  by_cases hin : ¬ x < 0 ∧ ¬ (12 : Int32) ≤ x
  · obtain ⟨j, hj, e3⟩ := nI_of hin.1
    have hj12 : j < 12 := by
      rcases Nat.lt_or_ge j 12 with q | q
      · exact q
      · exact absurd (e3 ▸ nI_le (a := 12) q hj) hin.2
    have hc : countC it σ x = xT σ j := by unfold countC; rw [if_pos hin, e3, nI_clamp hj]
    rw [hc]
    refine k_iload_n (pc := 0) dX4_count_0 rfl ?_
    refine k_if_lt (tgt := 17) (pc := 1) dX4_count_1 (by decide) (fun c => absurd c (hin.1)) (fun _ => ?_)
    refine k_iload_n (pc := 4) dX4_count_4 rfl ?_
    refine k_bipush (v := 12) (pc := 5) dX4_count_5 (by decide) ?_
    refine k_icmp_ge (tgt := 17) (pc := 7) dX4_count_7 (by decide) (fun c => absurd c (hin.2)) (fun _ => ?_)
    refine k_aload_n (pc := 10) dX4_count_10 rfl ?_
    refine h_X4_9 hst (pc := 11) dX4_count_11 ?_
    refine k_iload_n (pc := 14) dX4_count_14 rfl ?_
    refine ta_ld hst (pc := 15) dX4_count_15 e3 hj12 ?_
    exact k_iret (pc := 16) dX4_count_16 rfl (fun _ h => h) (Nat.le_refl _) (Nat.le_refl _)
  · have sw : K p l e s m ([.ref (ad 0), .int x] : List Value).toArray below meth c (rmm 1 0 0) yX4_count.cls cX4_count 2 (some .int) G A (MQ below (Qd (some (.int (countC it σ x))) (CH G A ad ar ow cap kd it σ) A) ([.ref (ad 0), .int x] : List Value).toArray s 0 0 A) 0 0 (CH G A ad ar ow cap kd it σ) 17 [some (.ref (ad 0)), some (.int x)] [] := by
      unfold countC
      rw [if_neg hin]
      by_cases h12 : x = 12
      · subst h12
        rw [if_pos rfl]
        refine k_iload_n (pc := 17) dX4_count_17 rfl ?_
        refine k_tableIn (tgt := 56) (pc := 18) dX4_count_18 (by decide) (by decide) rfl (by decide) ?_
        refine k_aload_n (pc := 56) dX4_count_56 rfl ?_
        refine h_X4_27 hst (pc := 57) dX4_count_57 ?_
        refine h_X4_129 hst (pc := 60) dX4_count_60 ?_
        exact k_iret (pc := 63) dX4_count_63 rfl (fun _ h => h) (Nat.le_refl _) (Nat.le_refl _)
      rw [if_neg h12]
      by_cases h13 : x = 13
      · subst h13
        rw [if_pos rfl]
        refine k_iload_n (pc := 17) dX4_count_17 rfl ?_
        refine k_tableIn (tgt := 64) (pc := 18) dX4_count_18 (by decide) (by decide) rfl (by decide) ?_
        refine k_aload_n (pc := 64) dX4_count_64 rfl ?_
        refine h_X4_18 hst (pc := 65) dX4_count_65 ?_
        refine h_X4_132 hst (pc := 68) dX4_count_68 ?_
        exact k_iret (pc := 71) dX4_count_71 rfl (fun _ h => h) (Nat.le_refl _) (Nat.le_refl _)
      rw [if_neg h13]
      by_cases h14 : x = 14
      · subst h14
        rw [if_pos rfl]
        refine k_iload_n (pc := 17) dX4_count_17 rfl ?_
        refine k_tableIn (tgt := 72) (pc := 18) dX4_count_18 (by decide) (by decide) rfl (by decide) ?_
        refine k_aload_n (pc := 72) dX4_count_72 rfl ?_
        refine h_X4_27 hst (pc := 73) dX4_count_73 ?_
        refine h_X4_117 hst (pc := 76) dX4_count_76 ?_
        refine k_callC2 sv_X4_135 hO (r_places hst hO (hc.1.1 _ hO)) (pc := 79) dX4_count_79 rfl rfl (Nat.le_of_ble_eq_true rfl) (by decide) (by decide) (Nat.le_refl _) (Nat.le_refl _) ?_
        exact k_iret (pc := 82) dX4_count_82 rfl (fun _ h => h) (Nat.le_refl _) (Nat.le_refl _)
      rw [if_neg h14]
      by_cases h15 : x = 15
      · subst h15
        rw [if_pos rfl]
        refine k_iload_n (pc := 17) dX4_count_17 rfl ?_
        refine k_tableIn (tgt := 83) (pc := 18) dX4_count_18 (by decide) (by decide) rfl (by decide) ?_
        refine k_aload_n (pc := 83) dX4_count_83 rfl ?_
        refine h_X4_27 hst (pc := 84) dX4_count_84 ?_
        refine h_X4_138 hst (pc := 87) dX4_count_87 ?_
        exact k_iret (pc := 90) dX4_count_90 rfl (fun _ h => h) (Nat.le_refl _) (Nat.le_refl _)
      rw [if_neg h15]
      by_cases h16 : x = 16
      · subst h16
        rw [if_pos rfl]
        refine k_iload_n (pc := 17) dX4_count_17 rfl ?_
        refine k_tableIn (tgt := 91) (pc := 18) dX4_count_18 (by decide) (by decide) rfl (by decide) ?_
        refine k_aload_n (pc := 91) dX4_count_91 rfl ?_
        refine h_X4_27 hst (pc := 92) dX4_count_92 ?_
        refine h_X4_141 hst (pc := 95) dX4_count_95 ?_
        refine k_aload_n (pc := 98) dX4_count_98 rfl ?_
        refine h_X4_27 hst (pc := 99) dX4_count_99 ?_
        refine h_X4_138 hst (pc := 102) dX4_count_102 ?_
        refine wr_ld hst (pc := 105) dX4_count_105 rfl hc.2.2.2.1 ?_
        exact k_iret (pc := 106) dX4_count_106 rfl (fun _ h => h) (Nat.le_refl _) (Nat.le_refl _)
      rw [if_neg h16]
      by_cases h17 : x = 17
      · subst h17
        rw [if_pos rfl]
        refine k_iload_n (pc := 17) dX4_count_17 rfl ?_
        refine k_tableIn (tgt := 107) (pc := 18) dX4_count_18 (by decide) (by decide) rfl (by decide) ?_
        refine k_aload_n (pc := 107) dX4_count_107 rfl ?_
        refine h_X4_31 hst (pc := 108) dX4_count_108 ?_
        cases hx : xC σ with
        | true =>
          refine k_if_eq (tgt := 118) (pc := 111) dX4_count_111 (by decide) (fun c => absurd c ((show ¬ bI true = 0 by decide))) (fun _ => ?_)
          refine k_iconst (v := 1) (pc := 114) dX4_count_114 (by decide) ?_
          refine k_goto (tgt := 119) (pc := 115) dX4_count_115 (by decide) ?_
          exact k_iret (pc := 119) dX4_count_119 rfl (fun _ h => h) (Nat.le_refl _) (Nat.le_refl _)
        | false =>
          refine k_if_eq (tgt := 118) (pc := 111) dX4_count_111 (by decide) (fun _ => ?_) (fun c => absurd ((show bI false = 0 by decide)) c)
          refine k_iconst (v := 0) (pc := 118) dX4_count_118 (by decide) ?_
          exact k_iret (pc := 119) dX4_count_119 rfl (fun _ h => h) (Nat.le_refl _) (Nat.le_refl _)
      rw [if_neg h17]
      refine k_iload_n (pc := 17) dX4_count_17 rfl ?_
      refine k_tableOut (tgt := 120) (pc := 18) dX4_count_18 (i_cases hin h12 h13 h14 h15 h16 h17) (by decide) ?_
      refine k_iconst (v := -1) (pc := 120) dX4_count_120 (by decide) ?_
      exact k_iret (pc := 121) dX4_count_121 rfl (fun _ h => h) (Nat.le_refl _) (Nat.le_refl _)
    refine k_iload_n (pc := 0) dX4_count_0 rfl ?_
    refine k_if_lt (tgt := 17) (pc := 1) dX4_count_1 (by decide) (fun h1 => ?_) (fun h1 => ?_)
    · exact sw
    · refine k_iload_n (pc := 4) dX4_count_4 rfl ?_
      refine k_bipush (v := 12) (pc := 5) dX4_count_5 (by decide) ?_
      refine k_icmp_ge (tgt := 17) (pc := 7) dX4_count_7 (by decide) (fun h2 => ?_) (fun h2 => ?_)
      · exact sw
      · exact absurd ⟨h1, h2⟩ hin
set_option maxRecDepth 4000 in
theorem e_close (hst : CSt ad ar ow cap kd)  : Ct 0 0 0 yX4_close cX4_close 1 (some .int) G A [.ref (ad 0)] (CH G A ad ar ow cap kd it σ) (some (.int (closeC σ).1)) (CH G A ad ar ow cap kd it (closeC σ).2) := by
  refine Ct.of 0 rfl rfl (Nat.le_of_ble_eq_true rfl) ?_
  intro p l e s m below meth c hini
  unfold closeC
  refine k_aload_n (pc := 0) dX4_close_0 rfl ?_
  refine h_X4_31 hst (pc := 1) dX4_close_1 ?_
  cases hx : xC σ with
  | true =>
    rw [if_pos rfl]
    refine k_if_eq (tgt := 10) (pc := 4) dX4_close_4 (by decide) (fun c => absurd c ((show ¬ bI true = 0 by decide))) (fun _ => ?_)
    refine k_bipush (v := -2) (pc := 7) dX4_close_7 (by decide) ?_
    exact k_iret (pc := 9) dX4_close_9 rfl (fun _ h => h) (Nat.le_refl _) (Nat.le_refl _)
  | false =>
    rw [if_neg (by decide)]
    refine k_if_eq (tgt := 10) (pc := 4) dX4_close_4 (by decide) (fun _ => ?_) (fun c => absurd ((show bI false = 0 by decide)) c)
    refine k_aload_n (pc := 10) dX4_close_10 rfl ?_
    refine k_iconst (v := 1) (pc := 11) dX4_close_11 (by decide) ?_
    refine hp_X4_31 hst (show _ = Value.int (bI true) from rfl) (pc := 12) dX4_close_12 ?_
    refine k_iconst (v := 1) (pc := 15) dX4_close_15 (by decide) ?_
    exact k_iret (pc := 16) dX4_close_16 rfl (fun _ h => h) (Nat.le_refl _) (Nat.le_refl _)
set_option maxRecDepth 4000 in
theorem e_open (hst : CSt ad ar ow cap kd)  : Ct 0 0 0 yX4_open cX4_open 1 (some .int) G A [.ref (ad 0)] (CH G A ad ar ow cap kd it σ) (some (.int (openC σ).1)) (CH G A ad ar ow cap kd it (openC σ).2) := by
  refine Ct.of 0 rfl rfl (Nat.le_of_ble_eq_true rfl) ?_
  intro p l e s m below meth c hini
  unfold openC
  refine k_aload_n (pc := 0) dX4_open_0 rfl ?_
  refine h_X4_31 hst (pc := 1) dX4_open_1 ?_
  cases hx : xC σ with
  | true =>
    rw [if_pos rfl]
    refine k_if_ne (tgt := 9) (pc := 4) dX4_open_4 (by decide) (fun _ => ?_) (fun c => absurd c ((show ¬ bI true = 0 by decide)))
    refine k_aload_n (pc := 9) dX4_open_9 rfl ?_
    refine k_iconst (v := 0) (pc := 10) dX4_open_10 (by decide) ?_
    refine hp_X4_31 hst (show _ = Value.int (bI false) from rfl) (pc := 11) dX4_open_11 ?_
    refine k_aload_n (pc := 14) dX4_open_14 rfl ?_
    refine h_X4_27 hst (pc := 15) dX4_open_15 ?_
    refine h_X4_129 hst (pc := 18) dX4_open_18 ?_
    exact k_iret (pc := 21) dX4_open_21 rfl (fun _ h => h) (Nat.le_refl _) (Nat.le_refl _)
  | false =>
    rw [if_neg (by decide)]
    refine k_if_ne (tgt := 9) (pc := 4) dX4_open_4 (by decide) (fun c => absurd ((show bI false = 0 by decide)) c) (fun _ => ?_)
    refine k_iconst (v := -1) (pc := 7) dX4_open_7 (by decide) ?_
    exact k_iret (pc := 8) dX4_open_8 rfl (fun _ h => h) (Nat.le_refl _) (Nat.le_refl _)
set_option maxRecDepth 4000 in
theorem e_crash (hst : CSt ad ar ow cap kd) (hc : CWF ad kd σ) : Ct 2 0 0 yX4_crash cX4_crash 2 (some .int) G A [.ref (ad 0)] (CH G A ad ar ow cap kd it σ) (some (.int (xV σ))) (CH G A ad ar ow cap kd it (crashC ad σ)) := by
  refine Ct.of 1 rfl rfl (Nat.le_of_ble_eq_true rfl) ?_
  intro p l e s m below meth c hini
  refine k_aload_n (pc := 0) dX4_crash_0 rfl ?_
  refine h_X4_27 hst (pc := 1) dX4_crash_1 ?_
  refine h_X4_129 hst (pc := 4) dX4_crash_4 ?_
  refine k_istore_n (pc := 7) dX4_crash_7 (by decide) rfl ?_
  refine k_aload_n (pc := 8) dX4_crash_8 rfl ?_
  refine h_X4_27 hst (pc := 9) dX4_crash_9 ?_
  refine k_callC1 sv_X4_144 hst (l_wipe hst hc) (pc := 12) dX4_crash_12 rfl rfl (Nat.le_of_ble_eq_true rfl) (by decide) (by decide) (Nat.le_refl _) (Nat.le_refl _) ?_
  refine k_aload_n (pc := 15) dX4_crash_15 rfl ?_
  refine h_X4_18 hst (pc := 16) dX4_crash_16 ?_
  refine k_callC3 sv_X4_147 hst (s_wipe hst) (pc := 19) dX4_crash_19 rfl rfl (Nat.le_of_ble_eq_true rfl) (by decide) (by decide) (Nat.le_refl _) (Nat.le_refl _) ?_
  refine k_aload_n (pc := 22) dX4_crash_22 rfl ?_
  refine k_iconst (v := 1) (pc := 23) dX4_crash_23 (by decide) ?_
  refine hp_X4_31 hst (show _ = Value.int (bI true) from rfl) (pc := 24) dX4_crash_24 ?_
  refine k_iload_n (pc := 27) dX4_crash_27 rfl ?_
  exact k_iret (pc := 28) dX4_crash_28 rfl (fun _ h => h) (Nat.le_refl _) (Nat.le_refl _)
set_option maxRecDepth 4000 in
theorem e_check (hst : CSt ad ar ow cap kd) (hc : CWF ad kd σ) (hck : xC σ = false → CkC ad cap it σ) : Ct 4 0 0 yX4_check cX4_check 2 (some .int) G A [.ref (ad 0)] (CH G A ad ar ow cap kd it σ) (some (.int (if xC σ = true then -2 else 0))) (CH G A ad ar ow cap kd it (if xC σ = true then σ else gatherC ad cap it σ 63 0)) := by
  refine Ct.of 1 rfl rfl (Nat.le_of_ble_eq_true rfl) ?_
  intro p l e s m below meth c hini
  refine k_aload_n (pc := 0) dX4_check_0 rfl ?_
  refine h_X4_31 hst (pc := 1) dX4_check_1 ?_
  cases hx : xC σ with
  | true =>
    refine k_if_eq (tgt := 10) (pc := 4) dX4_check_4 (by decide) (fun c => absurd c ((show ¬ bI true = 0 by decide))) (fun _ => ?_)
    refine k_bipush (v := -2) (pc := 7) dX4_check_7 (by decide) ?_
    exact k_iret (pc := 9) dX4_check_9 rfl (fun _ h => h) (Nat.le_refl _) (Nat.le_refl _)
  | false =>
    obtain ⟨k1, k2, k3, k4, k5, k6, k7, k8⟩ := hck hx
    rw [if_neg (by decide), if_neg (by decide)]
    have hcg : CWF ad kd (gatherC ad cap it σ 63 0) := hc.gather hst _ _
    have hG : ∀ j, j < 32 → xR (gatherC ad cap it σ 63 0) (xG σ j) = xR σ (xG σ j) := fun j hj => zRr_ne (hc.2.2.2.2.2.1 j hj 9 (by decide) (by decide))
    have hO : xR (gatherC ad cap it σ 63 0) (xO σ) = xR σ (xO σ) := zRr_ne (hc.2.2.2.2.2.2.1 9 (by decide) (by decide))
    have hP : ∀ s, s < 64 → xR (gatherC ad cap it σ 63 0) (ad (11 + s)) = xR σ (ad (11 + s)) := fun s hs => zRr_ne (pgne hst hs (by decide) (by decide))
    have hcn : ∀ n, n ≤ 32 → cnS (gatherC ad cap it σ 63 0) 0 n = cnS σ 0 n := by
      intro n
      induction n with
      | zero => intro _; rfl
      | succ n ih =>
        intro hn
        show cnS (gatherC ad cap it σ 63 0) 0 n + ((xR (gatherC ad cap it σ 63 0) (xG σ (0 + n))).filter (inL (xI σ))).length = _
        rw [ih (by omega), hG (0 + n) (by omega)]
        rfl
    have hsm : ∀ n, n ≤ 64 → sumR ad (xR (gatherC ad cap it σ 63 0)) n = sumR ad (xR σ) n := by
      intro n
      induction n with
      | zero => intro _; rfl
      | succ n ih =>
        intro hn
        show sumR ad (xR (gatherC ad cap it σ 63 0)) n + (xR (gatherC ad cap it σ 63 0) (ad (11 + n))).length = _
        rw [ih (by omega), hP n (by omega)]
        rfl
    have g2 : ∀ j, j < 32 → plR it (xR (gatherC ad cap it σ 63 0) (xG (gatherC ad cap it σ 63 0) j)) ≤ 32 := fun j hj => by rw [show xG (gatherC ad cap it σ 63 0) = xG σ from rfl, hG j hj]; exact k2 j hj
    have g3 : plR it (xR (gatherC ad cap it σ 63 0) (xO (gatherC ad cap it σ 63 0))) ≤ 32 := by rw [show xO (gatherC ad cap it σ 63 0) = xO σ from rfl, hO]; exact k3
    have g4 : ∀ s, s < 64 → plR it (xR (gatherC ad cap it σ 63 0) (ad (11 + s))) ≤ 32 := fun s hs => by rw [hP s hs]; exact k4 s hs
    have g5 : ∀ s, s < 64 → ∀ i o, (xR (gatherC ad cap it σ 63 0) (ad (11 + s)))[i]? = some o → ∃ a, o = some a ∧ setN (it a).1 = s ∧ (xR (gatherC ad cap it σ 63 0) (ad (11 + s))).findIdx? (keyIs it (it a).1) = some i := fun s hs => by rw [hP s hs]; exact k5 s hs
    have g6 : ∀ s, s < 64 → xF (gatherC ad cap it σ 63 0) s = flR it (xR (gatherC ad cap it σ 63 0) (ad (11 + s))) := fun s hs => by rw [hP s hs]; exact k6 s hs
    have g7 : xV (gatherC ad cap it σ 63 0) = nI (((xR (gatherC ad cap it σ 63 0) (xO (gatherC ad cap it σ 63 0))).filter (inL (xI (gatherC ad cap it σ 63 0)))).length + cnS (gatherC ad cap it σ 63 0) 0 32) := by rw [hcn 32 (Nat.le_refl _), show xO (gatherC ad cap it σ 63 0) = xO σ from rfl, hO]; exact k7
    have g8 : xS (gatherC ad cap it σ 63 0) = nI (sumR ad (xR (gatherC ad cap it σ 63 0)) 64) := by rw [hsm 64 (Nat.le_refl _)]; exact k8
    refine k_if_eq (tgt := 10) (pc := 4) dX4_check_4 (by decide) (fun _ => ?_) (fun c => absurd ((show bI false = 0 by decide)) c)
    refine k_aload_n (pc := 10) dX4_check_10 rfl ?_
    refine h_X4_27 hst (pc := 11) dX4_check_11 ?_
    refine k_callC1 sv_X4_148 hst (l_keysDiffer hst hc k1) (pc := 14) dX4_check_14 rfl rfl (Nat.le_of_ble_eq_true rfl) (by decide) (by decide) (Nat.le_refl _) (Nat.le_refl _) ?_
    refine k_if_eq (tgt := 24) (pc := 17) dX4_check_17 (by decide) (fun c => absurd c ((show ¬ (1 : Int32) = 0 by decide))) (fun _ => ?_)
    refine k_iconst (v := 0) (pc := 20) dX4_check_20 (by decide) ?_
    refine k_goto (tgt := 25) (pc := 21) dX4_check_21 (by decide) ?_
    refine k_istore_n (pc := 25) dX4_check_25 (by decide) rfl ?_
    refine k_iload_n (pc := 26) dX4_check_26 rfl ?_
    refine k_aload_n (pc := 27) dX4_check_27 rfl ?_
    refine h_X4_27 hst (pc := 28) dX4_check_28 ?_
    refine k_callC1 sv_X4_152 hst (l_pagesFit hst hcg g2 g3) (pc := 31) dX4_check_31 rfl rfl (Nat.le_of_ble_eq_true rfl) (by decide) (by decide) (Nat.le_refl _) (Nat.le_refl _) ?_
    refine k_if_eq (tgt := 51) (pc := 34) dX4_check_34 (by decide) (fun c => absurd c ((show ¬ (1 : Int32) = 0 by decide))) (fun _ => ?_)
    refine k_aload_n (pc := 37) dX4_check_37 rfl ?_
    refine h_X4_18 hst (pc := 38) dX4_check_38 ?_
    refine k_callC3 sv_X4_155 hst (s_pagesFit hst hcg.1 g4) (pc := 41) dX4_check_41 rfl rfl (Nat.le_of_ble_eq_true rfl) (by decide) (by decide) (Nat.le_refl _) (Nat.le_refl _) ?_
    refine k_if_eq (tgt := 51) (pc := 44) dX4_check_44 (by decide) (fun c => absurd c ((show ¬ (1 : Int32) = 0 by decide))) (fun _ => ?_)
    refine k_iconst (v := 0) (pc := 47) dX4_check_47 (by decide) ?_
    refine k_goto (tgt := 52) (pc := 48) dX4_check_48 (by decide) ?_
    refine k_iadd (pc := 52) dX4_check_52 ?_
    refine k_istore_n (pc := 53) dX4_check_53 (by decide) rfl ?_
    refine k_iload_n (pc := 54) dX4_check_54 rfl ?_
    refine k_aload_n (pc := 55) dX4_check_55 rfl ?_
    refine h_X4_18 hst (pc := 56) dX4_check_56 ?_
    refine k_callC3 sv_X4_156 hst (s_keysBelong hst hcg.1 g5) (pc := 59) dX4_check_59 rfl rfl (Nat.le_of_ble_eq_true rfl) (by decide) (by decide) (Nat.le_refl _) (Nat.le_refl _) ?_
    refine k_if_eq (tgt := 69) (pc := 62) dX4_check_62 (by decide) (fun c => absurd c ((show ¬ (1 : Int32) = 0 by decide))) (fun _ => ?_)
    refine k_iconst (v := 0) (pc := 65) dX4_check_65 (by decide) ?_
    refine k_goto (tgt := 70) (pc := 66) dX4_check_66 (by decide) ?_
    refine k_iadd (pc := 70) dX4_check_70 ?_
    refine k_istore_n (pc := 71) dX4_check_71 (by decide) rfl ?_
    refine k_iload_n (pc := 72) dX4_check_72 rfl ?_
    refine k_aload_n (pc := 73) dX4_check_73 rfl ?_
    refine h_X4_18 hst (pc := 74) dX4_check_74 ?_
    refine k_callC3 sv_X4_159 hst (s_filtersRight hst hcg.1 g6) (pc := 77) dX4_check_77 rfl rfl (Nat.le_of_ble_eq_true rfl) (by decide) (by decide) (Nat.le_refl _) (Nat.le_refl _) ?_
    refine k_if_eq (tgt := 87) (pc := 80) dX4_check_80 (by decide) (fun c => absurd c ((show ¬ (1 : Int32) = 0 by decide))) (fun _ => ?_)
    refine k_iconst (v := 0) (pc := 83) dX4_check_83 (by decide) ?_
    refine k_goto (tgt := 88) (pc := 84) dX4_check_84 (by decide) ?_
    refine k_iadd (pc := 88) dX4_check_88 ?_
    refine k_istore_n (pc := 89) dX4_check_89 (by decide) rfl ?_
    refine k_iload_n (pc := 90) dX4_check_90 rfl ?_
    refine k_aload_n (pc := 91) dX4_check_91 rfl ?_
    refine h_X4_27 hst (pc := 92) dX4_check_92 ?_
    refine k_callC1 sv_X4_162 hst (l_countRight hst hcg g7) (pc := 95) dX4_check_95 rfl rfl (Nat.le_of_ble_eq_true rfl) (by decide) (by decide) (Nat.le_refl _) (Nat.le_refl _) ?_
    refine k_if_eq (tgt := 115) (pc := 98) dX4_check_98 (by decide) (fun c => absurd c ((show ¬ (1 : Int32) = 0 by decide))) (fun _ => ?_)
    refine k_aload_n (pc := 101) dX4_check_101 rfl ?_
    refine h_X4_18 hst (pc := 102) dX4_check_102 ?_
    refine k_callC3 sv_X4_165 hst (s_countRight hst g8) (pc := 105) dX4_check_105 rfl rfl (Nat.le_of_ble_eq_true rfl) (by decide) (by decide) (Nat.le_refl _) (Nat.le_refl _) ?_
    refine k_if_eq (tgt := 115) (pc := 108) dX4_check_108 (by decide) (fun c => absurd c ((show ¬ (1 : Int32) = 0 by decide))) (fun _ => ?_)
    refine k_iconst (v := 0) (pc := 111) dX4_check_111 (by decide) ?_
    refine k_goto (tgt := 116) (pc := 112) dX4_check_112 (by decide) ?_
    refine k_iadd (pc := 116) dX4_check_116 ?_
    refine k_istore_n (pc := 117) dX4_check_117 (by decide) rfl ?_
    refine k_iload_n (pc := 118) dX4_check_118 rfl ?_
    exact k_iret (pc := 119) dX4_check_119 rfl (fun _ h => h) (Nat.le_refl _) (Nat.le_refl _)
end EMB
