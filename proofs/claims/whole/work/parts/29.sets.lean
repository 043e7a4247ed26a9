def oN (i : Int) : Int32 := Int32.ofInt i
theorem oN_nat (k : Nat) : nI k = oN k := Int32.ofInt_eq_ofNat.symm
theorem oN_sub (a b : Int) : oN a - oN b = oN (a - b) := (Int32.ofInt_sub a b).symm
theorem oN_le {a : Int} (h1 : -1000000 < a) (h2 : a < 1000000) : oN a ≤ 0 ↔ a ≤ 0 := by
  rw [Int32.le_iff_toInt_le]
  unfold oN
  rw [Int32.toInt_ofInt_of_le (by omega) (by omega)]
  exact Iff.rfl
theorem at_find {L : List (Option Nat)} (q : Option Nat → Bool) (hl : L.length ≤ 1000) : atR L (oI (L.findIdx? q)) = (L.find? q).getD none := by
  cases h : L.findIdx? q with
  | none =>
    have h2 : L.find? q = none := by
      rw [List.find?_eq_none]
      rw [List.findIdx?_eq_none_iff] at h
      intro x hx
      simpa using h x hx
    rw [h2]
    unfold atR
    rw [if_pos (show oI none < 0 by decide)]
    rfl
  | some i =>
    obtain ⟨h1, h2, h3⟩ := List.findIdx?_eq_some_iff_getElem.mp h
    have h4 : L.find? q = some L[i] := by
      rw [List.find?_eq_some_iff_getElem]
      exact ⟨h2, i, h1, rfl, fun j hj => by simpa using h3 j hj⟩
    rw [h4]
    unfold atR
    rw [if_neg (show ¬ oI (some i) < 0 from nI_pos (by omega)), show (oI (some i)).toNatClampNeg = i from nI_clamp (by omega), List.getElem?_eq_getElem h1]
    first | done | rfl
def findP (ad : Nat → Nat) (it : Nat → Da) (σ : CS) (key : Int64) : Option Nat := ((xR σ (ad (11 + setN key))).find? (keyIs it key)).getD none
def mayC (σ : CS) (key : Int64) : Bool := xF σ (setN key) &&& bitI key == bitI key
def readC (ad : Nat → Nat) (it : Nat → Da) (σ : CS) (key : Int64) : CS × Option Nat := if mayC σ key = true then (zT σ (inc (xT σ) 11), findP ad it σ key) else (σ, none)
def takeC1 (ad : Nat → Nat) (it : Nat → Da) (σ : CS) (key : Int64) (wf i : Nat) : CS :=
  zT (zF (zS (zRr σ (ad (11 + setN key)) ((xR σ (ad (11 + setN key))).eraseIdx i)) (xS σ - 1)) (va_up (xF σ) (setN key) (flR it ((xR σ (ad (11 + setN key))).eraseIdx i)))) (inc (xT σ) wf)
def takeC (ad : Nat → Nat) (it : Nat → Da) (σ : CS) (key : Int64) (wf : Nat) : CS × Bool :=
  if mayC σ key = true then
    match (xR σ (ad (11 + setN key))).findIdx? (keyIs it key) with
    | none => (zT σ (inc (xT σ) 11), false)
    | some i => (takeC1 ad it (zT σ (inc (xT σ) 11)) key wf i, true)
  else (σ, false)
/-- rows hold items alone; but for the bench no row has a hole -/
def RWF (ad kd : Nat → Nat) (σ : CS) : Prop := (∀ r, kd r = 2 → RW kd (xR σ r)) ∧ (∀ r, kd r = 2 → r ≠ ad 8 → none ∉ xR σ r)
theorem RWF.all {ad kd : Nat → Nat} {σ : CS} (h : RWF ad kd σ) {r : Nat} (hk : kd r = 2) (hne : r ≠ ad 8) : ∀ o ∈ xR σ r, ∃ a, o = some a ∧ kd a = 1 := by
  intro o ho
  cases o with
  | none => exact absurd ho (h.2 r hk hne)
  | some a => exact ⟨a, rfl, h.1 r hk a ho⟩
theorem findP_key {ad : Nat → Nat} {it : Nat → Da} {σ : CS} {key : Int64} {a : Nat} (h : findP ad it σ key = some a) : (it a).1 = key ∧ some a ∈ xR σ (ad (11 + setN key)) := by
  unfold findP at h
  cases hf : (xR σ (ad (11 + setN key))).find? (keyIs it key) with
  | none => rw [hf] at h; cases h
  | some o =>
    rw [hf] at h
    have h1 := List.find?_some hf
    have h2 := List.mem_of_find?_eq_some hf
    have h3 : o = some a := h
    subst h3
    exact ⟨by simpa [keyIs] using h1, h2⟩
theorem find_idx {L : List (Option Nat)} {q : Option Nat → Bool} : L.findIdx? q = none ↔ L.find? q = none := by
  rw [List.find?_eq_none, List.findIdx?_eq_none_iff]
  constructor
  · intro h x hx; simpa using h x hx
  · intro h x hx; simpa using h x hx
section SETS
variable {p : Program} {l : Launch} {e : Env} {s : State} {m : MethodId} {args : Array Value} {below : List Frame} {meth : Method} {c : Code} {R : Room} {G : Gd} {A : Nat → Prop} {Q : State → Prop} {k n : Nat} {ad ar ow cap kd : Nat → Nat} {it : Nat → Da} {σ : CS} {I0 : Heap → Prop}
set_option maxRecDepth 4000 in
theorem e_mixOf (key : Int64) : Ct 0 0 0 yX4_mixOf cX4_mixOf 4 (some .long) G A [.long key] (I0) (some (.long (mixI key))) (I0) := by
  refine Ct.of 2 rfl rfl (Nat.le_of_ble_eq_true rfl) ?_
  intro p l e s m below meth c hini
  refine k_lload_n (pc := 0) dX4_mixOf_0 rfl ?_
  refine k_lload_n (pc := 1) dX4_mixOf_1 rfl ?_
  refine k_bipush (v := 32) (pc := 2) dX4_mixOf_2 (by decide) ?_
  refine k_lushr (pc := 4) dX4_mixOf_4 ?_
  refine k_lxor (pc := 5) dX4_mixOf_5 ?_
  refine k_ldc2 gw_152 (pc := 6) dX4_mixOf_6 ?_
  refine k_lmul (pc := 9) dX4_mixOf_9 ?_
  refine k_lstore_n (pc := 10) dX4_mixOf_10 (by decide) rfl ?_
  refine k_lload_n (pc := 11) dX4_mixOf_11 rfl ?_
  refine k_lload_n (pc := 12) dX4_mixOf_12 rfl ?_
  refine k_bipush (v := 32) (pc := 13) dX4_mixOf_13 (by decide) ?_
  refine k_lushr (pc := 15) dX4_mixOf_15 ?_
  refine k_lxor (pc := 16) dX4_mixOf_16 ?_
  refine k_ldc2 gw_152 (pc := 17) dX4_mixOf_17 ?_
  refine k_lmul (pc := 20) dX4_mixOf_20 ?_
  refine k_lstore_n (pc := 21) dX4_mixOf_21 (by decide) rfl ?_
  refine k_lload_n (pc := 22) dX4_mixOf_22 rfl ?_
  refine k_lload_n (pc := 23) dX4_mixOf_23 rfl ?_
  refine k_bipush (v := 32) (pc := 24) dX4_mixOf_24 (by decide) ?_
  refine k_lushr (pc := 26) dX4_mixOf_26 ?_
  refine k_lxor (pc := 27) dX4_mixOf_27 ?_
  exact k_lret (pc := 28) dX4_mixOf_28 rfl (fun _ h => h) (Nat.le_refl _) (Nat.le_refl _)
set_option maxRecDepth 4000 in
theorem e_setOfMix (x : Int64) : Ct 0 0 0 yX4_setOfMix cX4_setOfMix 2 (some .int) G A [.long x] (I0) (some (.int (nI (x.toBitVec.toNat % 64)))) (I0) := by
  refine Ct.of 0 rfl rfl (Nat.le_of_ble_eq_true rfl) ?_
  intro p l e s m below meth c hini
  refine k_lload_n (pc := 0) dX4_setOfMix_0 rfl ?_
  refine k_ldc2 gw_156 (pc := 1) dX4_setOfMix_1 ?_
  refine k_land (pc := 4) dX4_setOfMix_4 ?_
  refine k_l2i (pc := 5) dX4_setOfMix_5 ?_
  exact k_iret (pc := 6) dX4_setOfMix_6 (setM_eq x) (fun _ h => h) (Nat.le_refl _) (Nat.le_refl _)
set_option maxRecDepth 4000 in
theorem e_filterBits (x : Int64) : Ct 0 0 0 yX4_filterBits cX4_filterBits 4 (some .long) G A [.long x] (I0) (some (.long (bitM x))) (I0) := by
  refine Ct.of 2 rfl rfl (Nat.le_of_ble_eq_true rfl) ?_
  intro p l e s m below meth c hini
  refine k_lload_n (pc := 0) dX4_filterBits_0 rfl ?_
  refine k_bipush (v := 6) (pc := 1) dX4_filterBits_1 (by decide) ?_
  refine k_lushr (pc := 3) dX4_filterBits_3 ?_
  refine k_ldc2 gw_156 (pc := 4) dX4_filterBits_4 ?_
  refine k_land (pc := 7) dX4_filterBits_7 ?_
  refine k_l2i (pc := 8) dX4_filterBits_8 ?_
  refine k_istore_n (pc := 9) dX4_filterBits_9 (by decide) rfl ?_
  refine k_lload_n (pc := 10) dX4_filterBits_10 rfl ?_
  refine k_bipush (v := 12) (pc := 11) dX4_filterBits_11 (by decide) ?_
  refine k_lushr (pc := 13) dX4_filterBits_13 ?_
  refine k_ldc2 gw_156 (pc := 14) dX4_filterBits_14 ?_
  refine k_land (pc := 17) dX4_filterBits_17 ?_
  refine k_l2i (pc := 18) dX4_filterBits_18 ?_
  refine k_istore_n (pc := 19) dX4_filterBits_19 (by decide) rfl ?_
  refine k_lconst (v := 1) (pc := 20) dX4_filterBits_20 (by decide) ?_
  refine k_iload_n (pc := 21) dX4_filterBits_21 rfl ?_
  refine k_lshl (pc := 22) dX4_filterBits_22 ?_
  refine k_lconst (v := 1) (pc := 23) dX4_filterBits_23 (by decide) ?_
  refine k_iload_n (pc := 24) dX4_filterBits_24 rfl ?_
  refine k_lshl (pc := 25) dX4_filterBits_25 ?_
  refine k_lor (pc := 26) dX4_filterBits_26 ?_
  exact k_lret (pc := 27) dX4_filterBits_27 rfl (fun _ h => h) (Nat.le_refl _) (Nat.le_refl _)
theorem pgk (hst : CSt ad ar ow cap kd) (key : Int64) : kd (ad (11 + setN key)) = 2 := kd_row hst (by omega) (by have := setN_lt key; omega)
theorem pgs (hst : CSt ad ar ow cap kd) {s0 : Nat} (h : s0 < 64) : kd (ad (11 + s0)) = 2 := kd_row hst (by omega) (by omega)
theorem pgne (hst : CSt ad ar ow cap kd) {s0 j : Nat} (h : s0 < 64) (hj : 8 ≤ j) (hj2 : j < 11) : ad (11 + s0) ≠ ad j := fun z => by have := hst.2.2.2.2 (11 + s0) j (by omega) (by omega) z; omega
theorem adne (hst : CSt ad ar ow cap kd) {i j : Nat} (hi : i < 75) (hj : j < 75) (h : i ≠ j) : ad i ≠ ad j := fun z => h (hst.2.2.2.2 i j hi hj z)
set_option maxRecDepth 4000 in
theorem s_find (hst : CSt ad ar ow cap kd) (key : Int64) (hw : RWF ad kd σ) : Ct 1 0 0 yX3_find cX3_find 4 (some (.object "EmberCache$Item")) G A [.ref (ad 1), .long key] (CH G A ad ar ow cap kd it σ) (some (va_rf (findP ad it σ key))) (CH G A ad ar ow cap kd it σ) := by
  refine Ct.of 1 rfl rfl (Nat.le_of_ble_eq_true rfl) ?_
  intro p l e s m below meth c hini
  have hpk := pgk hst key
  refine k_len hst hpk fun _ h1000 => ?_
  have hf := at_find (L := xR σ (ad (11 + setN key))) (keyIs it key) h1000
  refine k_aload_n (pc := 0) dX3_find_0 rfl ?_
  refine h_X3_17 hst (pc := 1) dX3_find_1 ?_
  refine k_lload_n (pc := 4) dX3_find_4 rfl ?_
  refine k_callSN sn_X3_32 (e_mixOf key) (pc := 5) dX3_find_5 rfl rfl (Nat.le_of_ble_eq_true rfl) (by decide) (by decide) (Nat.le_refl _) (Nat.le_refl _) ?_
  refine k_callSN sn_X3_36 (e_setOfMix (mixI key)) (pc := 8) dX3_find_8 rfl rfl (Nat.le_of_ble_eq_true rfl) (by decide) (by decide) (Nat.le_refl _) (Nat.le_refl _) ?_
  refine pg_ld hst (pc := 11) dX3_find_11 rfl (setN_lt key) ?_
  refine k_astore_n (pc := 12) dX3_find_12 (by decide) rfl ?_
  refine k_aload_n (pc := 13) dX3_find_13 rfl ?_
  refine k_aload_n (pc := 14) dX3_find_14 rfl ?_
  refine k_lload_n (pc := 15) dX3_find_15 rfl ?_
  refine k_callC2 sv_X3_40 hpk (r_indexOf hst hpk (hw.1 _ hpk) key) (pc := 16) dX3_find_16 rfl rfl (Nat.le_of_ble_eq_true rfl) (by decide) (by decide) (Nat.le_refl _) (Nat.le_refl _) ?_
  refine k_callC2 sv_X3_43 hpk (r_at hst hpk _) (pc := 19) dX3_find_19 rfl rfl (Nat.le_of_ble_eq_true rfl) (by decide) (by decide) (Nat.le_refl _) (Nat.le_refl _) ?_
  exact k_aret (pc := 22) dX3_find_22 (by rw [hf]; rfl) (fun _ h => h) (Nat.le_refl _) (Nat.le_refl _)
set_option maxRecDepth 4000 in
theorem s_read (hst : CSt ad ar ow cap kd) (key : Int64) (hw : RWF ad kd σ) : Ct 1 0 0 yX3_read cX3_read 8 (some (.object "EmberCache$Item")) G A [.ref (ad 1), .long key] (CH G A ad ar ow cap kd it σ) (some (va_rf (readC ad it σ key).2)) (CH G A ad ar ow cap kd it (readC ad it σ key).1) := by
  refine Ct.of 5 rfl rfl (Nat.le_of_ble_eq_true rfl) ?_
  intro p l e s m below meth c hini
  have hpk := pgk hst key
  refine k_len hst hpk fun _ h1000 => ?_
  have hf := at_find (L := xR σ (ad (11 + setN key))) (keyIs it key) h1000
  refine k_lload_n (pc := 0) dX3_read_0 rfl ?_
  refine k_callSN sn_X3_32 (e_mixOf key) (pc := 1) dX3_read_1 rfl rfl (Nat.le_of_ble_eq_true rfl) (by decide) (by decide) (Nat.le_refl _) (Nat.le_refl _) ?_
  refine k_lstore_n (pc := 4) dX3_read_4 (by decide) rfl ?_
  refine k_lload_n (pc := 5) dX3_read_5 rfl ?_
  refine k_callSN sn_X3_36 (e_setOfMix (mixI key)) (pc := 6) dX3_read_6 rfl rfl (Nat.le_of_ble_eq_true rfl) (by decide) (by decide) (Nat.le_refl _) (Nat.le_refl _) ?_
  refine k_istore (pc := 9) dX3_read_9 (by decide) rfl ?_
  refine k_lload_n (pc := 11) dX3_read_11 rfl ?_
  refine k_callSN sn_X3_47 (e_filterBits (mixI key)) (pc := 12) dX3_read_12 rfl rfl (Nat.le_of_ble_eq_true rfl) (by decide) (by decide) (Nat.le_refl _) (Nat.le_refl _) ?_
  refine k_lstore (pc := 15) dX3_read_15 (by decide) rfl ?_
  refine k_aload_n (pc := 17) dX3_read_17 rfl ?_
  refine h_X3_24 hst (pc := 18) dX3_read_18 ?_
  refine k_iload (pc := 21) dX3_read_21 rfl ?_
  refine fl_ld hst (pc := 23) dX3_read_23 rfl (setN_lt key) ?_
  refine k_lload (pc := 24) dX3_read_24 rfl ?_
  refine k_land (pc := 26) dX3_read_26 ?_
  refine k_lload (pc := 27) dX3_read_27 rfl ?_
  refine k_lcmp (pc := 29) dX3_read_29 ?_
  refine k_if_eq (tgt := 35) (pc := 30) dX3_read_30 (by decide) (fun h1 => ?_) (fun h1 => ?_)
  · have h2 : xF σ (setN key) &&& bitI key = bitI key := cmp_eq h1
    have hm : mayC σ key = true := by simp [mayC, h2]
    have hw2 : RWF ad kd (zT σ (va_up (xT σ) 11 (xT σ 11 + 1))) := hw
    have hr : readC ad it σ key = (zT σ (inc (xT σ) 11), findP ad it σ key) := if_pos hm
    rw [hr]
    refine k_aload_n (pc := 35) dX3_read_35 rfl ?_
    refine h_X3_9 hst (pc := 36) dX3_read_36 ?_
    refine k_bipush (v := 11) (pc := 39) dX3_read_39 (by decide) ?_
    refine k_dup2 (pc := 41) dX3_read_41 rfl rfl ?_
    refine ta_ld hst (pc := 42) dX3_read_42 (show (11 : Int32) = nI 11 from rfl) (by decide) ?_
    refine k_iconst (v := 1) (pc := 43) dX3_read_43 (by decide) ?_
    refine k_iadd (pc := 44) dX3_read_44 ?_
    refine ta_st hst rfl (pc := 45) dX3_read_45 (show (11 : Int32) = nI 11 from rfl) (by decide) ?_
    refine k_aload_n (pc := 46) dX3_read_46 rfl ?_
    refine h_X3_17 hst (pc := 47) dX3_read_47 ?_
    refine k_iload (pc := 50) dX3_read_50 rfl ?_
    refine pg_ld hst (pc := 52) dX3_read_52 rfl (setN_lt key) ?_
    refine k_aload_n (pc := 53) dX3_read_53 rfl ?_
    refine h_X3_17 hst (pc := 54) dX3_read_54 ?_
    refine k_iload (pc := 57) dX3_read_57 rfl ?_
    refine pg_ld hst (pc := 59) dX3_read_59 rfl (setN_lt key) ?_
    refine k_lload_n (pc := 60) dX3_read_60 rfl ?_
    refine k_callC2 sv_X3_40 hpk (r_indexOf hst hpk (hw2.1 _ hpk) key) (pc := 61) dX3_read_61 rfl rfl (Nat.le_of_ble_eq_true rfl) (by decide) (by decide) (Nat.le_refl _) (Nat.le_refl _) ?_
    refine k_callC2 sv_X3_43 hpk (r_at hst hpk _) (pc := 64) dX3_read_64 rfl rfl (Nat.le_of_ble_eq_true rfl) (by decide) (by decide) (Nat.le_refl _) (Nat.le_refl _) ?_
    exact k_aret (pc := 67) dX3_read_67 (by show va_rf (atR (xR σ (ad (11 + setN key))) _) = _; rw [show xR (zT σ (va_up (xT σ) 11 (xT σ 11 + 1))) (ad (11 + setN key)) = xR σ (ad (11 + setN key)) from rfl, hf]; rfl) (fun _ h => h) (Nat.le_refl _) (Nat.le_refl _)
  · have hm : ¬ mayC σ key = true := by
      intro z
      have h2 : xF σ (setN key) &&& bitI key = bitI key := by simpa [mayC] using z
      exact cmp_ne h1 h2
    have hr : readC ad it σ key = (σ, none) := if_neg hm
    rw [hr]
    refine k_null (pc := 33) dX3_read_33 ?_
    exact k_aret (pc := 34) dX3_read_34 rfl (fun _ h => h) (Nat.le_refl _) (Nat.le_refl _)
set_option maxRecDepth 4000 in
theorem s_takeOut (hst : CSt ad ar ow cap kd) (key : Int64) (wf : Nat) (hwf : wf < 12) (hw : RWF ad kd σ) : Ct 2 0 0 yX3_takeOut cX3_takeOut 6 (some .boolean) G A [.ref (ad 1), .long key, .int (nI wf)] (CH G A ad ar ow cap kd it σ) (some (.int (bI (takeC ad it σ key wf).2))) (CH G A ad ar ow cap kd it (takeC ad it σ key wf).1) := by
  refine Ct.of 2 rfl rfl (Nat.le_of_ble_eq_true rfl) ?_
  intro p l e s m below meth c hini
  have hpk := pgk hst key
  refine k_len hst hpk fun _ h1000 => ?_
  refine k_aload_n (pc := 0) dX3_takeOut_0 rfl ?_
  refine k_lload_n (pc := 1) dX3_takeOut_1 rfl ?_
  refine k_callC3 sv_X3_50 hst (s_read hst key hw) (pc := 2) dX3_takeOut_2 rfl rfl (Nat.le_of_ble_eq_true rfl) (by decide) (by decide) (Nat.le_refl _) (Nat.le_refl _) ?_
  by_cases hm : mayC σ key = true
  · have hr : readC ad it σ key = (zT σ (inc (xT σ) 11), findP ad it σ key) := if_pos hm
    rw [hr]
    cases hi : (xR σ (ad (11 + setN key))).findIdx? (keyIs it key) with
    | none =>
      have ht : takeC ad it σ key wf = (zT σ (inc (xT σ) 11), false) := by unfold takeC; rw [if_pos hm, hi]
      have hfn : findP ad it σ key = none := by unfold findP; rw [find_idx.mp hi]; rfl
      rw [ht, hfn]
      refine k_astoreN (pc := 5) dX3_takeOut_5 (by decide) rfl ?_
      refine k_aloadN (pc := 7) dX3_takeOut_7 rfl ?_
      refine k_ifnonnullN (pc := 9) dX3_takeOut_9 ?_
      refine k_iconst (v := 0) (pc := 12) dX3_takeOut_12 (by decide) ?_
      exact k_zret (pc := 13) dX3_takeOut_13 rfl (bI_nar _) (fun _ h => h) (Nat.le_refl _) (Nat.le_refl _)
    | some i =>
      have ht : takeC ad it σ key wf = (takeC1 ad it (zT σ (inc (xT σ) 11)) key wf i, true) := by unfold takeC; rw [if_pos hm, hi]
      have hil := findIdx?_ltl hi
      obtain ⟨a, hfa⟩ : ∃ a, findP ad it σ key = some a := by
        have hf := at_find (L := xR σ (ad (11 + setN key))) (keyIs it key) h1000
        unfold findP
        rw [← hf, hi]
        unfold atR
        rw [if_neg (show ¬ oI (some i) < 0 from nI_pos (by omega)), show (oI (some i)).toNatClampNeg = i from nI_clamp (by omega), List.getElem?_eq_getElem hil]
        obtain ⟨b, hb, -⟩ := hw.all hpk (pgne hst (setN_lt key) (by decide) (by decide)) _ (List.getElem_mem hil)
        exact ⟨b, by rw [hb]; rfl⟩
      obtain ⟨hka, hmem⟩ := findP_key hfa
      have hak : kd a = 1 := hw.1 _ hpk a hmem
      rw [ht, hfa]
      have hall := hw.all hpk (pgne hst (setN_lt key) (by decide) (by decide))
      have hset : setN (it a).1 = setN key := by rw [hka]
      refine k_astore (pc := 5) dX3_takeOut_5 (by decide) rfl ?_
      refine k_aload (pc := 7) dX3_takeOut_7 rfl ?_
      refine k_ifnonnull (tgt := 14) (pc := 9) dX3_takeOut_9 (by decide) ?_
      refine k_aload_n (pc := 14) dX3_takeOut_14 rfl ?_
      refine h_X3_17 hst (pc := 15) dX3_takeOut_15 ?_
      refine k_aload (pc := 18) dX3_takeOut_18 rfl ?_
      refine h_X3_54 hak (pc := 20) dX3_takeOut_20 ?_
      rw [hset]
      refine pg_ld hst (pc := 23) dX3_takeOut_23 rfl (setN_lt key) ?_
      refine k_astore (pc := 24) dX3_takeOut_24 (by decide) rfl ?_
      refine k_aload (pc := 26) dX3_takeOut_26 rfl ?_
      refine k_aload (pc := 28) dX3_takeOut_28 rfl ?_
      refine k_lload_n (pc := 30) dX3_takeOut_30 rfl ?_
      refine k_callC2 sv_X3_40 hpk (r_indexOf hst hpk (show RW kd (xR (zT σ (inc (xT σ) 11)) (ad (11 + setN key))) from hw.1 _ hpk) key) (pc := 31) dX3_takeOut_31 rfl rfl (Nat.le_of_ble_eq_true rfl) (by decide) (by decide) (Nat.le_refl _) (Nat.le_refl _) ?_
      rw [show xR (zT σ (inc (xT σ) 11)) (ad (11 + setN key)) = xR σ (ad (11 + setN key)) from rfl, hi]
      refine k_callC2 sv_X3_60 hpk (r_closeUp (σ := zT σ (inc (xT σ) 11)) hst hpk hall i hil) (pc := 34) dX3_takeOut_34 rfl rfl (Nat.le_of_ble_eq_true rfl) (by decide) (by decide) (Nat.le_refl _) (Nat.le_refl _) ?_
      refine k_aload_n (pc := 37) dX3_takeOut_37 rfl ?_
      refine k_dup (pc := 38) dX3_takeOut_38 rfl ?_
      refine h_X3_63 hst (pc := 39) dX3_takeOut_39 ?_
      refine k_iconst (v := 1) (pc := 42) dX3_takeOut_42 (by decide) ?_
      refine k_isub (pc := 43) dX3_takeOut_43 ?_
      refine hp_X3_63 hst rfl (pc := 44) dX3_takeOut_44 ?_
      refine k_aload_n (pc := 47) dX3_takeOut_47 rfl ?_
      refine h_X3_24 hst (pc := 48) dX3_takeOut_48 ?_
      refine k_aload (pc := 51) dX3_takeOut_51 rfl ?_
      refine h_X3_54 hak (pc := 53) dX3_takeOut_53 ?_
      rw [hset]
      have hrw2 : RW kd (xR (zS (zRr (zT σ (inc (xT σ) 11)) (ad (11 + setN key)) ((xR (zT σ (inc (xT σ) 11)) (ad (11 + setN key))).eraseIdx i)) (xS (zRr (zT σ (inc (xT σ) 11)) (ad (11 + setN key)) ((xR (zT σ (inc (xT σ) 11)) (ad (11 + setN key))).eraseIdx i)) - 1)) (ad (11 + setN key))) := by
        show RW kd (xR (zRr (zT σ (inc (xT σ) 11)) (ad (11 + setN key)) ((xR (zT σ (inc (xT σ) 11)) (ad (11 + setN key))).eraseIdx i)) (ad (11 + setN key)))
        rw [zRr_same]
        exact fun b hb => hw.1 _ hpk b (List.mem_of_mem_eraseIdx hb)
      refine k_aload (pc := 56) dX3_takeOut_56 rfl ?_
      refine k_callC2 sv_X3_66 hpk (r_filter hst hpk hrw2) (pc := 58) dX3_takeOut_58 rfl rfl (Nat.le_of_ble_eq_true rfl) (by decide) (by decide) (Nat.le_refl _) (Nat.le_refl _) ?_
      rw [show xR (zS (zRr (zT σ (inc (xT σ) 11)) (ad (11 + setN key)) ((xR (zT σ (inc (xT σ) 11)) (ad (11 + setN key))).eraseIdx i)) (xS (zRr (zT σ (inc (xT σ) 11)) (ad (11 + setN key)) ((xR (zT σ (inc (xT σ) 11)) (ad (11 + setN key))).eraseIdx i)) - 1)) (ad (11 + setN key)) = xR (zRr (zT σ (inc (xT σ) 11)) (ad (11 + setN key)) ((xR (zT σ (inc (xT σ) 11)) (ad (11 + setN key))).eraseIdx i)) (ad (11 + setN key)) from rfl, zRr_same]
      refine fl_st hst rfl (pc := 61) dX3_takeOut_61 rfl (setN_lt key) ?_
      refine k_aload_n (pc := 62) dX3_takeOut_62 rfl ?_
      refine h_X3_9 hst (pc := 63) dX3_takeOut_63 ?_
      refine k_iload_n (pc := 66) dX3_takeOut_66 rfl ?_
      refine k_dup2 (pc := 67) dX3_takeOut_67 rfl rfl ?_
      refine ta_ld hst (pc := 68) dX3_takeOut_68 rfl hwf ?_
      refine k_iconst (v := 1) (pc := 69) dX3_takeOut_69 (by decide) ?_
      refine k_iadd (pc := 70) dX3_takeOut_70 ?_
      refine ta_st hst rfl (pc := 71) dX3_takeOut_71 rfl hwf ?_
      refine k_iconst (v := 1) (pc := 72) dX3_takeOut_72 (by decide) ?_
      exact k_zret (pc := 73) dX3_takeOut_73 rfl (bI_nar _) (fun _ h => h) (Nat.le_refl _) (Nat.le_refl _)
  · have hr : readC ad it σ key = (σ, none) := if_neg hm
    have ht : takeC ad it σ key wf = (σ, false) := if_neg hm
    rw [hr, ht]
    refine k_astoreN (pc := 5) dX3_takeOut_5 (by decide) rfl ?_
    refine k_aloadN (pc := 7) dX3_takeOut_7 rfl ?_
    refine k_ifnonnullN (pc := 9) dX3_takeOut_9 ?_
    refine k_iconst (v := 0) (pc := 12) dX3_takeOut_12 (by decide) ?_
    exact k_zret (pc := 13) dX3_takeOut_13 rfl (bI_nar _) (fun _ h => h) (Nat.le_refl _) (Nat.le_refl _)
end SETS
