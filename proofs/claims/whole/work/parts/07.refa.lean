/-! numbers that both sides compute -/
def ush (x : Int64) (y : Int32) : Int64 := (x.toUInt64 >>> (y.toInt64.toUInt64 &&& Int64.toUInt64 63)).toInt64
def mixA (x : Int64) : Int64 := x ^^^ ush x 32
def mixI (x : Int64) : Int64 := mixA (mixA (mixA x * (-2960836687051489901)) * (-2960836687051489901))
def unmixI (x : Int64) : Int64 := mixA (mixA (mixA x * (-3463755963560253285)) * (-3463755963560253285))
def setI (x : Int64) : Int32 := (mixI x &&& 63).toInt32
def bitM (m : Int64) : Int64 := (1 : Int64) <<< ((ush m 6 &&& 63).toInt32.toInt64 &&& 63) ||| (1 : Int64) <<< ((ush m 12 &&& 63).toInt32.toInt64 &&& 63)
def bitI (x : Int64) : Int64 := bitM (mixI x)
def setN (x : Int64) : Nat := (mixI x).toBitVec.toNat % 64
theorem setM_eq (x : Int64) : (x &&& 63).toInt32 = nI (x.toBitVec.toNat % 64) := by
  have h : (x &&& 63).toBitVec.toNat = x.toBitVec.toNat % 64 := by
    rw [Int64.toBitVec_and, BitVec.toNat_and]
    exact Nat.and_two_pow_sub_one_eq_mod _ 6
  have e : x &&& 63 = lN (x.toBitVec.toNat % 64) := by
    apply Int64.toBitVec_inj.mp
    apply BitVec.eq_of_toNat_eq
    rw [h]
    show _ = (BitVec.ofNat 64 _).toNat
    rw [BitVec.toNat_ofNat, Nat.mod_eq_of_lt (b := 2 ^ 64)]
    have := Nat.mod_lt x.toBitVec.toNat (show 64 > 0 by decide)
    omega
  rw [e, lN_i]
theorem setI_eq (x : Int64) : setI x = nI (setN x) := setM_eq (mixI x)
theorem setN_lt (x : Int64) : setN x < 64 := Nat.mod_lt _ (by decide)
theorem cmp_ne {x y : Int64} (h : ¬ lg_cmp x y = 0) : x ≠ y := fun e => h ((lg_cmp_eq x y).mpr e)
theorem cmp_eq {x y : Int64} (h : lg_cmp x y = 0) : x = y := (lg_cmp_eq x y).mp h
def bI (b : Bool) : Int32 := if b then 1 else 0
section REFA
variable {G : Gd} {A : Nat → Prop} {mo : Nat} {ad sl : Nat → Nat} {fi : Nat → Int32} {ai : Nat → Nat → Int32} {al : Nat → Nat → Int64}
abbrev MH (G : Gd) (A : Nat → Prop) (mo : Nat) (ad sl : Nat → Nat) (fi : Nat → Int32) (ai : Nat → Nat → Int32) (al : Nat → Nat → Int64) : Heap → Prop := Hd G A (mw mo ad sl fi ai al)
set_option maxRecDepth 4000 in
theorem c_mix (hst : MSt mo ad sl) (key : Int64) : Ct 0 0 0 yX5_mix cX5_mix 5 (some .long) G A [.ref mo, .long key] (MH G A mo ad sl fi ai al) (some (.long (mixI key))) (MH G A mo ad sl fi ai al) := by
  refine Ct.of 2 rfl rfl (Nat.le_of_ble_eq_true rfl) ?_
  intro p l e s m below meth c hini
  refine k_lload_n (pc := 0) dX5_mix_0 rfl ?_
  refine k_lstore_n (pc := 1) dX5_mix_1 (by decide) rfl ?_
  refine k_lload_n (pc := 2) dX5_mix_2 rfl ?_
  refine k_lload_n (pc := 3) dX5_mix_3 rfl ?_
  refine k_bipush (v := 32) (pc := 4) dX5_mix_4 (by decide) ?_
  refine k_lushr (pc := 6) dX5_mix_6 ?_
  refine k_lxor (pc := 7) dX5_mix_7 ?_
  refine k_lstore_n (pc := 8) dX5_mix_8 (by decide) rfl ?_
  refine k_lload_n (pc := 9) dX5_mix_9 rfl ?_
  refine k_ldc2 gw_544 (pc := 10) dX5_mix_10 ?_
  refine k_lmul (pc := 13) dX5_mix_13 ?_
  refine k_lstore_n (pc := 14) dX5_mix_14 (by decide) rfl ?_
  refine k_lload_n (pc := 15) dX5_mix_15 rfl ?_
  refine k_lload_n (pc := 16) dX5_mix_16 rfl ?_
  refine k_bipush (v := 32) (pc := 17) dX5_mix_17 (by decide) ?_
  refine k_lushr (pc := 19) dX5_mix_19 ?_
  refine k_lxor (pc := 20) dX5_mix_20 ?_
  refine k_lstore_n (pc := 21) dX5_mix_21 (by decide) rfl ?_
  refine k_lload_n (pc := 22) dX5_mix_22 rfl ?_
  refine k_ldc2 gw_544 (pc := 23) dX5_mix_23 ?_
  refine k_lmul (pc := 26) dX5_mix_26 ?_
  refine k_lstore_n (pc := 27) dX5_mix_27 (by decide) rfl ?_
  refine k_lload_n (pc := 28) dX5_mix_28 rfl ?_
  refine k_lload_n (pc := 29) dX5_mix_29 rfl ?_
  refine k_bipush (v := 32) (pc := 30) dX5_mix_30 (by decide) ?_
  refine k_lushr (pc := 32) dX5_mix_32 ?_
  refine k_lxor (pc := 33) dX5_mix_33 ?_
  refine k_lstore_n (pc := 34) dX5_mix_34 (by decide) rfl ?_
  refine k_lload_n (pc := 35) dX5_mix_35 rfl ?_
  exact k_lret (pc := 36) dX5_mix_36 rfl (fun _ h => h) (Nat.le_refl _) (Nat.le_refl _)
def unR : Nat → Int64
  | 0 => -2960836687051489901
  | k + 1 => unR k * (2 - (-2960836687051489901) * unR k)
theorem unR_6 : unR 6 = -3463755963560253285 := by decide +kernel
set_option maxRecDepth 4000 in
theorem c_unmix (hst : MSt mo ad sl) (key : Int64) : Ct 0 0 0 yX5_unmix cX5_unmix 7 (some .long) G A [.ref mo, .long key] (MH G A mo ad sl fi ai al) (some (.long (unmixI key))) (MH G A mo ad sl fi ai al) := by
  refine Ct.of 4 rfl rfl (Nat.le_of_ble_eq_true rfl) ?_
  intro p l e s m below meth c hini
  have loop : ∀ j i : Nat, i + j = 6 → K p l e s m ([.ref mo, .long key] : List Value).toArray below meth c (rmm 0 0 0) yX5_unmix.cls cX5_unmix 7 (some .long) G A (MQ below (Qd (some (.long (unmixI key))) (MH G A mo ad sl fi ai al) A) ([.ref mo, .long key] : List Value).toArray s 0 0 A) 0 0 (MH G A mo ad sl fi ai al) 7 [some (.ref mo), some (.long key), none, some (.long (unR i)), none, some (.int (nI i)), none] [] := by
    intro j
    induction j with
    | zero =>
      intro i hi
      have hi6 : i = 6 := by omega
      subst hi6
      rw [unR_6]
      refine k_iload (pc := 7) dX5_unmix_7 rfl ?_
      refine k_bipush (v := 6) (pc := 9) dX5_unmix_9 (by decide) ?_
      refine k_icmp_ge (tgt := 32) (pc := 11) dX5_unmix_11 (by decide) (fun _ => ?_) (fun c => absurd (by decide) c)
      refine k_lv (lv2 := [some (.ref mo), some (.long key), none, some (.long (-3463755963560253285)), none, none, none]) (fun i v h => by match i, h with | 0, h => exact h | 1, h => exact h | 3, h => exact h | 2, h => cases h | 4, h => cases h | 5, h => cases h | 6, h => cases h | i + 7, h => cases h) ?_
      refine k_lload_n (pc := 32) dX5_unmix_32 rfl ?_
      refine k_lstore (pc := 33) dX5_unmix_33 (by decide) rfl ?_
      refine k_lload (pc := 35) dX5_unmix_35 rfl ?_
      refine k_lload (pc := 37) dX5_unmix_37 rfl ?_
      refine k_bipush (v := 32) (pc := 39) dX5_unmix_39 (by decide) ?_
      refine k_lushr (pc := 41) dX5_unmix_41 ?_
      refine k_lxor (pc := 42) dX5_unmix_42 ?_
      refine k_lstore (pc := 43) dX5_unmix_43 (by decide) rfl ?_
      refine k_lload (pc := 45) dX5_unmix_45 rfl ?_
      refine k_lload_n (pc := 47) dX5_unmix_47 rfl ?_
      refine k_lmul (pc := 48) dX5_unmix_48 ?_
      refine k_lstore (pc := 49) dX5_unmix_49 (by decide) rfl ?_
      refine k_lload (pc := 51) dX5_unmix_51 rfl ?_
      refine k_lload (pc := 53) dX5_unmix_53 rfl ?_
      refine k_bipush (v := 32) (pc := 55) dX5_unmix_55 (by decide) ?_
      refine k_lushr (pc := 57) dX5_unmix_57 ?_
      refine k_lxor (pc := 58) dX5_unmix_58 ?_
      refine k_lstore (pc := 59) dX5_unmix_59 (by decide) rfl ?_
      refine k_lload (pc := 61) dX5_unmix_61 rfl ?_
      refine k_lload_n (pc := 63) dX5_unmix_63 rfl ?_
      refine k_lmul (pc := 64) dX5_unmix_64 ?_
      refine k_lstore (pc := 65) dX5_unmix_65 (by decide) rfl ?_
      refine k_lload (pc := 67) dX5_unmix_67 rfl ?_
      refine k_lload (pc := 69) dX5_unmix_69 rfl ?_
      refine k_bipush (v := 32) (pc := 71) dX5_unmix_71 (by decide) ?_
      refine k_lushr (pc := 73) dX5_unmix_73 ?_
      refine k_lxor (pc := 74) dX5_unmix_74 ?_
      refine k_lstore (pc := 75) dX5_unmix_75 (by decide) rfl ?_
      refine k_lload (pc := 77) dX5_unmix_77 rfl ?_
      exact k_lret (pc := 79) dX5_unmix_79 rfl (fun _ h => h) (Nat.le_refl _) (Nat.le_refl _)
    | succ j ih =>
      intro i hi
      refine k_iload (pc := 7) dX5_unmix_7 rfl ?_
      refine k_bipush (v := 6) (pc := 9) dX5_unmix_9 (by decide) ?_
      refine k_icmp_ge (tgt := 32) (pc := 11) dX5_unmix_11 (by decide) (fun c => absurd c (nI_ge (a := i) (b := 6) (by omega) (by decide))) (fun _ => ?_)
      refine k_lload_n (pc := 14) dX5_unmix_14 rfl ?_
      refine k_ldc2 gw_549 (pc := 15) dX5_unmix_15 ?_
      refine k_ldc2 gw_544 (pc := 18) dX5_unmix_18 ?_
      refine k_lload_n (pc := 21) dX5_unmix_21 rfl ?_
      refine k_lmul (pc := 22) dX5_unmix_22 ?_
      refine k_lsub (pc := 23) dX5_unmix_23 ?_
      refine k_lmul (pc := 24) dX5_unmix_24 ?_
      refine k_lstore_n (pc := 25) dX5_unmix_25 (by decide) rfl ?_
      refine k_iinc (pc := 26) dX5_unmix_26 rfl (nI_inc _) (by decide) rfl ?_
      refine k_goto (tgt := 7) (pc := 29) dX5_unmix_29 (by decide) ?_
      exact ih (i + 1) (by omega)
  refine k_ldc2 gw_544 (pc := 0) dX5_unmix_0 ?_
  refine k_lstore_n (pc := 3) dX5_unmix_3 (by decide) rfl ?_
  refine k_iconst (v := 0) (pc := 4) dX5_unmix_4 (by decide) ?_
  refine k_istore (pc := 5) dX5_unmix_5 (by decide) rfl ?_
  exact loop 6 0 rfl
set_option maxRecDepth 4000 in
theorem c_setOf (hst : MSt mo ad sl) (key : Int64) : Ct 1 0 0 yX5_setOf cX5_setOf 3 (some .int) G A [.ref mo, .long key] (MH G A mo ad sl fi ai al) (some (.int (nI (setN key)))) (MH G A mo ad sl fi ai al) := by
  refine Ct.of 0 rfl rfl (Nat.le_of_ble_eq_true rfl) ?_
  intro p l e s m below meth c hini
  refine k_aload_n (pc := 0) dX5_setOf_0 rfl ?_
  refine k_lload_n (pc := 1) dX5_setOf_1 rfl ?_
  refine k_callV sv_X5_79 (c_mix hst key) (pc := 2) dX5_setOf_2 rfl (mw_mo hst) rfl rfl (Nat.le_of_ble_eq_true rfl) (by decide) (by decide) (Nat.le_refl _) (Nat.le_refl _) ?_
  refine k_ldc2 gw_555 (pc := 5) dX5_setOf_5 ?_
  refine k_land (pc := 8) dX5_setOf_8 ?_
  refine k_l2i (pc := 9) dX5_setOf_9 ?_
  exact k_iret (pc := 10) dX5_setOf_10 (setI_eq key) (fun _ h => h) (Nat.le_refl _) (Nat.le_refl _)
set_option maxRecDepth 4000 in
theorem c_bitsOf (hst : MSt mo ad sl) (key : Int64) : Ct 1 0 0 yX5_bitsOf cX5_bitsOf 5 (some .long) G A [.ref mo, .long key] (MH G A mo ad sl fi ai al) (some (.long (bitI key))) (MH G A mo ad sl fi ai al) := by
  refine Ct.of 2 rfl rfl (Nat.le_of_ble_eq_true rfl) ?_
  intro p l e s m below meth c hini
  refine k_aload_n (pc := 0) dX5_bitsOf_0 rfl ?_
  refine k_lload_n (pc := 1) dX5_bitsOf_1 rfl ?_
  refine k_callV sv_X5_79 (c_mix hst key) (pc := 2) dX5_bitsOf_2 rfl (mw_mo hst) rfl rfl (Nat.le_of_ble_eq_true rfl) (by decide) (by decide) (Nat.le_refl _) (Nat.le_refl _) ?_
  refine k_lstore_n (pc := 5) dX5_bitsOf_5 (by decide) rfl ?_
  refine k_lconst (v := 1) (pc := 6) dX5_bitsOf_6 (by decide) ?_
  refine k_lload_n (pc := 7) dX5_bitsOf_7 rfl ?_
  refine k_bipush (v := 6) (pc := 8) dX5_bitsOf_8 (by decide) ?_
  refine k_lushr (pc := 10) dX5_bitsOf_10 ?_
  refine k_ldc2 gw_555 (pc := 11) dX5_bitsOf_11 ?_
  refine k_land (pc := 14) dX5_bitsOf_14 ?_
  refine k_l2i (pc := 15) dX5_bitsOf_15 ?_
  refine k_lshl (pc := 16) dX5_bitsOf_16 ?_
  refine k_lconst (v := 1) (pc := 17) dX5_bitsOf_17 (by decide) ?_
  refine k_lload_n (pc := 18) dX5_bitsOf_18 rfl ?_
  refine k_bipush (v := 12) (pc := 19) dX5_bitsOf_19 (by decide) ?_
  refine k_lushr (pc := 21) dX5_bitsOf_21 ?_
  refine k_ldc2 gw_555 (pc := 22) dX5_bitsOf_22 ?_
  refine k_land (pc := 25) dX5_bitsOf_25 ?_
  refine k_l2i (pc := 26) dX5_bitsOf_26 ?_
  refine k_lshl (pc := 27) dX5_bitsOf_27 ?_
  refine k_lor (pc := 28) dX5_bitsOf_28 ?_
  exact k_lret (pc := 29) dX5_bitsOf_29 rfl (fun _ h => h) (Nat.le_refl _) (Nat.le_refl _)
def filR (al : Nat → Nat → Int64) (s : Nat) : Nat → Int64
  | 0 => 0
  | k + 1 => filR al s k ||| bitI (al 11 (8 * s + k))
theorem nI_8 (s k : Nat) : 8 * nI s + nI k = nI (8 * s + k) := by
  rw [show (8 : Int32) = nI 8 from rfl, pk_mul, nI_add]
set_option maxRecDepth 4000 in
theorem c_filterOf (hst : MSt mo ad sl) (s0 n0 : Nat) (hs : s0 < 64) (hn : ai 16 s0 = nI n0) (hn8 : n0 ≤ 8) : Ct 2 0 0 yX5_filterOf cX5_filterOf 5 (some .long) G A [.ref mo, .int (nI s0)] (MH G A mo ad sl fi ai al) (some (.long (filR al s0 n0))) (MH G A mo ad sl fi ai al) := by
  refine Ct.of 3 rfl rfl (Nat.le_of_ble_eq_true rfl) ?_
  intro p l e s m below meth c hini
  have loop : ∀ j i : Nat, i + j = n0 → K p l e s m ([.ref mo, .int (nI s0)] : List Value).toArray below meth c (rmm 2 0 0) yX5_filterOf.cls cX5_filterOf 5 (some .long) G A (MQ below (Qd (some (.long (filR al s0 n0))) (MH G A mo ad sl fi ai al) A) ([.ref mo, .int (nI s0)] : List Value).toArray s 0 0 A) 0 0 (MH G A mo ad sl fi ai al) 5 [some (.ref mo), some (.int (nI s0)), some (.long (filR al s0 i)), none, some (.int (nI i))] [] := by
    intro j
    induction j with
    | zero =>
      intro i hi
      have hi6 : i = n0 := by omega
      subst hi6
      refine k_iload (pc := 5) dX5_filterOf_5 rfl ?_
      refine k_aload_n (pc := 7) dX5_filterOf_7 rfl ?_
      refine mg_51 hst (pc := 8) dX5_filterOf_8 ?_
      refine k_iload_n (pc := 11) dX5_filterOf_11 rfl ?_
      refine m_iald hst rfl (pc := 12) dX5_filterOf_12 rfl (by simpa [mln] using hs) (by decide) ?_
      rw [hn]
      refine k_icmp_ge (tgt := 41) (pc := 13) dX5_filterOf_13 (by decide) (fun _ => ?_) (fun c => absurd (nI_le (Nat.le_refl _) (by omega)) c)
      refine k_lload_n (pc := 41) dX5_filterOf_41 rfl ?_
      exact k_lret (pc := 42) dX5_filterOf_42 rfl (fun _ h => h) (Nat.le_refl _) (Nat.le_refl _)
    | succ j ih =>
      intro i hi
      refine k_iload (pc := 5) dX5_filterOf_5 rfl ?_
      refine k_aload_n (pc := 7) dX5_filterOf_7 rfl ?_
      refine mg_51 hst (pc := 8) dX5_filterOf_8 ?_
      refine k_iload_n (pc := 11) dX5_filterOf_11 rfl ?_
      refine m_iald hst rfl (pc := 12) dX5_filterOf_12 rfl (by simpa [mln] using hs) (by decide) ?_
      rw [hn]
      refine k_icmp_ge (tgt := 41) (pc := 13) dX5_filterOf_13 (by decide) (fun c => absurd c (nI_ge (by omega) (by omega))) (fun _ => ?_)
      refine k_lload_n (pc := 16) dX5_filterOf_16 rfl ?_
      refine k_aload_n (pc := 17) dX5_filterOf_17 rfl ?_
      refine k_aload_n (pc := 18) dX5_filterOf_18 rfl ?_
      refine mg_36 hst (pc := 19) dX5_filterOf_19 ?_
      refine k_bipush (v := 8) (pc := 22) dX5_filterOf_22 (by decide) ?_
      refine k_iload_n (pc := 24) dX5_filterOf_24 rfl ?_
      refine k_imul (pc := 25) dX5_filterOf_25 ?_
      refine k_iload (pc := 26) dX5_filterOf_26 rfl ?_
      refine k_iadd (pc := 28) dX5_filterOf_28 ?_
      refine m_lald hst rfl (pc := 29) dX5_filterOf_29 (nI_8 s0 i) (by simp only [mln]; omega) (by decide) ?_
      refine k_callV sv_X5_85 (c_bitsOf hst (al 11 (8 * s0 + i))) (pc := 30) dX5_filterOf_30 rfl (mw_mo hst) rfl rfl (Nat.le_of_ble_eq_true rfl) (by decide) (by decide) (Nat.le_refl _) (Nat.le_refl _) ?_
      refine k_lor (pc := 33) dX5_filterOf_33 ?_
      refine k_lstore_n (pc := 34) dX5_filterOf_34 (by decide) rfl ?_
      refine k_iinc (pc := 35) dX5_filterOf_35 rfl (nI_inc _) (by decide) rfl ?_
      refine k_goto (tgt := 5) (pc := 38) dX5_filterOf_38 (by decide) ?_
      exact ih (i + 1) (by omega)
  refine k_lconst (v := 0) (pc := 0) dX5_filterOf_0 (by decide) ?_
  refine k_lstore_n (pc := 1) dX5_filterOf_1 (by decide) rfl ?_
  refine k_iconst (v := 0) (pc := 2) dX5_filterOf_2 (by decide) ?_
  refine k_istore (pc := 3) dX5_filterOf_3 (by decide) rfl ?_
  exact loop n0 0 (by omega)
def mayR (al : Nat → Nat → Int64) (key : Int64) (n : Nat) : Bool := filR al (setN key) n &&& bitI key == bitI key
theorem bI_nar (b : Bool) : narrow .boolean (.int (bI b)) = .int (bI b) := by cases b <;> rfl
set_option maxRecDepth 4000 in
theorem c_mayHave (hst : MSt mo ad sl) (key : Int64) (n0 : Nat) (hn : ai 16 (setN key) = nI n0) (hn8 : n0 ≤ 8) : Ct 3 0 0 yX5_mayHave cX5_mayHave 5 (some .boolean) G A [.ref mo, .long key] (MH G A mo ad sl fi ai al) (some (.int (bI (mayR al key n0)))) (MH G A mo ad sl fi ai al) := by
  refine Ct.of 2 rfl rfl (Nat.le_of_ble_eq_true rfl) ?_
  intro p l e s m below meth c hini
  refine k_aload_n (pc := 0) dX5_mayHave_0 rfl ?_
  refine k_lload_n (pc := 1) dX5_mayHave_1 rfl ?_
  refine k_callV sv_X5_85 (c_bitsOf hst key) (pc := 2) dX5_mayHave_2 rfl (mw_mo hst) rfl rfl (Nat.le_of_ble_eq_true rfl) (by decide) (by decide) (Nat.le_refl _) (Nat.le_refl _) ?_
  refine k_lstore_n (pc := 5) dX5_mayHave_5 (by decide) rfl ?_
  refine k_aload_n (pc := 6) dX5_mayHave_6 rfl ?_
  refine k_aload_n (pc := 7) dX5_mayHave_7 rfl ?_
  refine k_lload_n (pc := 8) dX5_mayHave_8 rfl ?_
  refine k_callV sv_X5_88 (c_setOf hst key) (pc := 9) dX5_mayHave_9 rfl (mw_mo hst) rfl rfl (Nat.le_of_ble_eq_true rfl) (by decide) (by decide) (Nat.le_refl _) (Nat.le_refl _) ?_
  refine k_callV sv_X5_92 (c_filterOf hst (setN key) n0 (setN_lt key) hn hn8) (pc := 12) dX5_mayHave_12 rfl (mw_mo hst) rfl rfl (Nat.le_of_ble_eq_true rfl) (by decide) (by decide) (Nat.le_refl _) (Nat.le_refl _) ?_
  refine k_lload_n (pc := 15) dX5_mayHave_15 rfl ?_
  refine k_land (pc := 16) dX5_mayHave_16 ?_
  refine k_lload_n (pc := 17) dX5_mayHave_17 rfl ?_
  refine k_lcmp (pc := 18) dX5_mayHave_18 ?_
  refine k_if_ne (tgt := 26) (pc := 19) dX5_mayHave_19 (by decide) (fun hc => ?_) (fun hc => ?_)
  · refine k_iconst (v := 0) (pc := 26) dX5_mayHave_26 (by decide) ?_
    exact k_zret (pc := 27) dX5_mayHave_27 (by simp [mayR, cmp_ne hc, bI]) (bI_nar _) (fun _ h => h) (Nat.le_refl _) (Nat.le_refl _)
  · refine k_iconst (v := 1) (pc := 22) dX5_mayHave_22 (by decide) ?_
    refine k_goto (tgt := 27) (pc := 23) dX5_mayHave_23 (by decide) ?_
    exact k_zret (pc := 27) dX5_mayHave_27 (by simp [mayR, cmp_eq hc, bI]) (bI_nar _) (fun _ h => h) (Nat.le_refl _) (Nat.le_refl _)
def inLogR (ai : Nat → Nat → Int32) (al : Nat → Nat → Int64) (key : Int64) : Nat → Int32
  | 0 => -1
  | k + 1 => if ai 4 k ≠ 0 ∧ al 0 k = key then nI k else inLogR ai al key k
set_option maxRecDepth 4000 in
theorem c_inLog (hst : MSt mo ad sl) (key : Int64) (n0 : Nat) (hn : fi 7 = nI n0) (hn7 : n0 ≤ 700) : Ct 0 0 0 yX5_inLog cX5_inLog 5 (some .int) G A [.ref mo, .long key] (MH G A mo ad sl fi ai al) (some (.int (inLogR ai al key n0))) (MH G A mo ad sl fi ai al) := by
  refine Ct.of 2 rfl rfl (Nat.le_of_ble_eq_true rfl) ?_
  intro p l e s m below meth c hini
  have loop : ∀ j i : Nat, i + j = n0 → K p l e s m ([.ref mo, .long key] : List Value).toArray below meth c (rmm 0 0 0) yX5_inLog.cls cX5_inLog 5 (some .int) G A (MQ below (Qd (some (.int (inLogR ai al key n0))) (MH G A mo ad sl fi ai al) A) ([.ref mo, .long key] : List Value).toArray s 0 0 A) 0 0 (MH G A mo ad sl fi ai al) 5 [some (.ref mo), some (.long key), none, some (.int (inLogR ai al key i)), some (.int (nI i))] [] := by
    intro j
    induction j with
    | zero =>
      intro i hi
      have hi6 : i = n0 := by omega
      subst hi6
      refine k_iload (pc := 5) dX5_inLog_5 rfl ?_
      refine k_aload_n (pc := 7) dX5_inLog_7 rfl ?_
      refine mg_96 hst (pc := 8) dX5_inLog_8 ?_
      rw [hn]
      refine k_icmp_ge (tgt := 49) (pc := 11) dX5_inLog_11 (by decide) (fun _ => ?_) (fun c => absurd (nI_le (Nat.le_refl _) (by omega)) c)
      refine k_iload_n (pc := 49) dX5_inLog_49 rfl ?_
      exact k_iret (pc := 50) dX5_inLog_50 rfl (fun _ h => h) (Nat.le_refl _) (Nat.le_refl _)
    | succ j ih =>
      intro i hi
      have step := ih (i + 1) (by omega)
      refine k_iload (pc := 5) dX5_inLog_5 rfl ?_
      refine k_aload_n (pc := 7) dX5_inLog_7 rfl ?_
      refine mg_96 hst (pc := 8) dX5_inLog_8 ?_
      rw [hn]
      refine k_icmp_ge (tgt := 49) (pc := 11) dX5_inLog_11 (by decide) (fun c => absurd c (nI_ge (by omega) (by omega))) (fun _ => ?_)
      refine k_aload_n (pc := 14) dX5_inLog_14 rfl ?_
      refine mg_23 hst (pc := 15) dX5_inLog_15 ?_
      refine k_iload (pc := 18) dX5_inLog_18 rfl ?_
      refine m_zald hst rfl (pc := 20) dX5_inLog_20 rfl (by simp only [mln]; omega) (by decide) ?_
      refine k_if_eq (tgt := 41) (pc := 21) dX5_inLog_21 (by decide) (fun h1 => ?_) (fun h1 => ?_)
      · rw [show inLogR ai al key (i + 1) = inLogR ai al key i by simp [inLogR, h1]] at step
        refine k_iload_n (pc := 41) dX5_inLog_41 rfl ?_
        refine k_istore_n (pc := 42) dX5_inLog_42 (by decide) rfl ?_
        refine k_iinc (pc := 43) dX5_inLog_43 rfl (nI_inc _) (by decide) rfl ?_
        refine k_goto (tgt := 5) (pc := 46) dX5_inLog_46 (by decide) ?_
        exact step
      · refine k_aload_n (pc := 24) dX5_inLog_24 rfl ?_
        refine mg_7 hst (pc := 25) dX5_inLog_25 ?_
        refine k_iload (pc := 28) dX5_inLog_28 rfl ?_
        refine m_lald hst rfl (pc := 30) dX5_inLog_30 rfl (by simp only [mln]; omega) (by decide) ?_
        refine k_lload_n (pc := 31) dX5_inLog_31 rfl ?_
        refine k_lcmp (pc := 32) dX5_inLog_32 ?_
        refine k_if_ne (tgt := 41) (pc := 33) dX5_inLog_33 (by decide) (fun h2 => ?_) (fun h2 => ?_)
        · rw [show inLogR ai al key (i + 1) = inLogR ai al key i by simp [inLogR, cmp_ne h2]] at step
          refine k_iload_n (pc := 41) dX5_inLog_41 rfl ?_
          refine k_istore_n (pc := 42) dX5_inLog_42 (by decide) rfl ?_
          refine k_iinc (pc := 43) dX5_inLog_43 rfl (nI_inc _) (by decide) rfl ?_
          refine k_goto (tgt := 5) (pc := 46) dX5_inLog_46 (by decide) ?_
          exact step
        · rw [show inLogR ai al key (i + 1) = nI i by simp [inLogR, h1, cmp_eq h2]] at step
          refine k_iload (pc := 36) dX5_inLog_36 rfl ?_
          refine k_goto (tgt := 42) (pc := 38) dX5_inLog_38 (by decide) ?_
          refine k_istore_n (pc := 42) dX5_inLog_42 (by decide) rfl ?_
          refine k_iinc (pc := 43) dX5_inLog_43 rfl (nI_inc _) (by decide) rfl ?_
          refine k_goto (tgt := 5) (pc := 46) dX5_inLog_46 (by decide) ?_
          exact step
  refine k_iconst (v := -1) (pc := 0) dX5_inLog_0 (by decide) ?_
  refine k_istore_n (pc := 1) dX5_inLog_1 (by decide) rfl ?_
  refine k_iconst (v := 0) (pc := 2) dX5_inLog_2 (by decide) ?_
  refine k_istore (pc := 3) dX5_inLog_3 (by decide) rfl ?_
  exact loop n0 0 (by omega)
def inPageR (al : Nat → Nat → Int64) (key : Int64) (s n : Nat) : Nat → Int32
  | 0 => -1
  | j + 1 => if al 11 (8 * s + (n - (j + 1))) = key then nI (8 * s + (n - (j + 1))) else inPageR al key s n j
set_option maxRecDepth 4000 in
theorem c_inPage (hst : MSt mo ad sl) (key : Int64) (n0 : Nat) (hn : ai 16 (setN key) = nI n0) (hn8 : n0 ≤ 8) : Ct 2 0 0 yX5_inPage cX5_inPage 5 (some .int) G A [.ref mo, .long key] (MH G A mo ad sl fi ai al) (some (.int (inPageR al key (setN key) n0 n0))) (MH G A mo ad sl fi ai al) := by
  refine Ct.of 2 rfl rfl (Nat.le_of_ble_eq_true rfl) ?_
  intro p l e s m below meth c hini
  have hs := setN_lt key
  have loop : ∀ j i : Nat, i + j = n0 → inPageR al key (setN key) n0 j = inPageR al key (setN key) n0 n0 → K p l e s m ([.ref mo, .long key] : List Value).toArray below meth c (rmm 2 0 0) yX5_inPage.cls cX5_inPage 5 (some .int) G A (MQ below (Qd (some (.int (inPageR al key (setN key) n0 n0))) (MH G A mo ad sl fi ai al) A) ([.ref mo, .long key] : List Value).toArray s 0 0 A) 0 0 (MH G A mo ad sl fi ai al) 9 [some (.ref mo), some (.long key), none, some (.int (nI (setN key))), some (.int (nI i))] [] := by
    intro j
    induction j with
    | zero =>
      intro i hi hr
      have hi6 : i = n0 := by omega
      subst hi6
      refine k_iload (pc := 9) dX5_inPage_9 rfl ?_
      refine k_aload_n (pc := 11) dX5_inPage_11 rfl ?_
      refine mg_51 hst (pc := 12) dX5_inPage_12 ?_
      refine k_iload_n (pc := 15) dX5_inPage_15 rfl ?_
      refine m_iald hst rfl (pc := 16) dX5_inPage_16 rfl hs (by decide) ?_
      rw [hn]
      refine k_icmp_ge (tgt := 51) (pc := 17) dX5_inPage_17 (by decide) (fun _ => ?_) (fun c => absurd (nI_le (Nat.le_refl _) (by omega)) c)
      refine k_iconst (v := -1) (pc := 51) dX5_inPage_51 (by decide) ?_
      exact k_iret (pc := 52) dX5_inPage_52 hr (fun _ h => h) (Nat.le_refl _) (Nat.le_refl _)
    | succ j ih =>
      intro i hi hr
      have hij : n0 - (j + 1) = i := by omega
      simp only [inPageR, hij] at hr
      refine k_iload (pc := 9) dX5_inPage_9 rfl ?_
      refine k_aload_n (pc := 11) dX5_inPage_11 rfl ?_
      refine mg_51 hst (pc := 12) dX5_inPage_12 ?_
      refine k_iload_n (pc := 15) dX5_inPage_15 rfl ?_
      refine m_iald hst rfl (pc := 16) dX5_inPage_16 rfl hs (by decide) ?_
      rw [hn]
      refine k_icmp_ge (tgt := 51) (pc := 17) dX5_inPage_17 (by decide) (fun c => absurd c (nI_ge (by omega) (by omega))) (fun _ => ?_)
      refine k_aload_n (pc := 20) dX5_inPage_20 rfl ?_
      refine mg_36 hst (pc := 21) dX5_inPage_21 ?_
      refine k_bipush (v := 8) (pc := 24) dX5_inPage_24 (by decide) ?_
      refine k_iload_n (pc := 26) dX5_inPage_26 rfl ?_
      refine k_imul (pc := 27) dX5_inPage_27 ?_
      refine k_iload (pc := 28) dX5_inPage_28 rfl ?_
      refine k_iadd (pc := 30) dX5_inPage_30 ?_
      refine m_lald hst rfl (pc := 31) dX5_inPage_31 (nI_8 (setN key) i) (by simp only [mln]; omega) (by decide) ?_
      refine k_lload_n (pc := 32) dX5_inPage_32 rfl ?_
      refine k_lcmp (pc := 33) dX5_inPage_33 ?_
      refine k_if_ne (tgt := 45) (pc := 34) dX5_inPage_34 (by decide) (fun h2 => ?_) (fun h2 => ?_)
      · rw [if_neg (cmp_ne h2)] at hr
        refine k_iinc (pc := 45) dX5_inPage_45 rfl (nI_inc _) (by decide) rfl ?_
        refine k_goto (tgt := 9) (pc := 48) dX5_inPage_48 (by decide) ?_
        exact ih (i + 1) (by omega) hr
      · rw [if_pos (cmp_eq h2)] at hr
        refine k_bipush (v := 8) (pc := 37) dX5_inPage_37 (by decide) ?_
        refine k_iload_n (pc := 39) dX5_inPage_39 rfl ?_
        refine k_imul (pc := 40) dX5_inPage_40 ?_
        refine k_iload (pc := 41) dX5_inPage_41 rfl ?_
        refine k_iadd (pc := 43) dX5_inPage_43 ?_
        exact k_iret (pc := 44) dX5_inPage_44 ((nI_8 (setN key) i).trans hr) (fun _ h => h) (Nat.le_refl _) (Nat.le_refl _)
  refine k_aload_n (pc := 0) dX5_inPage_0 rfl ?_
  refine k_lload_n (pc := 1) dX5_inPage_1 rfl ?_
  refine k_callV sv_X5_88 (c_setOf hst key) (pc := 2) dX5_inPage_2 rfl (mw_mo hst) rfl rfl (Nat.le_of_ble_eq_true rfl) (by decide) (by decide) (Nat.le_refl _) (Nat.le_refl _) ?_
  refine k_istore_n (pc := 5) dX5_inPage_5 (by decide) rfl ?_
  refine k_iconst (v := 0) (pc := 6) dX5_inPage_6 (by decide) ?_
  refine k_istore (pc := 7) dX5_inPage_7 (by decide) rfl ?_
  exact loop n0 0 (by omega) rfl
end REFA
