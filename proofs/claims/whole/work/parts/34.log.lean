theorem CWF.row {ad kd : Nat → Nat} {σ : CS} (h : CWF ad kd σ) {r : Nat} {L : List (Option Nat)} (hw : RW kd L) (hn : r ≠ ad 8 → none ∉ L) : CWF ad kd (zRr σ r L) := by
  obtain ⟨⟨h1, h2⟩, h3⟩ := h
  refine ⟨⟨fun q hq => ?_, fun q hq hne => ?_⟩, h3⟩
  · by_cases hqr : q = r
    · subst hqr; rw [zRr_same]; exact hw
    · rw [zRr_ne hqr]; exact h1 q hq
  · by_cases hqr : q = r
    · subst hqr; rw [zRr_same]; exact hn hne
    · rw [zRr_ne hqr]; exact h2 q hq hne
theorem CWF.nil {ad kd : Nat → Nat} {σ : CS} (h : CWF ad kd σ) {r : Nat} : CWF ad kd (zRr σ r []) := h.row (fun a ha => by cases ha) (fun _ ha => by cases ha)
theorem CWF.kill {ad kd : Nat → Nat} {σ : CS} (h : CWF ad kd σ) (o : Option Nat) : CWF ad kd (killC σ o).1 := by
  unfold killC
  split
  · split
    · exact h
    · exact h
  · exact h
theorem killC_R (σ : CS) (o : Option Nat) : xR (killC σ o).1 = xR σ := by
  unfold killC
  split
  · split <;> rfl
  · rfl
theorem killC_M (σ : CS) (o : Option Nat) : xM (killC σ o).1 = xM σ := by
  unfold killC
  split
  · split <;> rfl
  · rfl
theorem CWF.kills {ad kd : Nat → Nat} : ∀ (os : List (Option Nat)) {σ : CS}, CWF ad kd σ → CWF ad kd (killsC os σ) := by
  intro os
  induction os with
  | nil => intro σ h; exact h
  | cons o os ih => intro σ h; exact ih (h.kill o)
theorem killsC_R : ∀ (os : List (Option Nat)) (σ : CS), xR (killsC os σ) = xR σ := by
  intro os
  induction os with
  | nil => intro σ; rfl
  | cons o os ih => intro σ; exact (ih _).trans (killC_R σ o)
theorem killsC_M : ∀ (os : List (Option Nat)) (σ : CS), xM (killsC os σ) = xM σ := by
  intro os
  induction os with
  | nil => intro σ; rfl
  | cons o os ih => intro σ; exact (ih _).trans (killC_M σ o)
theorem killsC_snoc : ∀ (os : List (Option Nat)) (o : Option Nat) (σ : CS), killsC (os ++ [o]) σ = (killC (killsC os σ) o).1 := by
  intro os
  induction os with
  | nil => intro o σ; rfl
  | cons o1 os ih => intro o σ; exact ih o _
theorem pgi {h w : Nat} : nI h * 4 + nI w = nI (4 * h + w) := by
  rw [Nat.mul_comm]
  simp [nI, Int32.ofNat_add, Int32.ofNat_mul]
theorem CWF.wop {ad kd : Nat → Nat} {σ : CS} (h : CWF ad kd σ) : CWF ad kd (wopC σ) := by
  unfold wopC
  split
  · next hlt =>
    obtain ⟨h1, h2, h3, h4, h5, h6, h7, h8, h9⟩ := h
    have hp : 4 * xH σ + xW σ (xH σ) < 32 := by omega
    refine CWF.nil ?_
    refine ⟨h1, ?_, ?_, h4, ?_, ?_, ?_, ?_, ?_⟩
    · intro j hj
      show kd (va_up (xG σ) _ (xO σ) j) = 2
      unfold va_up
      split
      · exact h3
      · exact h2 j hj
    · exact h2 _ hp
    · intro j
      show va_up (xW σ) _ _ j ≤ 4
      unfold va_up
      split
      · omega
      · exact h5 j
    · intro j hj i h8i hi
      show va_up (xG σ) _ (xO σ) j ≠ ad i
      unfold va_up
      split
      · exact h7 i h8i hi
      · exact h6 j hj i h8i hi
    · intro i h8i hi
      exact h6 _ hp i h8i hi
    · intro j hj
      show va_up (xG σ) _ (xO σ) j ≠ xG σ _
      unfold va_up
      split
      · exact Ne.symm (h8 _ hp)
      · next hne => exact fun z => hne (h9 j _ hj hp z)
    · intro i j hi hj
      show va_up (xG σ) _ (xO σ) i = va_up (xG σ) _ (xO σ) j → i = j
      unfold va_up
      split
      · next hie =>
        split
        · next hje => intro _; rw [hie, hje]
        · intro z; exact absurd z.symm (h8 j hj)
      · split
        · intro z; exact absurd z (h8 i hi)
        · exact h9 i j hi hj
  · exact h.nil
theorem wopC_ad {ad kd : Nat → Nat} {σ : CS} (h : CWF ad kd σ) {i : Nat} (h8 : 8 ≤ i) (hi : i < 75) : xR (wopC σ) (ad i) = xR σ (ad i) := by
  unfold wopC
  split
  · rw [zRr_ne (Ne.symm (h.2.2.2.2.2.1 _ (by have := h.2.2.2.1; omega) i h8 hi))]; rfl
  · rw [zRr_ne (Ne.symm (h.2.2.2.2.2.2.1 i h8 hi))]
section LOGB
variable {p : Program} {l : Launch} {e : Env} {s : State} {m : MethodId} {args : Array Value} {below : List Frame} {meth : Method} {c : Code} {R : Room} {G : Gd} {A : Nat → Prop} {Q : State → Prop} {k n : Nat} {ad ar ow cap kd : Nat → Nat} {it : Nat → Da} {σ : CS} {I0 : Heap → Prop}
set_option maxRecDepth 4000 in
theorem l_killS (hst : CSt ad ar ow cap kd) (a : Nat) (ha : kd a = 1) : Ct 0 0 0 yX1_kill cX1_kill 2 (some .boolean) G A [.ref (ad 2), .ref a] (CH G A ad ar ow cap kd it σ) (some (.int (bI (killC σ (some a)).2))) (CH G A ad ar ow cap kd it (killC σ (some a)).1) := by
  refine Ct.of 0 rfl rfl (Nat.le_of_ble_eq_true rfl) ?_
  intro p l e s m below meth c hini
  cases hI : xI σ a with
  | false =>
    have hk : killC σ (some a) = (σ, false) := by simp [killC, hI]
    rw [hk]
    refine k_aload_n (pc := 0) dX1_kill_0 rfl ?_
    refine k_ifnull (pc := 1) dX1_kill_1 ?_
    refine k_aload_n (pc := 4) dX1_kill_4 rfl ?_
    refine h_X1_45 ha (pc := 5) dX1_kill_5 ?_
    rw [hI]
    refine k_if_ne (tgt := 13) (pc := 8) dX1_kill_8 (by decide) (fun c => absurd ((show bI false = 0 by decide)) c) (fun _ => ?_)
    refine k_iconst (v := 0) (pc := 11) dX1_kill_11 (by decide) ?_
    exact k_zret (pc := 12) dX1_kill_12 rfl (bI_nar _) (fun _ h => h) (Nat.le_refl _) (Nat.le_refl _)
  | true =>
    have hk : killC σ (some a) = (zV (zI σ (va_up (xI σ) a false)) (xV σ - 1), true) := by simp [killC, hI]
    rw [hk]
    refine k_aload_n (pc := 0) dX1_kill_0 rfl ?_
    refine k_ifnull (pc := 1) dX1_kill_1 ?_
    refine k_aload_n (pc := 4) dX1_kill_4 rfl ?_
    refine h_X1_45 ha (pc := 5) dX1_kill_5 ?_
    rw [hI]
    refine k_if_ne (tgt := 13) (pc := 8) dX1_kill_8 (by decide) (fun _ => ?_) (fun c => absurd c ((show ¬ bI true = 0 by decide)))
    refine k_aload_n (pc := 13) dX1_kill_13 rfl ?_
    refine k_iconst (v := 0) (pc := 14) dX1_kill_14 (by decide) ?_
    refine hp_X1_45 ha (show (0 : Int32) = bI false from rfl) (pc := 15) dX1_kill_15 ?_
    refine k_aload_n (pc := 18) dX1_kill_18 rfl ?_
    refine k_dup (pc := 19) dX1_kill_19 rfl ?_
    refine h_X1_51 hst (pc := 20) dX1_kill_20 ?_
    refine k_iconst (v := 1) (pc := 23) dX1_kill_23 (by decide) ?_
    refine k_isub (pc := 24) dX1_kill_24 ?_
    refine hp_X1_51 hst rfl (pc := 25) dX1_kill_25 ?_
    refine k_iconst (v := 1) (pc := 28) dX1_kill_28 (by decide) ?_
    exact k_zret (pc := 29) dX1_kill_29 rfl (bI_nar true) (fun _ h => h) (Nat.le_refl _) (Nat.le_refl _)
set_option maxRecDepth 4000 in
theorem l_killN (hst : CSt ad ar ow cap kd)  : Ct 0 0 0 yX1_kill cX1_kill 2 (some .boolean) G A [.ref (ad 2), .null] (CH G A ad ar ow cap kd it σ) (some (.int (bI (killC σ none).2))) (CH G A ad ar ow cap kd it (killC σ none).1) := by
  refine Ct.of 0 rfl rfl (Nat.le_of_ble_eq_true rfl) ?_
  intro p l e s m below meth c hini
  refine k_aload_nN (pc := 0) dX1_kill_0 rfl ?_
  refine k_ifnullN (tgt := 11) (pc := 1) dX1_kill_1 (by decide) ?_
  refine k_iconst (v := 0) (pc := 11) dX1_kill_11 (by decide) ?_
  exact k_zret (pc := 12) dX1_kill_12 rfl (bI_nar _) (fun _ h => h) (Nat.le_refl _) (Nat.le_refl _)
theorem l_kill (hst : CSt ad ar ow cap kd) (o : Option Nat) (ho : ∀ a, o = some a → kd a = 1) : Ct 0 0 0 yX1_kill cX1_kill 2 (some .boolean) G A [.ref (ad 2), va_rf o] (CH G A ad ar ow cap kd it σ) (some (.int (bI (killC σ o).2))) (CH G A ad ar ow cap kd it (killC σ o).1) := by
  cases o with
  | none => exact l_killN hst
  | some a => exact l_killS hst a (ho a rfl)
set_option maxRecDepth 4000 in
theorem l_wop (hst : CSt ad ar ow cap kd) (hc : CWF ad kd σ) : Ct 1 0 0 yX1_writeOpenPage cX1_writeOpenPage 3 (none) G A [.ref (ad 2)] (CH G A ad ar ow cap kd it σ) (none) (CH G A ad ar ow cap kd it (wopC σ)) := by
  refine Ct.of 2 rfl rfl (Nat.le_of_ble_eq_true rfl) ?_
  intro p l e s m below meth c hini
  have hh := hc.2.2.2.1
  have hw4 := hc.2.2.2.2.1 (xH σ)
  refine k_aload_n (pc := 0) dX1_writeOpenPage_0 rfl ?_
  refine h_X1_28 hst (pc := 1) dX1_writeOpenPage_1 ?_
  refine k_aload_n (pc := 4) dX1_writeOpenPage_4 rfl ?_
  refine h_X1_62 hst (pc := 5) dX1_writeOpenPage_5 ?_
  refine wr_ld hst (pc := 8) dX1_writeOpenPage_8 rfl hh ?_
  refine k_iconst (v := 4) (pc := 9) dX1_writeOpenPage_9 (by decide) ?_
  by_cases hlt : xW σ (xH σ) < 4
  · have hp : 4 * xH σ + xW σ (xH σ) < 32 := by omega
    have hwp : wopC σ = zRr (zT (zW (zO (zG σ (va_up (xG σ) (4 * xH σ + xW σ (xH σ)) (xO σ))) (xG σ (4 * xH σ + xW σ (xH σ)))) (va_up (xW σ) (xH σ) (xW σ (xH σ) + 1))) (inc (xT σ) 1)) (xG σ (4 * xH σ + xW σ (xH σ))) [] := if_pos hlt
    rw [hwp]
    refine k_icmp_ge (tgt := 75) (pc := 10) dX1_writeOpenPage_10 (by decide) (fun c => absurd c (nI_ge (a := xW σ (xH σ)) (b := 4) (by omega) (by decide))) (fun _ => ?_)
    refine k_aload_n (pc := 13) dX1_writeOpenPage_13 rfl ?_
    refine h_X1_62 hst (pc := 14) dX1_writeOpenPage_14 ?_
    refine k_iconst (v := 4) (pc := 17) dX1_writeOpenPage_17 (by decide) ?_
    refine k_imul (pc := 18) dX1_writeOpenPage_18 ?_
    refine k_aload_n (pc := 19) dX1_writeOpenPage_19 rfl ?_
    refine h_X1_28 hst (pc := 20) dX1_writeOpenPage_20 ?_
    refine k_aload_n (pc := 23) dX1_writeOpenPage_23 rfl ?_
    refine h_X1_62 hst (pc := 24) dX1_writeOpenPage_24 ?_
    refine wr_ld hst (pc := 27) dX1_writeOpenPage_27 rfl hh ?_
    refine k_iadd (pc := 28) dX1_writeOpenPage_28 ?_
    refine k_istore_n (pc := 29) dX1_writeOpenPage_29 (by decide) rfl ?_
    refine k_aload_n (pc := 30) dX1_writeOpenPage_30 rfl ?_
    refine h_X1_21 hst (pc := 31) dX1_writeOpenPage_31 ?_
    refine k_iload_n (pc := 34) dX1_writeOpenPage_34 rfl ?_
    refine rg_ld hst (pc := 35) dX1_writeOpenPage_35 pgi hp ?_
    refine k_astore_n (pc := 36) dX1_writeOpenPage_36 (by decide) rfl ?_
    refine k_aload_n (pc := 37) dX1_writeOpenPage_37 rfl ?_
    refine h_X1_21 hst (pc := 38) dX1_writeOpenPage_38 ?_
    refine k_iload_n (pc := 41) dX1_writeOpenPage_41 rfl ?_
    refine k_aload_n (pc := 42) dX1_writeOpenPage_42 rfl ?_
    refine h_X1_31 hst (pc := 43) dX1_writeOpenPage_43 ?_
    refine rg_st hst hc.2.2.1 rfl (pc := 46) dX1_writeOpenPage_46 pgi hp ?_
    refine k_aload_n (pc := 47) dX1_writeOpenPage_47 rfl ?_
    refine k_aload_n (pc := 48) dX1_writeOpenPage_48 rfl ?_
    refine hp_X1_31 hst rfl (pc := 49) dX1_writeOpenPage_49 ?_
    refine k_aload_n (pc := 52) dX1_writeOpenPage_52 rfl ?_
    refine h_X1_28 hst (pc := 53) dX1_writeOpenPage_53 ?_
    refine k_aload_n (pc := 56) dX1_writeOpenPage_56 rfl ?_
    refine h_X1_62 hst (pc := 57) dX1_writeOpenPage_57 ?_
    refine k_dup2 (pc := 60) dX1_writeOpenPage_60 rfl rfl ?_
    refine wr_ld hst (pc := 61) dX1_writeOpenPage_61 rfl hh ?_
    refine k_iconst (v := 1) (pc := 62) dX1_writeOpenPage_62 (by decide) ?_
    refine k_iadd (pc := 63) dX1_writeOpenPage_63 ?_
    refine wr_st hst (show _ = Value.int (nI (xW σ (xH σ) + 1)) from by rw [← nI_1]; rfl) (pc := 64) dX1_writeOpenPage_64 rfl hh ?_
    refine k_aload_n (pc := 65) dX1_writeOpenPage_65 rfl ?_
    refine h_X1_15 hst (pc := 66) dX1_writeOpenPage_66 ?_
    refine k_iconst (v := 1) (pc := 69) dX1_writeOpenPage_69 (by decide) ?_
    refine k_dup2 (pc := 70) dX1_writeOpenPage_70 rfl rfl ?_
    refine ta_ld hst (pc := 71) dX1_writeOpenPage_71 (show (1 : Int32) = nI 1 from rfl) (by decide) ?_
    refine k_iconst (v := 1) (pc := 72) dX1_writeOpenPage_72 (by decide) ?_
    refine k_iadd (pc := 73) dX1_writeOpenPage_73 ?_
    refine ta_st hst rfl (pc := 74) dX1_writeOpenPage_74 (show (1 : Int32) = nI 1 from rfl) (by decide) ?_
    refine k_aload_n (pc := 75) dX1_writeOpenPage_75 rfl ?_
    refine h_X1_31 hst (pc := 76) dX1_writeOpenPage_76 ?_
    have hk2 := hc.2.1 _ hp
    refine k_callC2 sv_X1_72 hk2 (r_clear hst hk2) (pc := 79) dX1_writeOpenPage_79 rfl rfl (Nat.le_of_ble_eq_true rfl) (by decide) (by decide) (Nat.le_refl _) (Nat.le_refl _) ?_
    exact k_vret (pc := 82) dX1_writeOpenPage_82 (fun _ h => h) (Nat.le_refl _) (Nat.le_refl _)
  · have hwp : wopC σ = zRr σ (xO σ) [] := if_neg hlt
    rw [hwp]
    have h4 : xW σ (xH σ) = 4 := by omega
    rw [h4]
    refine k_icmp_ge (tgt := 75) (pc := 10) dX1_writeOpenPage_10 (by decide) (fun _ => ?_) (fun c => absurd (by decide) c)
    refine k_aload_n (pc := 75) dX1_writeOpenPage_75 rfl ?_
    refine h_X1_31 hst (pc := 76) dX1_writeOpenPage_76 ?_
    refine k_callC2 sv_X1_72 hc.2.2.1 (r_clear hst hc.2.2.1) (pc := 79) dX1_writeOpenPage_79 rfl rfl (Nat.le_of_ble_eq_true rfl) (by decide) (by decide) (Nat.le_refl _) (Nat.le_refl _) ?_
    exact k_vret (pc := 82) dX1_writeOpenPage_82 (fun _ h => h) (Nat.le_refl _) (Nat.le_refl _)
theorem pk_ring {h i : Nat} (hh : h < 8) (hi : i < 32) : nI (h + 1) * 4 + nI i - (nI (h + 1) * 4 + nI i) / 32 * 32 = nI ((4 * (h + 1) + i) % 32) := by
  rw [pgi, show (32 : Int32) = nI 32 from rfl]
  exact pk_rem (by omega) (by decide) (by decide)
set_option maxRecDepth 4000 in
theorem l_gather (hst : CSt ad ar ow cap kd) (hc : CWF ad kd σ) (s0 i0 : Nat) (hs : s0 < 64) (hi0 : i0 ≤ (xR σ (ad 10)).length) : Ct 2 0 0 yX1_gather cX1_gather 5 (none) G A [.ref (ad 2), .int (nI s0), .int (nI i0)] (CH G A ad ar ow cap kd it σ) (none) (CH G A ad ar ow cap kd it (gatherC ad cap it σ s0 i0)) := by
  refine Ct.of 2 rfl rfl (Nat.le_of_ble_eq_true rfl) ?_
  intro p l e s m below meth c hini
  have h9 : kd (ad 9) = 2 := kd_row hst (by decide) (by decide)
  have h10 : kd (ad 10) = 2 := kd_row hst (by decide) (by decide)
  have hh := hc.2.2.2.1
  have loop : ∀ j i : Nat, i + j = 32 → K p l e s m ([.ref (ad 2), .int (nI s0), .int (nI i0)] : List Value).toArray below meth c (rmm 2 0 0) yX1_gather.cls cX1_gather 5 (none) G A (MQ below (Qd (none) (CH G A ad ar ow cap kd it (gatherC ad cap it σ s0 i0)) A) ([.ref (ad 2), .int (nI s0), .int (nI i0)] : List Value).toArray s 0 0 A) 0 0 (CH G A ad ar ow cap kd it (zRr σ (ad 9) (addsR (cap (ad 9)) [] (((xR σ (ad 10)).drop i0).filter (selO it (xI σ) s0) ++ ringL σ (selO it (xI σ) s0) i)))) 32 [some (.ref (ad 2)), some (.int (nI s0)), some (.int (nI i0)), some (.int (nI (xH σ + 1) * 4)), some (.int (nI i))] [] := by
    intro j
    induction j with
    | zero =>
      intro i hi
      have hi6 : i = 32 := by omega
      subst hi6
      refine k_iload (pc := 32) dX1_gather_32 rfl ?_
      refine k_bipush (v := 32) (pc := 34) dX1_gather_34 (by decide) ?_
      refine k_icmp_ge (tgt := 66) (pc := 36) dX1_gather_36 (by decide) (fun _ => ?_) (fun c => absurd (by decide) c)
      have hadd := r_addInLog (G := G) (A := A) (it := it) (σ := zRr σ (ad 9) (addsR (cap (ad 9)) [] (((xR σ (ad 10)).drop i0).filter (selO it (xI σ) s0) ++ ringL σ (selO it (xI σ) s0) 32))) hst h9 hc.2.2.1 (hc.2.2.2.2.2.2.1 9 (by decide) (by decide)) (by rw [zRr_ne (hc.2.2.2.2.2.2.1 9 (by decide) (by decide))]; exact hc.1.1 _ hc.2.2.1) 0 s0 (Nat.zero_le _) hs
      rw [zRr_same, zRr_zRr, zRr_ne (hc.2.2.2.2.2.2.1 9 (by decide) (by decide)), addsR_app, List.drop_zero] at hadd
      refine k_aload_n (pc := 66) dX1_gather_66 rfl ?_
      refine h_X1_38 hst (pc := 67) dX1_gather_67 ?_
      refine k_aload_n (pc := 70) dX1_gather_70 rfl ?_
      refine h_X1_31 hst (pc := 71) dX1_gather_71 ?_
      refine k_iconst (v := 0) (pc := 74) dX1_gather_74 (by decide) ?_
      refine k_iload_n (pc := 75) dX1_gather_75 rfl ?_
      refine k_callC2 sv_X1_122 h9 (hadd) (pc := 76) dX1_gather_76 rfl rfl (Nat.le_of_ble_eq_true rfl) (by decide) (by decide) (Nat.le_refl _) (Nat.le_refl _) ?_
      exact k_vret (pc := 79) dX1_gather_79 (fun _ h => h) (Nat.le_refl _) (Nat.le_refl _)
    | succ j ih =>
      intro i hi
      have hi32 : i < 32 := by omega
      have step := ih (i + 1) (by omega)
      have hix : (4 * (xH σ + 1) + i) % 32 < 32 := Nat.mod_lt _ (by decide)
      have hgk := hc.2.1 _ hix
      have hne := hc.2.2.2.2.2.1 _ hix 9 (by decide) (by decide)
      have hadd := r_addInLog (G := G) (A := A) (it := it) (σ := zRr σ (ad 9) (addsR (cap (ad 9)) [] (((xR σ (ad 10)).drop i0).filter (selO it (xI σ) s0) ++ ringL σ (selO it (xI σ) s0) i))) hst h9 hgk hne (by rw [zRr_ne hne]; exact hc.1.1 _ hgk) 0 s0 (Nat.zero_le _) hs
      rw [zRr_same, zRr_zRr, zRr_ne hne, addsR_app, List.drop_zero, List.append_assoc] at hadd
      refine k_iload (pc := 32) dX1_gather_32 rfl ?_
      refine k_bipush (v := 32) (pc := 34) dX1_gather_34 (by decide) ?_
      refine k_icmp_ge (tgt := 66) (pc := 36) dX1_gather_36 (by decide) (fun c => absurd c (nI_ge (a := i) (b := 32) (by omega) (by decide))) (fun _ => ?_)
      refine k_aload_n (pc := 39) dX1_gather_39 rfl ?_
      refine h_X1_38 hst (pc := 40) dX1_gather_40 ?_
      refine k_aload_n (pc := 43) dX1_gather_43 rfl ?_
      refine h_X1_21 hst (pc := 44) dX1_gather_44 ?_
      refine k_iload_n (pc := 47) dX1_gather_47 rfl ?_
      refine k_iload (pc := 48) dX1_gather_48 rfl ?_
      refine k_iadd (pc := 50) dX1_gather_50 ?_
      refine k_bipush (v := 32) (pc := 51) dX1_gather_51 (by decide) ?_
      refine k_irem (pc := 53) dX1_gather_53 (by decide) ?_
      refine rg_ld hst (pc := 54) dX1_gather_54 (pk_ring hh hi32) hix ?_
      refine k_iconst (v := 0) (pc := 55) dX1_gather_55 (by decide) ?_
      refine k_iload_n (pc := 56) dX1_gather_56 rfl ?_
      refine k_callC2 sv_X1_122 h9 (hadd) (pc := 57) dX1_gather_57 rfl rfl (Nat.le_of_ble_eq_true rfl) (by decide) (by decide) (Nat.le_refl _) (Nat.le_refl _) ?_
      refine k_iinc (pc := 60) dX1_gather_60 rfl (nI_inc _) (by decide) rfl ?_
      refine k_goto (tgt := 32) (pc := 63) dX1_gather_63 (by decide) ?_
      exact step
  have l0 := loop 32 0 (by omega)
  rw [show ringL σ (selO it (xI σ) s0) 0 = [] from rfl, List.append_nil] at l0
  have hadd := r_addInLog (G := G) (A := A) (it := it) (σ := zRr σ (ad 9) []) hst h9 h10 (adne hst (by decide) (by decide) (by decide)) (by rw [zRr_ne (adne hst (by decide) (by decide) (by decide))]; exact hc.1.1 _ h10) i0 s0 (by rw [zRr_ne (adne hst (by decide) (by decide) (by decide))]; exact hi0) hs
  rw [zRr_same, zRr_zRr, zRr_ne (adne hst (i := 10) (j := 9) (by decide) (by decide) (by decide)), show xI (zRr σ (ad 9) []) = xI σ from rfl] at hadd
  refine k_aload_n (pc := 0) dX1_gather_0 rfl ?_
  refine h_X1_38 hst (pc := 1) dX1_gather_1 ?_
  refine k_callC2 sv_X1_72 h9 (r_clear hst h9) (pc := 4) dX1_gather_4 rfl rfl (Nat.le_of_ble_eq_true rfl) (by decide) (by decide) (Nat.le_refl _) (Nat.le_refl _) ?_
  refine k_aload_n (pc := 7) dX1_gather_7 rfl ?_
  refine h_X1_38 hst (pc := 8) dX1_gather_8 ?_
  refine k_aload_n (pc := 11) dX1_gather_11 rfl ?_
  refine h_X1_35 hst (pc := 12) dX1_gather_12 ?_
  refine k_iload_n (pc := 15) dX1_gather_15 rfl ?_
  refine k_iload_n (pc := 16) dX1_gather_16 rfl ?_
  refine k_callC2 sv_X1_122 h9 (hadd) (pc := 17) dX1_gather_17 rfl rfl (Nat.le_of_ble_eq_true rfl) (by decide) (by decide) (Nat.le_refl _) (Nat.le_refl _) ?_
  refine k_aload_n (pc := 20) dX1_gather_20 rfl ?_
  refine h_X1_62 hst (pc := 21) dX1_gather_21 ?_
  refine k_iconst (v := 1) (pc := 24) dX1_gather_24 (by decide) ?_
  rw [show nI (xH (zRr σ (ad 9) (addsR (cap (ad 9)) [] (((xR σ (ad 10)).drop i0).filter (selO it (xI σ) s0))))) = nI (xH σ) from rfl]
  refine k_iadd (pc := 25) dX1_gather_25 ?_
  rw [nI_1]
  refine k_iconst (v := 4) (pc := 26) dX1_gather_26 (by decide) ?_
  refine k_imul (pc := 27) dX1_gather_27 ?_
  refine k_istore_n (pc := 28) dX1_gather_28 (by decide) rfl ?_
  refine k_iconst (v := 0) (pc := 29) dX1_gather_29 (by decide) ?_
  refine k_istore (pc := 30) dX1_gather_30 (by decide) rfl ?_
  exact l0
set_option maxRecDepth 4000 in
theorem l_killGroup (hst : CSt ad ar ow cap kd) (hc : CWF ad kd σ) : Ct 1 0 0 yX1_killGroup cX1_killGroup 2 (none) G A [.ref (ad 2)] (CH G A ad ar ow cap kd it σ) (none) (CH G A ad ar ow cap kd it (killsC (xR σ (ad 9)) σ)) := by
  refine Ct.of 1 rfl rfl (Nat.le_of_ble_eq_true rfl) ?_
  intro p l e s m below meth c hini
  have h9 : kd (ad 9) = 2 := kd_row hst (by decide) (by decide)
  refine k_len hst h9 fun _ h1000 => ?_
  have loop : ∀ j i : Nat, i + j = (xR σ (ad 9)).length → K p l e s m ([.ref (ad 2)] : List Value).toArray below meth c (rmm 1 0 0) yX1_killGroup.cls cX1_killGroup 2 (none) G A (MQ below (Qd (none) (CH G A ad ar ow cap kd it (killsC (xR σ (ad 9)) σ)) A) ([.ref (ad 2)] : List Value).toArray s 0 0 A) 0 0 (CH G A ad ar ow cap kd it (killsC ((xR σ (ad 9)).take i) σ)) 2 [some (.ref (ad 2)), some (.int (nI i))] [] := by
    intro j
    induction j with
    | zero =>
      intro i hi
      have hi6 : i = (xR σ (ad 9)).length := by omega
      subst hi6
      refine k_iload_n (pc := 2) dX1_killGroup_2 rfl ?_
      refine k_aload_n (pc := 3) dX1_killGroup_3 rfl ?_
      refine h_X1_38 hst (pc := 4) dX1_killGroup_4 ?_
      refine h_X1_79 h9 (pc := 7) dX1_killGroup_7 ?_
      rw [killsC_R]
      refine k_icmp_ge (tgt := 32) (pc := 10) dX1_killGroup_10 (by decide) (fun _ => ?_) (fun c => absurd (nI_le (Nat.le_refl _) (by omega)) c)
      rw [List.take_length]
      exact k_vret (pc := 32) dX1_killGroup_32 (fun _ h => h) (Nat.le_refl _) (Nat.le_refl _)
    | succ j ih =>
      intro i hi
      obtain ⟨o, ho⟩ : ∃ o, (xR σ (ad 9))[i]? = some o := ⟨_, List.getElem?_eq_getElem (by omega)⟩
      have step := ih (i + 1) (by omega)
      rw [take_snoc ho, killsC_snoc] at step
      have hat : atR (xR (killsC ((xR σ (ad 9)).take i) σ) (ad 9)) (nI i) = o := by
        rw [killsC_R]
        unfold atR
        rw [if_neg (nI_pos (by omega)), nI_clamp (by omega), ho]
        rfl
      refine k_iload_n (pc := 2) dX1_killGroup_2 rfl ?_
      refine k_aload_n (pc := 3) dX1_killGroup_3 rfl ?_
      refine h_X1_38 hst (pc := 4) dX1_killGroup_4 ?_
      refine h_X1_79 h9 (pc := 7) dX1_killGroup_7 ?_
      rw [killsC_R]
      refine k_icmp_ge (tgt := 32) (pc := 10) dX1_killGroup_10 (by decide) (fun c => absurd c (nI_ge (by omega) (by omega))) (fun _ => ?_)
      refine k_aload_n (pc := 13) dX1_killGroup_13 rfl ?_
      refine k_aload_n (pc := 14) dX1_killGroup_14 rfl ?_
      refine h_X1_38 hst (pc := 15) dX1_killGroup_15 ?_
      refine k_iload_n (pc := 18) dX1_killGroup_18 rfl ?_
      refine k_callC2 sv_X1_85 h9 (r_at hst h9 (nI i)) (pc := 19) dX1_killGroup_19 rfl rfl (Nat.le_of_ble_eq_true rfl) (by decide) (by decide) (Nat.le_refl _) (Nat.le_refl _) ?_
      rw [hat]
      have hko : ∀ a, o = some a → kd a = 1 := fun a ha => hc.1.1 _ h9 a (by rw [← ha]; exact List.mem_of_getElem? ho)
      refine k_callC1 sv_X1_111 hst (l_kill hst o hko) (pc := 22) dX1_killGroup_22 rfl rfl (Nat.le_of_ble_eq_true rfl) (by decide) (by decide) (Nat.le_refl _) (Nat.le_refl _) ?_
      refine k_pop (pc := 25) dX1_killGroup_25 rfl ?_
      refine k_iinc (pc := 26) dX1_killGroup_26 rfl (nI_inc _) (by decide) rfl ?_
      refine k_goto (tgt := 2) (pc := 29) dX1_killGroup_29 (by decide) ?_
      exact step
  have l0 := loop (xR σ (ad 9)).length 0 (by omega)
  refine k_iconst (v := 0) (pc := 0) dX1_killGroup_0 (by decide) ?_
  refine k_istore_n (pc := 1) dX1_killGroup_1 (by decide) rfl ?_
  exact l0
end LOGB
