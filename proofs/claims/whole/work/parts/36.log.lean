def eaC (ad cap : Nat → Nat) (σ : CS) : Nat → CS
  | 0 => zRr σ (ad 10) []
  | k + 1 => zRr (zRr (eaC ad cap σ k) (ad 10) (addsR (cap (ad 10)) (xR (eaC ad cap σ k) (ad 10)) (xR (eaC ad cap σ k) (xG σ (4 * xH σ + k))))) (xG σ (4 * xH σ + k)) []
theorem eaC_G (ad cap : Nat → Nat) (σ : CS) : ∀ k, xG (eaC ad cap σ k) = xG σ := by
  intro k
  induction k with
  | zero => rfl
  | succ k ih => exact ih
theorem eaC_H (ad cap : Nat → Nat) (σ : CS) : ∀ k, xH (eaC ad cap σ k) = xH σ := by
  intro k
  induction k with
  | zero => rfl
  | succ k ih => exact ih
theorem eaC_W (ad cap : Nat → Nat) (σ : CS) : ∀ k, xW (eaC ad cap σ k) = xW σ := by
  intro k
  induction k with
  | zero => rfl
  | succ k ih => exact ih
theorem CWF.ea {ad kd ar ow cap : Nat → Nat} {σ : CS} (h : CWF ad kd σ) (hst : CSt ad ar ow cap kd) : ∀ k, k ≤ 4 → CWF ad kd (eaC ad cap σ k) := by
  intro k
  induction k with
  | zero => intro _; exact h.nil
  | succ k ih =>
    intro hk
    have h1 := ih (by omega)
    have hp : 4 * xH σ + k < 32 := by have := h.2.2.2.1; omega
    have hgk := h.2.1 _ hp
    refine CWF.nil (CWF.row h1 (fun b hb => ?_) (fun hne hn => ?_))
    · rcases addsR_mem hb with h2 | h2
      · exact h1.1.1 _ (kd_row hst (j := 10) (by decide) (by decide)) b h2
      · exact h1.1.1 _ hgk b h2
    · rcases addsR_mem hn with h2 | h2
      · exact h1.1.2 _ (kd_row hst (j := 10) (by decide) (by decide)) hne h2
      · exact h1.1.2 _ hgk (h.2.2.2.2.2.1 _ hp 8 (by decide) (by decide)) h2
def stlC (ad cap : Nat → Nat) (it : Nat → Da) : Nat → Nat → CS → CS
  | 0, _, σ => σ
  | n + 1, i, σ => stlC ad cap it n (i + 1) (settleC ad cap it σ i)
def em1 (ad cap : Nat → Nat) (σ : CS) : CS := zW (eaC ad cap σ 4) (va_up (xW σ) (xH σ) 0)
def emptyC (ad cap : Nat → Nat) (it : Nat → Da) (σ : CS) : CS := zRr (stlC ad cap it (xR (em1 ad cap σ) (ad 10)).length 0 (em1 ad cap σ)) (ad 10) []
theorem CWF.em1 {ad kd ar ow cap : Nat → Nat} {σ : CS} (h : CWF ad kd σ) (hst : CSt ad ar ow cap kd) : CWF ad kd (em1 ad cap σ) := by
  obtain ⟨h1, h2, h3, h4, h5, h6⟩ := h.ea (cap := cap) hst 4 (Nat.le_refl _)
  refine ⟨h1, h2, h3, h4, fun j => ?_, h6⟩
  show va_up (xW σ) _ 0 j ≤ 4
  unfold va_up
  split
  · exact Nat.zero_le _
  · exact h.2.2.2.2.1 j
theorem stlC_ok {ad kd ar ow cap : Nat → Nat} {it : Nat → Da} (hst : CSt ad ar ow cap kd) : ∀ (n i : Nat) (σ : CS), CWF ad kd σ → CWF ad kd (stlC ad cap it n i σ) := by
  intro n
  induction n with
  | zero => intro i σ h; exact h
  | succ n ih => intro i σ h; exact ih _ _ (settleC_ok hst h i).1
theorem CWF.empty {ad kd ar ow cap : Nat → Nat} {it : Nat → Da} {σ : CS} (h : CWF ad kd σ) (hst : CSt ad ar ow cap kd) : CWF ad kd (emptyC ad cap it σ) := CWF.nil (stlC_ok hst _ _ _ (h.em1 hst))
def turnC (ad cap : Nat → Nat) (it : Nat → Da) (σ : CS) : CS :=
  if 4 ≤ xW (wopC σ) (xH (wopC σ)) then emptyC ad cap it (zH (zT (wopC σ) (inc (xT (wopC σ)) 0)) ((xH (wopC σ) + 1) % 8)) else wopC σ
theorem CWF.turn {ad kd ar ow cap : Nat → Nat} {it : Nat → Da} {σ : CS} (h : CWF ad kd σ) (hst : CSt ad ar ow cap kd) : CWF ad kd (turnC ad cap it σ) := by
  unfold turnC
  split
  · obtain ⟨h1, h2, h3, h4, h5⟩ := h.wop
    exact CWF.empty ⟨h1, h2, h3, Nat.mod_lt _ (by decide), h5⟩ hst
  · exact h.wop
def appC (ad cap : Nat → Nat) (it : Nat → Da) (a : Nat) : Nat → CS → CS
  | 0, σ => σ
  | n + 1, σ => if plR it (xR σ (xO σ)) + plc (it a) ≤ 32 then σ else appC ad cap it a n (turnC ad cap it σ)
theorem CWF.app {ad kd ar ow cap : Nat → Nat} {it : Nat → Da} (hst : CSt ad ar ow cap kd) (a : Nat) : ∀ (n : Nat) {σ : CS}, CWF ad kd σ → CWF ad kd (appC ad cap it a n σ) := by
  intro n
  induction n with
  | zero => intro σ h; exact h
  | succ n ih =>
    intro σ h
    unfold appC
    split
    · exact h
    · exact ih (h.turn hst)
def endC (cap : Nat → Nat) (σ : CS) (a : Nat) : CS := addO cap (zV (zI σ (va_up (xI σ) a true)) (xV σ + 1)) a
def appendC (ad cap : Nat → Nat) (it : Nat → Da) (σ : CS) (a : Nat) : CS := endC cap (appC ad cap it a 1000 σ) a
def lwR (σ : CS) : Nat → (Nat → List (Option Nat))
  | 0 => xR σ
  | i + 1 => va_up (lwR σ i) (xG σ i) []
def lwW (w : Nat → Nat) : Nat → (Nat → Nat)
  | 0 => w
  | i + 1 => va_up (lwW w i) i 0
def lwipeC (σ : CS) : CS := zV (zH (zRr (zW (zR σ (lwR σ 32)) (lwW (xW σ) 8)) (xO σ) []) 0) 0
def cntG (σ : CS) (j : Nat) : Nat := ((xR σ (xG σ j)).filter (inL (xI σ))).length
def cnS (σ : CS) (b : Nat) : Nat → Nat
  | 0 => 0
  | k + 1 => cnS σ b k + cntG σ (b + k)
def kdC (ad cap : Nat → Nat) (it : Nat → Da) (σ : CS) : Nat → CS
  | 0 => σ
  | i + 1 => gatherC ad cap it σ i 0
theorem ringL_9 {ad kd : Nat → Nat} {σ : CS} (hc : CWF ad kd σ) {L : List (Option Nat)} {q : Option Nat → Bool} : ∀ n, ringL (zRr σ (ad 9) L) q n = ringL σ q n := by
  intro n
  induction n with
  | zero => rfl
  | succ n ih =>
    show ringL (zRr σ (ad 9) L) q n ++ (xR (zRr σ (ad 9) L) (xG σ ((4 * (xH σ + 1) + n) % 32))).filter q = _
    rw [ih, zRr_ne (hc.2.2.2.2.2.1 _ (Nat.mod_lt _ (by decide)) 9 (by decide) (by decide))]
    rfl
theorem gather_9 {ad kd ar ow cap : Nat → Nat} {it : Nat → Da} {σ : CS} (hst : CSt ad ar ow cap kd) (hc : CWF ad kd σ) {L : List (Option Nat)} (s0 i : Nat) : gatherC ad cap it (zRr σ (ad 9) L) s0 i = gatherC ad cap it σ s0 i := by
  have h1 : gaL ad it (zRr σ (ad 9) L) s0 i = gaL ad it σ s0 i := by
    show ((xR (zRr σ (ad 9) L) (ad 10)).drop i).filter (selO it (xI σ) s0) ++ ringL (zRr σ (ad 9) L) (selO it (xI σ) s0) 32 ++ (xR (zRr σ (ad 9) L) (xO σ)).filter (selO it (xI σ) s0) = _
    rw [ringL_9 hc, zRr_ne (adne hst (by decide) (by decide) (by decide)), zRr_ne (hc.2.2.2.2.2.2.1 9 (by decide) (by decide))]
    rfl
  unfold gatherC
  rw [h1, zRr_zRr]
section LOGD
variable {p : Program} {l : Launch} {e : Env} {s : State} {m : MethodId} {args : Array Value} {below : List Frame} {meth : Method} {c : Code} {R : Room} {G : Gd} {A : Nat → Prop} {Q : State → Prop} {k n : Nat} {ad ar ow cap kd : Nat → Nat} {it : Nat → Da} {σ : CS} {I0 : Heap → Prop}
set_option maxRecDepth 4000 in
theorem l_emptyHead (hst : CSt ad ar ow cap kd) (hc : CWF ad kd σ) (hit : ∀ a, kd a = 1 → plc (it a) ≤ 15) : Ct 4 0 0 yX1_emptyHead cX1_emptyHead 3 (none) G A [.ref (ad 2)] (CH G A ad ar ow cap kd it σ) (none) (CH G A ad ar ow cap kd it (emptyC ad cap it σ)) := by
  refine Ct.of 2 rfl rfl (Nat.le_of_ble_eq_true rfl) ?_
  intro p l e s m below meth c hini
  have h10 : kd (ad 10) = 2 := kd_row hst (by decide) (by decide)
  have hh := hc.2.2.2.1
  have hc1 : CWF ad kd (em1 ad cap σ) := hc.em1 hst
  have fin : ∀ z : Option Value, K p l e s m ([.ref (ad 2)] : List Value).toArray below meth c (rmm 4 0 0) yX1_emptyHead.cls cX1_emptyHead 3 (none) G A (MQ below (Qd (none) (CH G A ad ar ow cap kd it (emptyC ad cap it σ)) A) ([.ref (ad 2)] : List Value).toArray s 0 0 A) 0 0 (CH G A ad ar ow cap kd it (em1 ad cap σ)) 58 [some (.ref (ad 2)), some (.int (nI 0)), z] [] := by
    intro z
    refine k_len hst h10 fun _ h1000 => ?_
    have loop : ∀ (j i : Nat) (τ : CS), CWF ad kd τ → xR τ (ad 10) = xR (em1 ad cap σ) (ad 10) → i + j = (xR (em1 ad cap σ) (ad 10)).length → emptyC ad cap it σ = zRr (stlC ad cap it j i τ) (ad 10) [] → K p l e s m ([.ref (ad 2)] : List Value).toArray below meth c (rmm 4 0 0) yX1_emptyHead.cls cX1_emptyHead 3 (none) G A (MQ below (Qd (none) (CH G A ad ar ow cap kd it (emptyC ad cap it σ)) A) ([.ref (ad 2)] : List Value).toArray s 0 0 A) 0 0 (CH G A ad ar ow cap kd it τ) 58 [some (.ref (ad 2)), some (.int (nI i)), z] [] := by
      intro j
      induction j with
      | zero =>
        intro i τ hcτ hR hi hres
        rw [hres]
        refine k_iload_n (pc := 58) dX1_emptyHead_58 rfl ?_
        refine k_aload_n (pc := 59) dX1_emptyHead_59 rfl ?_
        refine h_X1_35 hst (pc := 60) dX1_emptyHead_60 ?_
        refine h_X1_79 h10 (pc := 63) dX1_emptyHead_63 ?_
        rw [hR]
        refine k_icmp_ge (tgt := 80) (pc := 66) dX1_emptyHead_66 (by decide) (fun _ => ?_) (fun c => absurd (nI_le (by omega) (by omega)) c)
        refine k_aload_n (pc := 80) dX1_emptyHead_80 rfl ?_
        refine h_X1_35 hst (pc := 81) dX1_emptyHead_81 ?_
        refine k_callC2 sv_X1_72 h10 (r_clear hst h10) (pc := 84) dX1_emptyHead_84 rfl rfl (Nat.le_of_ble_eq_true rfl) (by decide) (by decide) (Nat.le_refl _) (Nat.le_refl _) ?_
        exact k_vret (pc := 87) dX1_emptyHead_87 (fun _ h => h) (Nat.le_refl _) (Nat.le_refl _)
      | succ j ih =>
        intro i τ hcτ hR hi hres
        obtain ⟨k1, k2⟩ := settleC_ok (cap := cap) (it := it) hst hcτ i
        have step := ih (i + 1) (settleC ad cap it τ i) k1 (k2.trans hR) (by omega) hres
        refine k_iload_n (pc := 58) dX1_emptyHead_58 rfl ?_
        refine k_aload_n (pc := 59) dX1_emptyHead_59 rfl ?_
        refine h_X1_35 hst (pc := 60) dX1_emptyHead_60 ?_
        refine h_X1_79 h10 (pc := 63) dX1_emptyHead_63 ?_
        rw [hR]
        refine k_icmp_ge (tgt := 80) (pc := 66) dX1_emptyHead_66 (by decide) (fun c => absurd c (nI_ge (by omega) (by omega))) (fun _ => ?_)
        refine k_aload_n (pc := 69) dX1_emptyHead_69 rfl ?_
        refine k_iload_n (pc := 70) dX1_emptyHead_70 rfl ?_
        refine k_callC1 sv_X1_82 hst (l_settle hst hcτ hit i (by rw [hR]; omega)) (pc := 71) dX1_emptyHead_71 rfl rfl (Nat.le_of_ble_eq_true rfl) (by decide) (by decide) (Nat.le_refl _) (Nat.le_refl _) ?_
        refine k_iinc (pc := 74) dX1_emptyHead_74 rfl (nI_inc _) (by decide) rfl ?_
        refine k_goto (tgt := 58) (pc := 77) dX1_emptyHead_77 (by decide) ?_
        exact step
    exact loop (xR (em1 ad cap σ) (ad 10)).length 0 (em1 ad cap σ) hc1 rfl (by omega) rfl
  have loop : ∀ (j i : Nat) (z : Option Value), i + j = 4 → K p l e s m ([.ref (ad 2)] : List Value).toArray below meth c (rmm 4 0 0) yX1_emptyHead.cls cX1_emptyHead 3 (none) G A (MQ below (Qd (none) (CH G A ad ar ow cap kd it (emptyC ad cap it σ)) A) ([.ref (ad 2)] : List Value).toArray s 0 0 A) 0 0 (CH G A ad ar ow cap kd it (eaC ad cap σ i)) 9 [some (.ref (ad 2)), some (.int (nI i)), z] [] := by
    intro j
    induction j with
    | zero =>
      intro i z hi
      have hi6 : i = 4 := by omega
      subst hi6
      refine k_iload_n (pc := 9) dX1_emptyHead_9 rfl ?_
      refine k_iconst (v := 4) (pc := 10) dX1_emptyHead_10 (by decide) ?_
      refine k_icmp_ge (tgt := 46) (pc := 11) dX1_emptyHead_11 (by decide) (fun _ => ?_) (fun c => absurd (by decide) c)
      refine k_aload_n (pc := 46) dX1_emptyHead_46 rfl ?_
      refine h_X1_28 hst (pc := 47) dX1_emptyHead_47 ?_
      refine k_aload_n (pc := 50) dX1_emptyHead_50 rfl ?_
      refine h_X1_62 hst (pc := 51) dX1_emptyHead_51 ?_
      rw [eaC_H]
      refine k_iconst (v := 0) (pc := 54) dX1_emptyHead_54 (by decide) ?_
      refine wr_st hst (show _ = Value.int (nI 0) from rfl) (pc := 55) dX1_emptyHead_55 rfl hh ?_
      refine k_iconst (v := 0) (pc := 56) dX1_emptyHead_56 (by decide) ?_
      refine k_istore_n (pc := 57) dX1_emptyHead_57 (by decide) rfl ?_
      rw [eaC_W]
      exact fin z
    | succ j ih =>
      intro i z hi
      have hp : 4 * xH σ + i < 32 := by omega
      have hgk := hc.2.1 _ hp
      have hg10 := hc.2.2.2.2.2.1 _ hp 10 (by decide) (by decide)
      have hce := hc.ea (cap := cap) hst i (by omega)
      refine k_iload_n (pc := 9) dX1_emptyHead_9 rfl ?_
      refine k_iconst (v := 4) (pc := 10) dX1_emptyHead_10 (by decide) ?_
      refine k_icmp_ge (tgt := 46) (pc := 11) dX1_emptyHead_11 (by decide) (fun c => absurd c (nI_ge (a := i) (b := 4) (by omega) (by decide))) (fun _ => ?_)
      refine k_aload_n (pc := 14) dX1_emptyHead_14 rfl ?_
      refine h_X1_21 hst (pc := 15) dX1_emptyHead_15 ?_
      refine k_aload_n (pc := 18) dX1_emptyHead_18 rfl ?_
      refine h_X1_62 hst (pc := 19) dX1_emptyHead_19 ?_
      rw [eaC_H]
      refine k_iconst (v := 4) (pc := 22) dX1_emptyHead_22 (by decide) ?_
      refine k_imul (pc := 23) dX1_emptyHead_23 ?_
      refine k_iload_n (pc := 24) dX1_emptyHead_24 rfl ?_
      refine k_iadd (pc := 25) dX1_emptyHead_25 ?_
      refine rg_ld hst (pc := 26) dX1_emptyHead_26 pgi hp ?_
      rw [eaC_G]
      refine k_astore_n (pc := 27) dX1_emptyHead_27 (by decide) rfl ?_
      refine k_aload_n (pc := 28) dX1_emptyHead_28 rfl ?_
      refine h_X1_35 hst (pc := 29) dX1_emptyHead_29 ?_
      refine k_aload_n (pc := 32) dX1_emptyHead_32 rfl ?_
      refine k_callC2 sv_X1_75 h10 (r_addAll (σ := eaC ad cap σ i) hst h10 hgk hg10 (hce.1.all hgk (hc.2.2.2.2.2.1 _ hp 8 (by decide) (by decide)))) (pc := 33) dX1_emptyHead_33 rfl rfl (Nat.le_of_ble_eq_true rfl) (by decide) (by decide) (Nat.le_refl _) (Nat.le_refl _) ?_
      refine k_aload_n (pc := 36) dX1_emptyHead_36 rfl ?_
      refine k_callC2 sv_X1_72 hgk (r_clear hst hgk) (pc := 37) dX1_emptyHead_37 rfl rfl (Nat.le_of_ble_eq_true rfl) (by decide) (by decide) (Nat.le_refl _) (Nat.le_refl _) ?_
      refine k_iinc (pc := 40) dX1_emptyHead_40 rfl (nI_inc _) (by decide) rfl ?_
      refine k_goto (tgt := 9) (pc := 43) dX1_emptyHead_43 (by decide) ?_
      exact ih (i + 1) _ (by omega)
  refine k_aload_n (pc := 0) dX1_emptyHead_0 rfl ?_
  refine h_X1_35 hst (pc := 1) dX1_emptyHead_1 ?_
  refine k_callC2 sv_X1_72 h10 (r_clear hst h10) (pc := 4) dX1_emptyHead_4 rfl rfl (Nat.le_of_ble_eq_true rfl) (by decide) (by decide) (Nat.le_refl _) (Nat.le_refl _) ?_
  refine k_iconst (v := 0) (pc := 7) dX1_emptyHead_7 (by decide) ?_
  refine k_istore_n (pc := 8) dX1_emptyHead_8 (by decide) rfl ?_
  exact loop 4 0 _ (by omega)
theorem pk_8 {h : Nat} (hh : h < 8) : nI h + 1 - (nI h + 1) / 8 * 8 = nI ((h + 1) % 8) := by
  rw [nI_1, show (8 : Int32) = nI 8 from rfl]
  exact pk_rem (by omega) (by decide) (by decide)
set_option maxRecDepth 4000 in
theorem l_append (hst : CSt ad ar ow cap kd) (hc : CWF ad kd σ) (hit : ∀ a, kd a = 1 → plc (it a) ≤ 15) (a : Nat) (ha : kd a = 1) : Ct 5 0 0 yX1_append cX1_append 3 (none) G A [.ref (ad 2), .ref a] (CH G A ad ar ow cap kd it σ) (none) (CH G A ad ar ow cap kd it (appendC ad cap it σ a)) := by
  refine Ct.of 1 rfl rfl (Nat.le_of_ble_eq_true rfl) ?_
  intro p l e s m below meth c hini
  have fin : ∀ (τ : CS) (i : Nat), CWF ad kd τ → appendC ad cap it σ a = endC cap τ a → K p l e s m ([.ref (ad 2), .ref a] : List Value).toArray below meth c (rmm 5 0 0) yX1_append.cls cX1_append 3 (none) G A (MQ below (Qd (none) (CH G A ad ar ow cap kd it (appendC ad cap it σ a)) A) ([.ref (ad 2), .ref a] : List Value).toArray s 0 0 A) 0 0 (CH G A ad ar ow cap kd it τ) 70 [some (.ref (ad 2)), some (.ref a), some (.int (nI i))] [] := by
    intro τ i hτ hres
    rw [hres]
    have hO := hτ.2.2.1
    refine k_aload_n (pc := 70) dX1_append_70 rfl ?_
    refine k_iconst (v := 1) (pc := 71) dX1_append_71 (by decide) ?_
    refine hp_X1_45 ha (show (1 : Int32) = bI true from rfl) (pc := 72) dX1_append_72 ?_
    refine k_aload_n (pc := 75) dX1_append_75 rfl ?_
    refine k_dup (pc := 76) dX1_append_76 rfl ?_
    refine h_X1_51 hst (pc := 77) dX1_append_77 ?_
    refine k_iconst (v := 1) (pc := 80) dX1_append_80 (by decide) ?_
    refine k_iadd (pc := 81) dX1_append_81 ?_
    refine hp_X1_51 hst rfl (pc := 82) dX1_append_82 ?_
    refine k_aload_n (pc := 85) dX1_append_85 rfl ?_
    refine h_X1_31 hst (pc := 86) dX1_append_86 ?_
    refine k_aload_n (pc := 89) dX1_append_89 rfl ?_
    refine k_callC2 sv_X1_68 hO (r_add (σ := zV (zI τ (va_up (xI τ) a true)) (xV τ + 1)) hst hO a ha) (pc := 90) dX1_append_90 rfl rfl (Nat.le_of_ble_eq_true rfl) (by decide) (by decide) (Nat.le_refl _) (Nat.le_refl _) ?_
    exact k_vret (pc := 93) dX1_append_93 (fun _ h => h) (Nat.le_refl _) (Nat.le_refl _)
  have loop : ∀ (n i : Nat) (τ : CS), i + n = 1000 → CWF ad kd τ → appendC ad cap it σ a = endC cap (appC ad cap it a n τ) a → K p l e s m ([.ref (ad 2), .ref a] : List Value).toArray below meth c (rmm 5 0 0) yX1_append.cls cX1_append 3 (none) G A (MQ below (Qd (none) (CH G A ad ar ow cap kd it (appendC ad cap it σ a)) A) ([.ref (ad 2), .ref a] : List Value).toArray s 0 0 A) 0 0 (CH G A ad ar ow cap kd it τ) 2 [some (.ref (ad 2)), some (.ref a), some (.int (nI i))] [] := by
    intro n
    induction n with
    | zero =>
      intro i τ hi hτ hres
      have hi6 : i = 1000 := by omega
      subst hi6
      refine k_iload_n (pc := 2) dX1_append_2 rfl ?_
      refine k_sipush (v := 1000) (pc := 3) dX1_append_3 (by decide) ?_
      refine k_icmp_ge (tgt := 70) (pc := 6) dX1_append_6 (by decide) (fun _ => ?_) (fun c => absurd (by decide) c)
      exact fin τ _ hτ hres
    | succ n ih =>
      intro i τ hi hτ hres
      have hO := hτ.2.2.1
      refine k_len hst hO fun _ h1000 => ?_
      have hr := r_hasRoom (G := G) (A := A) (it := it) (σ := τ) hst hO (hτ.1.1 _ hO) a ha (room_bd hit (hτ.1.1 _ hO) ha h1000)
      refine k_iload_n (pc := 2) dX1_append_2 rfl ?_
      refine k_sipush (v := 1000) (pc := 3) dX1_append_3 (by decide) ?_
      refine k_icmp_ge (tgt := 70) (pc := 6) dX1_append_6 (by decide) (fun c => absurd c (nI_ge (a := i) (b := 1000) (by omega) (by decide))) (fun _ => ?_)
      by_cases hroom : plR it (xR τ (xO τ)) + plc (it a) ≤ 32
      · rw [decide_eq_true hroom] at hr
        have happ : appC ad cap it a (n + 1) τ = τ := if_pos hroom
        rw [happ] at hres
        refine k_aload_n (pc := 9) dX1_append_9 rfl ?_
        refine h_X1_31 hst (pc := 10) dX1_append_10 ?_
        refine k_aload_n (pc := 13) dX1_append_13 rfl ?_
        refine k_callC2 sv_X1_55 hO (hr) (pc := 14) dX1_append_14 rfl rfl (Nat.le_of_ble_eq_true rfl) (by decide) (by decide) (Nat.le_refl _) (Nat.le_refl _) ?_
        refine k_if_ne (tgt := 70) (pc := 17) dX1_append_17 (by decide) (fun _ => ?_) (fun c => absurd c ((show ¬ bI true = 0 by decide)))
        exact fin τ _ hτ hres
      · rw [decide_eq_false hroom] at hr
        have happ : appC ad cap it a (n + 1) τ = appC ad cap it a n (turnC ad cap it τ) := if_neg hroom
        rw [happ] at hres
        have step := ih (i + 1) (turnC ad cap it τ) (by omega) (hτ.turn hst) hres
        have hw := hτ.wop
        refine k_aload_n (pc := 9) dX1_append_9 rfl ?_
        refine h_X1_31 hst (pc := 10) dX1_append_10 ?_
        refine k_aload_n (pc := 13) dX1_append_13 rfl ?_
        refine k_callC2 sv_X1_55 hO (hr) (pc := 14) dX1_append_14 rfl rfl (Nat.le_of_ble_eq_true rfl) (by decide) (by decide) (Nat.le_refl _) (Nat.le_refl _) ?_
        refine k_if_ne (tgt := 70) (pc := 17) dX1_append_17 (by decide) (fun c => absurd ((show bI false = 0 by decide)) c) (fun _ => ?_)
        refine k_aload_n (pc := 20) dX1_append_20 rfl ?_
        refine k_callC1 sv_X1_59 hst (l_wop hst hτ) (pc := 21) dX1_append_21 rfl rfl (Nat.le_of_ble_eq_true rfl) (by decide) (by decide) (Nat.le_refl _) (Nat.le_refl _) ?_
        refine k_aload_n (pc := 24) dX1_append_24 rfl ?_
        refine h_X1_28 hst (pc := 25) dX1_append_25 ?_
        refine k_aload_n (pc := 28) dX1_append_28 rfl ?_
        refine h_X1_62 hst (pc := 29) dX1_append_29 ?_
        refine wr_ld hst (pc := 32) dX1_append_32 rfl hw.2.2.2.1 ?_
        refine k_iconst (v := 4) (pc := 33) dX1_append_33 (by decide) ?_
        have hw4 := hw.2.2.2.2.1 (xH (wopC τ))
        by_cases h4 : 4 ≤ xW (wopC τ) (xH (wopC τ))
        · rw [show turnC ad cap it τ = emptyC ad cap it (zH (zT (wopC τ) (inc (xT (wopC τ)) 0)) ((xH (wopC τ) + 1) % 8)) from if_pos h4] at step
          refine k_icmp_lt (tgt := 64) (pc := 34) dX1_append_34 (by decide) (fun c => absurd ((nI_ltI (b := 4) (by omega) (by decide)).mp c) (by omega)) (fun _ => ?_)
          have hcz : CWF ad kd (zH (zT (wopC τ) (inc (xT (wopC τ)) 0)) ((xH (wopC τ) + 1) % 8)) := by
            obtain ⟨h1, h2, h3, h4, h5⟩ := hw
            exact ⟨h1, h2, h3, Nat.mod_lt _ (by decide), h5⟩
          have he := l_emptyHead (G := G) (A := A) (it := it) hst hcz hit
          refine k_aload_n (pc := 37) dX1_append_37 rfl ?_
          refine h_X1_15 hst (pc := 38) dX1_append_38 ?_
          refine k_iconst (v := 0) (pc := 41) dX1_append_41 (by decide) ?_
          refine k_dup2 (pc := 42) dX1_append_42 rfl rfl ?_
          refine ta_ld hst (pc := 43) dX1_append_43 (show (0 : Int32) = nI 0 from rfl) (by decide) ?_
          refine k_iconst (v := 1) (pc := 44) dX1_append_44 (by decide) ?_
          refine k_iadd (pc := 45) dX1_append_45 ?_
          refine ta_st hst rfl (pc := 46) dX1_append_46 (show (0 : Int32) = nI 0 from rfl) (by decide) ?_
          refine k_aload_n (pc := 47) dX1_append_47 rfl ?_
          refine k_aload_n (pc := 48) dX1_append_48 rfl ?_
          refine h_X1_62 hst (pc := 49) dX1_append_49 ?_
          refine k_iconst (v := 1) (pc := 52) dX1_append_52 (by decide) ?_
          refine k_iadd (pc := 53) dX1_append_53 ?_
          refine k_bipush (v := 8) (pc := 54) dX1_append_54 (by decide) ?_
          refine k_irem (pc := 56) dX1_append_56 (by decide) ?_
          rw [show xH (zT (wopC τ) (va_up (xT (wopC τ)) 0 (xT (wopC τ) 0 + 1))) = xH (wopC τ) from rfl, pk_8 hw.2.2.2.1]
          refine hp_X1_62 hst rfl (pc := 57) dX1_append_57 ?_
          refine k_aload_n (pc := 60) dX1_append_60 rfl ?_
          refine k_callC1 sv_X1_65 hst (he) (pc := 61) dX1_append_61 rfl rfl (Nat.le_of_ble_eq_true rfl) (by decide) (by decide) (Nat.le_refl _) (Nat.le_refl _) ?_
          refine k_iinc (pc := 64) dX1_append_64 rfl (nI_inc _) (by decide) rfl ?_
          refine k_goto (tgt := 2) (pc := 67) dX1_append_67 (by decide) ?_
          exact step
        · rw [show turnC ad cap it τ = wopC τ from if_neg h4] at step
          refine k_icmp_lt (tgt := 64) (pc := 34) dX1_append_34 (by decide) (fun _ => ?_) (fun c => absurd ((nI_ltI (b := 4) (by omega) (by decide)).mpr (by omega)) c)
          refine k_iinc (pc := 64) dX1_append_64 rfl (nI_inc _) (by decide) rfl ?_
          refine k_goto (tgt := 2) (pc := 67) dX1_append_67 (by decide) ?_
          exact step
  have l0 := loop 1000 0 σ (by omega) hc rfl
  refine k_iconst (v := 0) (pc := 0) dX1_append_0 (by decide) ?_
  refine k_istore_n (pc := 1) dX1_append_1 (by decide) rfl ?_
  exact l0
set_option maxRecDepth 4000 in
theorem l_wipe (hst : CSt ad ar ow cap kd) (hc : CWF ad kd σ) : Ct 1 0 0 yX1_wipe cX1_wipe 2 (none) G A [.ref (ad 2)] (CH G A ad ar ow cap kd it σ) (none) (CH G A ad ar ow cap kd it (lwipeC σ)) := by
  refine Ct.of 1 rfl rfl (Nat.le_of_ble_eq_true rfl) ?_
  intro p l e s m below meth c hini
  have hO := hc.2.2.1
  have loop2 : ∀ j i : Nat, i + j = 8 → K p l e s m ([.ref (ad 2)] : List Value).toArray below meth c (rmm 1 0 0) yX1_wipe.cls cX1_wipe 2 (none) G A (MQ below (Qd (none) (CH G A ad ar ow cap kd it (lwipeC σ)) A) ([.ref (ad 2)] : List Value).toArray s 0 0 A) 0 0 (CH G A ad ar ow cap kd it (zW (zR σ (lwR σ 32)) (lwW (xW σ) i))) 25 [some (.ref (ad 2)), some (.int (nI i))] [] := by
    intro j
    induction j with
    | zero =>
      intro i hi
      have hi6 : i = 8 := by omega
      subst hi6
      refine k_iload_n (pc := 25) dX1_wipe_25 rfl ?_
      refine k_bipush (v := 8) (pc := 26) dX1_wipe_26 (by decide) ?_
      refine k_icmp_ge (tgt := 44) (pc := 28) dX1_wipe_28 (by decide) (fun _ => ?_) (fun c => absurd (by decide) c)
      refine k_aload_n (pc := 44) dX1_wipe_44 rfl ?_
      refine h_X1_31 hst (pc := 45) dX1_wipe_45 ?_
      refine k_callC2 sv_X1_72 hO (r_clear (σ := zW (zR σ (lwR σ 32)) (lwW (xW σ) 8)) hst hO) (pc := 48) dX1_wipe_48 rfl rfl (Nat.le_of_ble_eq_true rfl) (by decide) (by decide) (Nat.le_refl _) (Nat.le_refl _) ?_
      refine k_aload_n (pc := 51) dX1_wipe_51 rfl ?_
      refine k_iconst (v := 0) (pc := 52) dX1_wipe_52 (by decide) ?_
      refine hp_X1_62 hst (show _ = Value.int (nI 0) from rfl) (pc := 53) dX1_wipe_53 ?_
      refine k_aload_n (pc := 56) dX1_wipe_56 rfl ?_
      refine k_iconst (v := 0) (pc := 57) dX1_wipe_57 (by decide) ?_
      refine hp_X1_51 hst rfl (pc := 58) dX1_wipe_58 ?_
      exact k_vret (pc := 61) dX1_wipe_61 (fun _ h => h) (Nat.le_refl _) (Nat.le_refl _)
    | succ j ih =>
      intro i hi
      have step := ih (i + 1) (by omega)
      refine k_iload_n (pc := 25) dX1_wipe_25 rfl ?_
      refine k_bipush (v := 8) (pc := 26) dX1_wipe_26 (by decide) ?_
      refine k_icmp_ge (tgt := 44) (pc := 28) dX1_wipe_28 (by decide) (fun c => absurd c (nI_ge (a := i) (b := 8) (by omega) (by decide))) (fun _ => ?_)
      refine k_aload_n (pc := 31) dX1_wipe_31 rfl ?_
      refine h_X1_28 hst (pc := 32) dX1_wipe_32 ?_
      refine k_iload_n (pc := 35) dX1_wipe_35 rfl ?_
      refine k_iconst (v := 0) (pc := 36) dX1_wipe_36 (by decide) ?_
      refine wr_st hst (show _ = Value.int (nI 0) from rfl) (pc := 37) dX1_wipe_37 rfl (by omega) ?_
      refine k_iinc (pc := 38) dX1_wipe_38 rfl (nI_inc _) (by decide) rfl ?_
      refine k_goto (tgt := 25) (pc := 41) dX1_wipe_41 (by decide) ?_
      exact step
  have loop : ∀ j i : Nat, i + j = 32 → K p l e s m ([.ref (ad 2)] : List Value).toArray below meth c (rmm 1 0 0) yX1_wipe.cls cX1_wipe 2 (none) G A (MQ below (Qd (none) (CH G A ad ar ow cap kd it (lwipeC σ)) A) ([.ref (ad 2)] : List Value).toArray s 0 0 A) 0 0 (CH G A ad ar ow cap kd it (zR σ (lwR σ i))) 2 [some (.ref (ad 2)), some (.int (nI i))] [] := by
    intro j
    induction j with
    | zero =>
      intro i hi
      have hi6 : i = 32 := by omega
      subst hi6
      refine k_iload_n (pc := 2) dX1_wipe_2 rfl ?_
      refine k_bipush (v := 32) (pc := 3) dX1_wipe_3 (by decide) ?_
      refine k_icmp_ge (tgt := 23) (pc := 5) dX1_wipe_5 (by decide) (fun _ => ?_) (fun c => absurd (by decide) c)
      refine k_iconst (v := 0) (pc := 23) dX1_wipe_23 (by decide) ?_
      refine k_istore_n (pc := 24) dX1_wipe_24 (by decide) rfl ?_
      exact loop2 8 0 (by omega)
    | succ j ih =>
      intro i hi
      have hi32 : i < 32 := by omega
      have step := ih (i + 1) (by omega)
      refine k_iload_n (pc := 2) dX1_wipe_2 rfl ?_
      refine k_bipush (v := 32) (pc := 3) dX1_wipe_3 (by decide) ?_
      refine k_icmp_ge (tgt := 23) (pc := 5) dX1_wipe_5 (by decide) (fun c => absurd c (nI_ge (a := i) (b := 32) (by omega) (by decide))) (fun _ => ?_)
      refine k_aload_n (pc := 8) dX1_wipe_8 rfl ?_
      refine h_X1_21 hst (pc := 9) dX1_wipe_9 ?_
      refine k_iload_n (pc := 12) dX1_wipe_12 rfl ?_
      refine rg_ld hst (pc := 13) dX1_wipe_13 rfl hi32 ?_
      refine k_callC2 sv_X1_72 (hc.2.1 i hi32) (r_clear (σ := zR σ (lwR σ i)) hst (hc.2.1 i hi32)) (pc := 14) dX1_wipe_14 rfl rfl (Nat.le_of_ble_eq_true rfl) (by decide) (by decide) (Nat.le_refl _) (Nat.le_refl _) ?_
      refine k_iinc (pc := 17) dX1_wipe_17 rfl (nI_inc _) (by decide) rfl ?_
      refine k_goto (tgt := 2) (pc := 20) dX1_wipe_20 (by decide) ?_
      exact step
  refine k_iconst (v := 0) (pc := 0) dX1_wipe_0 (by decide) ?_
  refine k_istore_n (pc := 1) dX1_wipe_1 (by decide) rfl ?_
  exact loop 32 0 (by omega)
set_option maxRecDepth 4000 in
theorem l_countSeg (hst : CSt ad ar ow cap kd) (hc : CWF ad kd σ) (sg : Nat) (hsg : sg < 8) : Ct 1 0 0 yX1_countInSegment cX1_countInSegment 4 (some .int) G A [.ref (ad 2), .int (nI sg)] (CH G A ad ar ow cap kd it σ) (some (.int (nI (cnS σ (4 * sg) 4)))) (CH G A ad ar ow cap kd it σ) := by
  refine Ct.of 2 rfl rfl (Nat.le_of_ble_eq_true rfl) ?_
  intro p l e s m below meth c hini
  have loop : ∀ j i : Nat, i + j = 4 → K p l e s m ([.ref (ad 2), .int (nI sg)] : List Value).toArray below meth c (rmm 1 0 0) yX1_countInSegment.cls cX1_countInSegment 4 (some .int) G A (MQ below (Qd (some (.int (nI (cnS σ (4 * sg) 4)))) (CH G A ad ar ow cap kd it σ) A) ([.ref (ad 2), .int (nI sg)] : List Value).toArray s 0 0 A) 0 0 (CH G A ad ar ow cap kd it σ) 16 [some (.ref (ad 2)), some (.int (nI sg)), some (.int (nI (cnS σ (4 * sg) i))), some (.int (nI i))] [] := by
    intro j
    induction j with
    | zero =>
      intro i hi
      have hi6 : i = 4 := by omega
      subst hi6
      refine k_iload_n (pc := 16) dX1_countInSegment_16 rfl ?_
      refine k_iconst (v := 4) (pc := 17) dX1_countInSegment_17 (by decide) ?_
      refine k_icmp_ge (tgt := 43) (pc := 18) dX1_countInSegment_18 (by decide) (fun _ => ?_) (fun c => absurd (by decide) c)
      refine k_iload_n (pc := 43) dX1_countInSegment_43 rfl ?_
      exact k_iret (pc := 44) dX1_countInSegment_44 rfl (fun _ h => h) (Nat.le_refl _) (Nat.le_refl _)
    | succ j ih =>
      intro i hi
      have hp : 4 * sg + i < 32 := by omega
      have step := ih (i + 1) (by omega)
      rw [show cnS σ (4 * sg) (i + 1) = cnS σ (4 * sg) i + cntG σ (4 * sg + i) from rfl, show nI (cnS σ (4 * sg) i + cntG σ (4 * sg + i)) = nI (cnS σ (4 * sg) i) + nI (cntG σ (4 * sg + i)) from Int32.ofNat_add _ _] at step
      refine k_iload_n (pc := 16) dX1_countInSegment_16 rfl ?_
      refine k_iconst (v := 4) (pc := 17) dX1_countInSegment_17 (by decide) ?_
      refine k_icmp_ge (tgt := 43) (pc := 18) dX1_countInSegment_18 (by decide) (fun c => absurd c (nI_ge (a := i) (b := 4) (by omega) (by decide))) (fun _ => ?_)
      refine k_iload_n (pc := 21) dX1_countInSegment_21 rfl ?_
      refine k_aload_n (pc := 22) dX1_countInSegment_22 rfl ?_
      refine h_X1_21 hst (pc := 23) dX1_countInSegment_23 ?_
      refine k_iload_n (pc := 26) dX1_countInSegment_26 rfl ?_
      refine k_iconst (v := 4) (pc := 27) dX1_countInSegment_27 (by decide) ?_
      refine k_imul (pc := 28) dX1_countInSegment_28 ?_
      refine k_iload_n (pc := 29) dX1_countInSegment_29 rfl ?_
      refine k_iadd (pc := 30) dX1_countInSegment_30 ?_
      refine rg_ld hst (pc := 31) dX1_countInSegment_31 pgi hp ?_
      refine k_callC2 sv_X1_126 (hc.2.1 _ hp) (r_countInLog hst (hc.2.1 _ hp) (hc.1.1 _ (hc.2.1 _ hp))) (pc := 32) dX1_countInSegment_32 rfl rfl (Nat.le_of_ble_eq_true rfl) (by decide) (by decide) (Nat.le_refl _) (Nat.le_refl _) ?_
      refine k_iadd (pc := 35) dX1_countInSegment_35 ?_
      refine k_istore_n (pc := 36) dX1_countInSegment_36 (by decide) rfl ?_
      refine k_iinc (pc := 37) dX1_countInSegment_37 rfl (nI_inc _) (by decide) rfl ?_
      refine k_goto (tgt := 16) (pc := 40) dX1_countInSegment_40 (by decide) ?_
      exact step
  refine k_iload_n (pc := 0) dX1_countInSegment_0 rfl ?_
  refine k_if_lt (tgt := 10) (pc := 1) dX1_countInSegment_1 (by decide) (fun c => absurd c (nI_pos (by omega))) (fun _ => ?_)
  refine k_iload_n (pc := 4) dX1_countInSegment_4 rfl ?_
  refine k_bipush (v := 8) (pc := 5) dX1_countInSegment_5 (by decide) ?_
  refine k_icmp_lt (tgt := 12) (pc := 7) dX1_countInSegment_7 (by decide) (fun _ => ?_) (fun c => absurd ((nI_ltI (b := 8) (by omega) (by decide)).mpr hsg) c)
  refine k_iconst (v := 0) (pc := 12) dX1_countInSegment_12 (by decide) ?_
  refine k_istore_n (pc := 13) dX1_countInSegment_13 (by decide) rfl ?_
  refine k_iconst (v := 0) (pc := 14) dX1_countInSegment_14 (by decide) ?_
  refine k_istore_n (pc := 15) dX1_countInSegment_15 (by decide) rfl ?_
  exact loop 4 0 (by omega)
set_option maxRecDepth 4000 in
theorem l_pagesFit (hst : CSt ad ar ow cap kd) (hc : CWF ad kd σ) (hfit : ∀ j, j < 32 → plR it (xR σ (xG σ j)) ≤ 32) (hfo : plR it (xR σ (xO σ)) ≤ 32) : Ct 1 0 0 yX1_pagesFit cX1_pagesFit 2 (some .boolean) G A [.ref (ad 2)] (CH G A ad ar ow cap kd it σ) (some (.int 1)) (CH G A ad ar ow cap kd it σ) := by
  refine Ct.of 1 rfl rfl (Nat.le_of_ble_eq_true rfl) ?_
  intro p l e s m below meth c hini
  have loop : ∀ j i : Nat, i + j = 32 → K p l e s m ([.ref (ad 2)] : List Value).toArray below meth c (rmm 1 0 0) yX1_pagesFit.cls cX1_pagesFit 2 (some .boolean) G A (MQ below (Qd (some (.int 1)) (CH G A ad ar ow cap kd it σ) A) ([.ref (ad 2)] : List Value).toArray s 0 0 A) 0 0 (CH G A ad ar ow cap kd it σ) 2 [some (.ref (ad 2)), some (.int (nI i))] [] := by
    intro j
    induction j with
    | zero =>
      intro i hi
      have hi6 : i = 32 := by omega
      subst hi6
      refine k_iload_n (pc := 2) dX1_pagesFit_2 rfl ?_
      refine k_bipush (v := 32) (pc := 3) dX1_pagesFit_3 (by decide) ?_
      refine k_icmp_ge (tgt := 30) (pc := 5) dX1_pagesFit_5 (by decide) (fun _ => ?_) (fun c => absurd (by decide) c)
      refine k_aload_n (pc := 30) dX1_pagesFit_30 rfl ?_
      refine h_X1_31 hst (pc := 31) dX1_pagesFit_31 ?_
      refine k_callC2 sv_X1_130 hc.2.2.1 (r_places hst hc.2.2.1 (hc.1.1 _ hc.2.2.1)) (pc := 34) dX1_pagesFit_34 rfl rfl (Nat.le_of_ble_eq_true rfl) (by decide) (by decide) (Nat.le_refl _) (Nat.le_refl _) ?_
      refine k_bipush (v := 32) (pc := 37) dX1_pagesFit_37 (by decide) ?_
      refine k_icmp_gt (tgt := 46) (pc := 39) dX1_pagesFit_39 (by decide) (fun c => absurd ((nI_ltI (a := 32) (by decide) (by omega)).mp c) (by omega)) (fun _ => ?_)
      refine k_iconst (v := 1) (pc := 42) dX1_pagesFit_42 (by decide) ?_
      refine k_goto (tgt := 47) (pc := 43) dX1_pagesFit_43 (by decide) ?_
      exact k_zret (pc := 47) dX1_pagesFit_47 rfl rfl (fun _ h => h) (Nat.le_refl _) (Nat.le_refl _)
    | succ j ih =>
      intro i hi
      have hi32 : i < 32 := by omega
      have step := ih (i + 1) (by omega)
      have hf := hfit i hi32
      refine k_iload_n (pc := 2) dX1_pagesFit_2 rfl ?_
      refine k_bipush (v := 32) (pc := 3) dX1_pagesFit_3 (by decide) ?_
      refine k_icmp_ge (tgt := 30) (pc := 5) dX1_pagesFit_5 (by decide) (fun c => absurd c (nI_ge (a := i) (b := 32) (by omega) (by decide))) (fun _ => ?_)
      refine k_aload_n (pc := 8) dX1_pagesFit_8 rfl ?_
      refine h_X1_21 hst (pc := 9) dX1_pagesFit_9 ?_
      refine k_iload_n (pc := 12) dX1_pagesFit_12 rfl ?_
      refine rg_ld hst (pc := 13) dX1_pagesFit_13 rfl hi32 ?_
      refine k_callC2 sv_X1_130 (hc.2.1 i hi32) (r_places hst (hc.2.1 i hi32) (hc.1.1 _ (hc.2.1 i hi32))) (pc := 14) dX1_pagesFit_14 rfl rfl (Nat.le_of_ble_eq_true rfl) (by decide) (by decide) (Nat.le_refl _) (Nat.le_refl _) ?_
      refine k_bipush (v := 32) (pc := 17) dX1_pagesFit_17 (by decide) ?_
      refine k_icmp_le (tgt := 24) (pc := 19) dX1_pagesFit_19 (by decide) (fun _ => ?_) (fun c => absurd (nI_le (b := 32) hf (by decide)) c)
      refine k_iinc (pc := 24) dX1_pagesFit_24 rfl (nI_inc _) (by decide) rfl ?_
      refine k_goto (tgt := 2) (pc := 27) dX1_pagesFit_27 (by decide) ?_
      exact step
  refine k_iconst (v := 0) (pc := 0) dX1_pagesFit_0 (by decide) ?_
  refine k_istore_n (pc := 1) dX1_pagesFit_1 (by decide) rfl ?_
  exact loop 32 0 (by omega)
set_option maxRecDepth 4000 in
theorem l_countRight (hst : CSt ad ar ow cap kd) (hc : CWF ad kd σ) (hall : xV σ = nI (((xR σ (xO σ)).filter (inL (xI σ))).length + cnS σ 0 32)) : Ct 1 0 0 yX1_countIsRight cX1_countIsRight 3 (some .boolean) G A [.ref (ad 2)] (CH G A ad ar ow cap kd it σ) (some (.int 1)) (CH G A ad ar ow cap kd it σ) := by
  refine Ct.of 2 rfl rfl (Nat.le_of_ble_eq_true rfl) ?_
  intro p l e s m below meth c hini
  have loop : ∀ j i : Nat, i + j = 32 → K p l e s m ([.ref (ad 2)] : List Value).toArray below meth c (rmm 1 0 0) yX1_countIsRight.cls cX1_countIsRight 3 (some .boolean) G A (MQ below (Qd (some (.int 1)) (CH G A ad ar ow cap kd it σ) A) ([.ref (ad 2)] : List Value).toArray s 0 0 A) 0 0 (CH G A ad ar ow cap kd it σ) 10 [some (.ref (ad 2)), some (.int (nI (((xR σ (xO σ)).filter (inL (xI σ))).length + cnS σ 0 i))), some (.int (nI i))] [] := by
    intro j
    induction j with
    | zero =>
      intro i hi
      have hi6 : i = 32 := by omega
      subst hi6
      refine k_iload_n (pc := 10) dX1_countIsRight_10 rfl ?_
      refine k_bipush (v := 32) (pc := 11) dX1_countIsRight_11 (by decide) ?_
      refine k_icmp_ge (tgt := 34) (pc := 13) dX1_countIsRight_13 (by decide) (fun _ => ?_) (fun c => absurd (by decide) c)
      refine k_iload_n (pc := 34) dX1_countIsRight_34 rfl ?_
      refine k_aload_n (pc := 35) dX1_countIsRight_35 rfl ?_
      refine h_X1_51 hst (pc := 36) dX1_countIsRight_36 ?_
      rw [hall]
      refine k_icmp_ne (tgt := 46) (pc := 39) dX1_countIsRight_39 (by decide) (fun c => absurd (rfl) c) (fun _ => ?_)
      refine k_iconst (v := 1) (pc := 42) dX1_countIsRight_42 (by decide) ?_
      refine k_goto (tgt := 47) (pc := 43) dX1_countIsRight_43 (by decide) ?_
      exact k_zret (pc := 47) dX1_countIsRight_47 rfl rfl (fun _ h => h) (Nat.le_refl _) (Nat.le_refl _)
    | succ j ih =>
      intro i hi
      have hi32 : i < 32 := by omega
      have step := ih (i + 1) (by omega)
      rw [show cnS σ 0 (i + 1) = cnS σ 0 i + cntG σ (0 + i) from rfl, Nat.zero_add, ← Nat.add_assoc, show nI (((xR σ (xO σ)).filter (inL (xI σ))).length + cnS σ 0 i + cntG σ i) = nI (((xR σ (xO σ)).filter (inL (xI σ))).length + cnS σ 0 i) + nI (cntG σ i) from Int32.ofNat_add _ _] at step
      refine k_iload_n (pc := 10) dX1_countIsRight_10 rfl ?_
      refine k_bipush (v := 32) (pc := 11) dX1_countIsRight_11 (by decide) ?_
      refine k_icmp_ge (tgt := 34) (pc := 13) dX1_countIsRight_13 (by decide) (fun c => absurd c (nI_ge (a := i) (b := 32) (by omega) (by decide))) (fun _ => ?_)
      refine k_iload_n (pc := 16) dX1_countIsRight_16 rfl ?_
      refine k_aload_n (pc := 17) dX1_countIsRight_17 rfl ?_
      refine h_X1_21 hst (pc := 18) dX1_countIsRight_18 ?_
      refine k_iload_n (pc := 21) dX1_countIsRight_21 rfl ?_
      refine rg_ld hst (pc := 22) dX1_countIsRight_22 rfl hi32 ?_
      refine k_callC2 sv_X1_126 (hc.2.1 i hi32) (r_countInLog hst (hc.2.1 i hi32) (hc.1.1 _ (hc.2.1 i hi32))) (pc := 23) dX1_countIsRight_23 rfl rfl (Nat.le_of_ble_eq_true rfl) (by decide) (by decide) (Nat.le_refl _) (Nat.le_refl _) ?_
      refine k_iadd (pc := 26) dX1_countIsRight_26 ?_
      refine k_istore_n (pc := 27) dX1_countIsRight_27 (by decide) rfl ?_
      refine k_iinc (pc := 28) dX1_countIsRight_28 rfl (nI_inc _) (by decide) rfl ?_
      refine k_goto (tgt := 10) (pc := 31) dX1_countIsRight_31 (by decide) ?_
      exact step
  have l0 := loop 32 0 (by omega)
  rw [show cnS σ 0 0 = 0 from rfl, Nat.add_zero] at l0
  refine k_aload_n (pc := 0) dX1_countIsRight_0 rfl ?_
  refine h_X1_31 hst (pc := 1) dX1_countIsRight_1 ?_
  refine k_callC2 sv_X1_126 hc.2.2.1 (r_countInLog hst hc.2.2.1 (hc.1.1 _ hc.2.2.1)) (pc := 4) dX1_countIsRight_4 rfl rfl (Nat.le_of_ble_eq_true rfl) (by decide) (by decide) (Nat.le_refl _) (Nat.le_refl _) ?_
  refine k_istore_n (pc := 7) dX1_countIsRight_7 (by decide) rfl ?_
  refine k_iconst (v := 0) (pc := 8) dX1_countIsRight_8 (by decide) ?_
  refine k_istore_n (pc := 9) dX1_countIsRight_9 (by decide) rfl ?_
  exact l0
set_option maxRecDepth 4000 in
theorem l_keysDiffer (hst : CSt ad ar ow cap kd) (hc : CWF ad kd σ) (hall : ∀ s, s < 64 → ∀ i o, (addsR (cap (ad 9)) [] (gaL ad it σ s 0))[i]? = some o → ∃ a, o = some a ∧ setN (it a).1 = s ∧ (addsR (cap (ad 9)) [] (gaL ad it σ s 0)).findIdx? (keyIs it (it a).1) = some i) : Ct 3 0 0 yX1_keysDiffer cX1_keysDiffer 2 (some .boolean) G A [.ref (ad 2)] (CH G A ad ar ow cap kd it σ) (some (.int 1)) (CH G A ad ar ow cap kd it (gatherC ad cap it σ 63 0)) := by
  refine Ct.of 1 rfl rfl (Nat.le_of_ble_eq_true rfl) ?_
  intro p l e s m below meth c hini
  have h9 : kd (ad 9) = 2 := kd_row hst (by decide) (by decide)
  have loop : ∀ j i : Nat, i + j = 64 → K p l e s m ([.ref (ad 2)] : List Value).toArray below meth c (rmm 3 0 0) yX1_keysDiffer.cls cX1_keysDiffer 2 (some .boolean) G A (MQ below (Qd (some (.int 1)) (CH G A ad ar ow cap kd it (gatherC ad cap it σ 63 0)) A) ([.ref (ad 2)] : List Value).toArray s 0 0 A) 0 0 (CH G A ad ar ow cap kd it (kdC ad cap it σ i)) 2 [some (.ref (ad 2)), some (.int (nI i))] [] := by
    intro j
    induction j with
    | zero =>
      intro i hi
      have hi6 : i = 64 := by omega
      subst hi6
      refine k_iload_n (pc := 2) dX1_keysDiffer_2 rfl ?_
      refine k_bipush (v := 64) (pc := 3) dX1_keysDiffer_3 (by decide) ?_
      refine k_icmp_ge (tgt := 33) (pc := 5) dX1_keysDiffer_5 (by decide) (fun _ => ?_) (fun c => absurd (by decide) c)
      refine k_iconst (v := 1) (pc := 33) dX1_keysDiffer_33 (by decide) ?_
      exact k_zret (pc := 34) dX1_keysDiffer_34 rfl rfl (fun _ h => h) (Nat.le_refl _) (Nat.le_refl _)
    | succ j ih =>
      intro i hi
      have hi64 : i < 64 := by omega
      have step := ih (i + 1) (by omega)
      have hci : CWF ad kd (kdC ad cap it σ i) := by
        cases i with
        | zero => exact hc
        | succ i => exact hc.gather hst _ _
      have hge : gatherC ad cap it (kdC ad cap it σ i) i 0 = gatherC ad cap it σ i 0 := by
        cases i with
        | zero => rfl
        | succ i => exact gather_9 hst hc _ _
      have hg := l_gather (G := G) (A := A) (it := it) hst hci i 0 hi64 (Nat.zero_le _)
      rw [hge] at hg
      have hcg : CWF ad kd (gatherC ad cap it σ i 0) := hc.gather hst _ _
      have hrow : xR (gatherC ad cap it σ i 0) (ad 9) = addsR (cap (ad 9)) [] (gaL ad it σ i 0) := zRr_same
      have hb := r_belongs (G := G) (A := A) (it := it) (σ := gatherC ad cap it σ i 0) hst h9 (hcg.1.1 _ h9) i (by rw [hrow]; exact hall i hi64)
      refine k_iload_n (pc := 2) dX1_keysDiffer_2 rfl ?_
      refine k_bipush (v := 64) (pc := 3) dX1_keysDiffer_3 (by decide) ?_
      refine k_icmp_ge (tgt := 33) (pc := 5) dX1_keysDiffer_5 (by decide) (fun c => absurd c (nI_ge (a := i) (b := 64) (by omega) (by decide))) (fun _ => ?_)
      refine k_aload_n (pc := 8) dX1_keysDiffer_8 rfl ?_
      refine k_iload_n (pc := 9) dX1_keysDiffer_9 rfl ?_
      refine k_iconst (v := 0) (pc := 10) dX1_keysDiffer_10 (by decide) ?_
      refine k_callC1 sv_X1_92 hst (hg) (pc := 11) dX1_keysDiffer_11 rfl rfl (Nat.le_of_ble_eq_true rfl) (by decide) (by decide) (Nat.le_refl _) (Nat.le_refl _) ?_
      refine k_aload_n (pc := 14) dX1_keysDiffer_14 rfl ?_
      refine h_X1_38 hst (pc := 15) dX1_keysDiffer_15 ?_
      refine k_iload_n (pc := 18) dX1_keysDiffer_18 rfl ?_
      refine k_callC2 sv_X1_133 h9 (hb) (pc := 19) dX1_keysDiffer_19 rfl rfl (Nat.le_of_ble_eq_true rfl) (by decide) (by decide) (Nat.le_refl _) (Nat.le_refl _) ?_
      refine k_if_ne (tgt := 27) (pc := 22) dX1_keysDiffer_22 (by decide) (fun _ => ?_) (fun c => absurd c ((show ¬ (1 : Int32) = 0 by decide)))
      refine k_iinc (pc := 27) dX1_keysDiffer_27 rfl (nI_inc _) (by decide) rfl ?_
      refine k_goto (tgt := 2) (pc := 30) dX1_keysDiffer_30 (by decide) ?_
      exact step
  refine k_iconst (v := 0) (pc := 0) dX1_keysDiffer_0 (by decide) ?_
  refine k_istore_n (pc := 1) dX1_keysDiffer_1 (by decide) rfl ?_
  exact loop 64 0 (by omega)
end LOGD
