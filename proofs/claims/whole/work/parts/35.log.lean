def an1 (σ : CS) (a : Nat) : CS := zT (zM σ (va_up (xM σ) a false)) (inc (xT σ) 10)
def an2 (it : Nat → Da) (σ : CS) (a : Nat) : CS := if plR it (xR σ (xO σ)) + plc (it a) ≤ 32 then an1 σ a else wopC (an1 σ a)
def addO (cap : Nat → Nat) (σ : CS) (a : Nat) : CS := zRr σ (xO σ) (addR (cap (xO σ)) (xR σ (xO σ)) (some a))
def anewC (cap : Nat → Nat) (it : Nat → Da) (σ : CS) (a : Nat) : CS := addO cap (an2 it σ a) a
theorem CWF.add {ad kd cap : Nat → Nat} {σ : CS} (h : CWF ad kd σ) {a : Nat} (ha : kd a = 1) : CWF ad kd (addO cap σ a) := by
  refine h.row (fun b hb => ?_) (fun hne hn => ?_)
  · rcases addR_mem hb with h1 | h1
    · exact h.1.1 _ h.2.2.1 b h1
    · cases h1; exact ha
  · rcases addR_mem hn with h1 | h1
    · exact h.1.2 _ h.2.2.1 hne h1
    · cases h1
theorem CWF.anw {ad kd : Nat → Nat} {it : Nat → Da} {σ : CS} (h : CWF ad kd σ) (a : Nat) : CWF ad kd (an2 it σ a) := by
  unfold an2
  split
  · exact h
  · exact CWF.wop (σ := an1 σ a) h
theorem CWF.anew {ad kd cap : Nat → Nat} {it : Nat → Da} {σ : CS} (h : CWF ad kd σ) {a : Nat} (ha : kd a = 1) : CWF ad kd (anewC cap it σ a) := CWF.add (h.anw a) ha
theorem addO_ad {ad kd cap : Nat → Nat} {σ : CS} (h : CWF ad kd σ) (a : Nat) {i : Nat} (h8 : 8 ≤ i) (hi : i < 75) : xR (addO cap σ a) (ad i) = xR σ (ad i) := zRr_ne (Ne.symm (h.2.2.2.2.2.2.1 i h8 hi))
theorem anewC_ad {ad kd cap : Nat → Nat} {it : Nat → Da} {σ : CS} (h : CWF ad kd σ) (a : Nat) {i : Nat} (h8 : 8 ≤ i) (hi : i < 75) : xR (anewC cap it σ a) (ad i) = xR σ (ad i) := by
  unfold anewC
  rw [addO_ad (h.anw a) a h8 hi]
  unfold an2
  split
  · rfl
  · exact wopC_ad (σ := an1 σ a) h h8 hi
theorem ringL_mem {σ : CS} {q : Option Nat → Bool} : ∀ {n : Nat} {o : Option Nat}, o ∈ ringL σ q n → q o = true ∧ ∃ j, j < 32 ∧ o ∈ xR σ (xG σ j) := by
  intro n
  induction n with
  | zero => intro o h; cases h
  | succ n ih =>
    intro o h
    rcases List.mem_append.mp h with h1 | h1
    · exact ih h1
    · obtain ⟨h2, h3⟩ := List.mem_filter.mp h1
      exact ⟨h3, _, Nat.mod_lt _ (by decide), h2⟩
theorem gaL_mem {ad kd ar ow cap : Nat → Nat} {it : Nat → Da} {σ : CS} (hst : CSt ad ar ow cap kd) (hc : CWF ad kd σ) {s0 i : Nat} {o : Option Nat} (h : o ∈ gaL ad it σ s0 i) : ∃ a, o = some a ∧ kd a = 1 ∧ setN (it a).1 = s0 ∧ xI σ a = true := by
  have key : ∀ r, kd r = 2 → o ∈ xR σ r → selO it (xI σ) s0 o = true → ∃ a, o = some a ∧ kd a = 1 ∧ setN (it a).1 = s0 ∧ xI σ a = true := by
    intro r hr ho hsel
    cases o with
    | none => simp [selO] at hsel
    | some a =>
      simp [selO] at hsel
      exact ⟨a, rfl, hc.1.1 r hr a ho, hsel.2, hsel.1⟩
  rcases List.mem_append.mp h with h1 | h1
  · rcases List.mem_append.mp h1 with h2 | h2
    · obtain ⟨h3, h4⟩ := List.mem_filter.mp h2
      exact key _ (kd_row hst (j := 10) (by decide) (by decide)) (List.mem_of_mem_drop h3) h4
    · obtain ⟨h3, j, hj, h4⟩ := ringL_mem h2
      exact key _ (hc.2.1 j hj) h4 h3
  · obtain ⟨h3, h4⟩ := List.mem_filter.mp h1
    exact key _ hc.2.2.1 h3 h4
theorem CWF.gather {ad kd ar ow cap : Nat → Nat} {it : Nat → Da} {σ : CS} (h : CWF ad kd σ) (hst : CSt ad ar ow cap kd) (s0 i : Nat) : CWF ad kd (gatherC ad cap it σ s0 i) := by
  refine h.row (fun b hb => ?_) (fun hne hn => ?_)
  · rcases addsR_mem hb with h1 | h1
    · cases h1
    · obtain ⟨a, e1, e2, -⟩ := gaL_mem hst h h1
      cases e1; exact e2
  · rcases addsR_mem hn with h1 | h1
    · cases h1
    · obtain ⟨a, e1, -⟩ := gaL_mem hst h h1
      cases e1
theorem CWF.take {ad kd ar ow cap : Nat → Nat} {it : Nat → Da} {σ : CS} (h : CWF ad kd σ) (hst : CSt ad ar ow cap kd) (key : Int64) (wf : Nat) : CWF ad kd (takeC ad it σ key wf).1 := by
  unfold takeC
  split
  · split
    · exact h
    · next i _ =>
      refine CWF.row (σ := zT σ (inc (xT σ) 11)) h (fun b hb => ?_) (fun hne hn => ?_)
      · exact h.1.1 _ (pgk hst key) b (List.mem_of_mem_eraseIdx hb)
      · exact h.1.2 _ (pgk hst key) hne (List.mem_of_mem_eraseIdx hn)
  · exact h
theorem takeC_ne {ad : Nat → Nat} {it : Nat → Da} {σ : CS} {key : Int64} {wf r : Nat} (h : r ≠ ad (11 + setN key)) : xR (takeC ad it σ key wf).1 r = xR σ r := by
  unfold takeC
  split
  · split
    · rfl
    · exact zRr_ne h
  · rfl
theorem CWF.move {ad kd ar ow cap : Nat → Nat} {it : Nat → Da} {σ : CS} (h : CWF ad kd σ) (hst : CSt ad ar ow cap kd) {s0 rg : Nat} (hs : s0 < 64) (hg : kd rg = 2) : CWF ad kd (moveC ad cap it σ s0 rg) := by
  have hB : ∀ a, some a ∈ (mvD3 (cap (ad 8)) it (xM σ) (xR σ (ad (11 + s0))) (xR σ rg)).1 → kd a = 1 := by
    intro a ha
    have h1 := dpS_mem _ _ _ _ _ a (dpS_mem _ _ _ _ _ a (dpS_mem _ _ _ _ _ a ha))
    rcases addsR_mem h1 with h2 | h2
    · rcases addsR_mem h2 with h2 | h2
      · cases h2
      · exact h.1.1 _ (pgs hst hs) a (List.mem_filter.mp h2).1
    · exact h.1.1 _ hg a h2
  have h1 : CWF ad kd (zRr σ (ad 8) (mvD3 (cap (ad 8)) it (xM σ) (xR σ (ad (11 + s0))) (xR σ rg)).1) := h.row hB (fun hne => absurd rfl hne)
  refine CWF.row h1 (fun b hb => ?_) (fun hne hn => ?_)
  · rcases addsR_mem hb with h2 | h2
    · cases h2
    · exact hB b (List.mem_filter.mp h2).1
  · rcases addsR_mem hn with h2 | h2
    · cases h2
    · have := (List.mem_filter.mp h2).2
      cases this
theorem moveC_ne {ad cap : Nat → Nat} {it : Nat → Da} {σ : CS} {s0 rg r : Nat} (h8 : r ≠ ad 8) (h : r ≠ ad (11 + s0)) : xR (moveC ad cap it σ s0 rg) r = xR σ r := by
  show xR (zRr (zRr σ (ad 8) _) (ad (11 + s0)) _) r = _
  rw [zRr_ne h, zRr_ne h8]
def setC (ad cap : Nat → Nat) (it : Nat → Da) (γ : CS) (a : Nat) : CS :=
  if 2 ≤ (xR γ (ad 9)).length then moveC ad cap it (killsC (xR γ (ad 9)) γ) (setN (it a).1) (ad 9)
  else if xM γ a = true then anewC cap it γ a
  else (takeC ad it (zT (killC γ (some a)).1 (inc (xT (killC γ (some a)).1) 9)) (it a).1 3).1
def settleC (ad cap : Nat → Nat) (it : Nat → Da) (σ : CS) (i : Nat) : CS := match ((xR σ (ad 10))[i]?).getD none with
  | none => σ
  | some a => if xI σ a = true then setC ad cap it (gatherC ad cap it σ (setN (it a).1) i) a else σ
theorem setC_ok {ad kd ar ow cap : Nat → Nat} {it : Nat → Da} {γ : CS} (hst : CSt ad ar ow cap kd) (h : CWF ad kd γ) {a : Nat} (ha : kd a = 1) : CWF ad kd (setC ad cap it γ a) ∧ xR (setC ad cap it γ a) (ad 10) = xR γ (ad 10) := by
  unfold setC
  split
  · refine ⟨(h.kills _).move hst (setN_lt _) (kd_row hst (by decide) (by decide)), ?_⟩
    rw [moveC_ne (adne hst (by decide) (by decide) (by decide)) (Ne.symm (pgne hst (setN_lt _) (by decide) (by decide))), killsC_R]
  · split
    · exact ⟨h.anew ha, anewC_ad h a (by decide) (by decide)⟩
    · refine ⟨CWF.take (σ := zT (killC γ (some a)).1 (inc (xT (killC γ (some a)).1) 9)) (h.kill (some a)) hst _ _, ?_⟩
      rw [takeC_ne (Ne.symm (pgne hst (setN_lt _) (by decide) (by decide)))]
      show xR (killC γ (some a)).1 (ad 10) = _
      rw [killC_R]
theorem gatherC_10 {ad kd ar ow cap : Nat → Nat} {it : Nat → Da} {σ : CS} (hst : CSt ad ar ow cap kd) (s0 i : Nat) : xR (gatherC ad cap it σ s0 i) (ad 10) = xR σ (ad 10) := zRr_ne (adne hst (by decide) (by decide) (by decide))
theorem settleC_ok {ad kd ar ow cap : Nat → Nat} {it : Nat → Da} {σ : CS} (hst : CSt ad ar ow cap kd) (h : CWF ad kd σ) (i : Nat) : CWF ad kd (settleC ad cap it σ i) ∧ xR (settleC ad cap it σ i) (ad 10) = xR σ (ad 10) := by
  unfold settleC
  split
  · exact ⟨h, rfl⟩
  · next a ha =>
    split
    · have hak : kd a = 1 := by
        cases ho : (xR σ (ad 10))[i]? with
        | none => rw [ho] at ha; cases ha
        | some o =>
          rw [ho] at ha
          have : o = some a := ha
          subst this
          exact h.1.1 _ (kd_row hst (j := 10) (by decide) (by decide)) a (List.mem_of_getElem? ho)
      obtain ⟨h1, h2⟩ := setC_ok (cap := cap) (it := it) hst (h.gather (it := it) hst (setN (it a).1) i) hak
      exact ⟨h1, h2.trans (gatherC_10 hst _ _)⟩
    · exact ⟨h, rfl⟩
section LOGC
variable {p : Program} {l : Launch} {e : Env} {s : State} {m : MethodId} {args : Array Value} {below : List Frame} {meth : Method} {c : Code} {R : Room} {G : Gd} {A : Nat → Prop} {Q : State → Prop} {k n : Nat} {ad ar ow cap kd : Nat → Nat} {it : Nat → Da} {σ : CS} {I0 : Heap → Prop}
theorem room_bd {xs : List (Option Nat)} {it : Nat → Da} {kd : Nat → Nat} {a : Nat} (hit : ∀ a, kd a = 1 → plc (it a) ≤ 15) (hw : RW kd xs) (ha : kd a = 1) (hl : xs.length ≤ 1000) : plR it xs + plc (it a) < 1000000 := by
  have h1 := plR_bd (it := it) xs (fun b hb => hit b (hw b hb))
  have h2 := hit a ha
  omega
set_option maxRecDepth 4000 in
theorem l_putAnew (hst : CSt ad ar ow cap kd) (hc : CWF ad kd σ) (hit : ∀ a, kd a = 1 → plc (it a) ≤ 15) (a : Nat) (ha : kd a = 1) : Ct 2 0 0 yX1_putAnew cX1_putAnew 2 (none) G A [.ref (ad 2), .ref a] (CH G A ad ar ow cap kd it σ) (none) (CH G A ad ar ow cap kd it (anewC cap it σ a)) := by
  refine Ct.of 0 rfl rfl (Nat.le_of_ble_eq_true rfl) ?_
  intro p l e s m below meth c hini
  have hO := hc.2.2.1
  refine k_len hst hO fun _ h1000 => ?_
  have hr := r_hasRoom (G := G) (A := A) (it := it) (σ := an1 σ a) hst hO (hc.1.1 _ hO) a ha (room_bd hit (hc.1.1 _ hO) ha h1000)
  unfold anewC an2
  by_cases hroom : plR it (xR σ (xO σ)) + plc (it a) ≤ 32
  · rw [if_pos hroom]
    rw [show decide (plR it (xR (an1 σ a) (xO σ)) + plc (it a) ≤ 32) = true from decide_eq_true hroom] at hr
    refine k_aload_n (pc := 0) dX1_putAnew_0 rfl ?_
    refine k_iconst (v := 0) (pc := 1) dX1_putAnew_1 (by decide) ?_
    refine hp_X1_105 ha (show (0 : Int32) = bI false from rfl) (pc := 2) dX1_putAnew_2 ?_
    refine k_aload_n (pc := 5) dX1_putAnew_5 rfl ?_
    refine h_X1_15 hst (pc := 6) dX1_putAnew_6 ?_
    refine k_bipush (v := 10) (pc := 9) dX1_putAnew_9 (by decide) ?_
    refine k_dup2 (pc := 11) dX1_putAnew_11 rfl rfl ?_
    refine ta_ld hst (pc := 12) dX1_putAnew_12 (show (10 : Int32) = nI 10 from rfl) (by decide) ?_
    refine k_iconst (v := 1) (pc := 13) dX1_putAnew_13 (by decide) ?_
    refine k_iadd (pc := 14) dX1_putAnew_14 ?_
    refine ta_st hst rfl (pc := 15) dX1_putAnew_15 (show (10 : Int32) = nI 10 from rfl) (by decide) ?_
    refine k_aload_n (pc := 16) dX1_putAnew_16 rfl ?_
    refine h_X1_31 hst (pc := 17) dX1_putAnew_17 ?_
    refine k_aload_n (pc := 20) dX1_putAnew_20 rfl ?_
    refine k_callC2 sv_X1_55 hO (hr) (pc := 21) dX1_putAnew_21 rfl rfl (Nat.le_of_ble_eq_true rfl) (by decide) (by decide) (Nat.le_refl _) (Nat.le_refl _) ?_
    refine k_if_ne (tgt := 31) (pc := 24) dX1_putAnew_24 (by decide) (fun _ => ?_) (fun c => absurd c ((show ¬ bI true = 0 by decide)))
    refine k_aload_n (pc := 31) dX1_putAnew_31 rfl ?_
    refine h_X1_31 hst (pc := 32) dX1_putAnew_32 ?_
    refine k_aload_n (pc := 35) dX1_putAnew_35 rfl ?_
    refine k_callC2 sv_X1_68 hO (r_add (σ := an1 σ a) hst hO a ha) (pc := 36) dX1_putAnew_36 rfl rfl (Nat.le_of_ble_eq_true rfl) (by decide) (by decide) (Nat.le_refl _) (Nat.le_refl _) ?_
    exact k_vret (pc := 39) dX1_putAnew_39 (fun _ h => h) (Nat.le_refl _) (Nat.le_refl _)
  · rw [if_neg hroom]
    rw [show decide (plR it (xR (an1 σ a) (xO σ)) + plc (it a) ≤ 32) = false from decide_eq_false hroom] at hr
    have hc1 : CWF ad kd (an1 σ a) := hc
    have hO2 := hc1.wop.2.2.1
    refine k_aload_n (pc := 0) dX1_putAnew_0 rfl ?_
    refine k_iconst (v := 0) (pc := 1) dX1_putAnew_1 (by decide) ?_
    refine hp_X1_105 ha (show (0 : Int32) = bI false from rfl) (pc := 2) dX1_putAnew_2 ?_
    refine k_aload_n (pc := 5) dX1_putAnew_5 rfl ?_
    refine h_X1_15 hst (pc := 6) dX1_putAnew_6 ?_
    refine k_bipush (v := 10) (pc := 9) dX1_putAnew_9 (by decide) ?_
    refine k_dup2 (pc := 11) dX1_putAnew_11 rfl rfl ?_
    refine ta_ld hst (pc := 12) dX1_putAnew_12 (show (10 : Int32) = nI 10 from rfl) (by decide) ?_
    refine k_iconst (v := 1) (pc := 13) dX1_putAnew_13 (by decide) ?_
    refine k_iadd (pc := 14) dX1_putAnew_14 ?_
    refine ta_st hst rfl (pc := 15) dX1_putAnew_15 (show (10 : Int32) = nI 10 from rfl) (by decide) ?_
    refine k_aload_n (pc := 16) dX1_putAnew_16 rfl ?_
    refine h_X1_31 hst (pc := 17) dX1_putAnew_17 ?_
    refine k_aload_n (pc := 20) dX1_putAnew_20 rfl ?_
    refine k_callC2 sv_X1_55 hO (hr) (pc := 21) dX1_putAnew_21 rfl rfl (Nat.le_of_ble_eq_true rfl) (by decide) (by decide) (Nat.le_refl _) (Nat.le_refl _) ?_
    refine k_if_ne (tgt := 31) (pc := 24) dX1_putAnew_24 (by decide) (fun c => absurd ((show bI false = 0 by decide)) c) (fun _ => ?_)
    refine k_aload_n (pc := 27) dX1_putAnew_27 rfl ?_
    refine k_callC1 sv_X1_59 hst (l_wop (σ := an1 σ a) hst hc1) (pc := 28) dX1_putAnew_28 rfl rfl (Nat.le_of_ble_eq_true rfl) (by decide) (by decide) (Nat.le_refl _) (Nat.le_refl _) ?_
    refine k_aload_n (pc := 31) dX1_putAnew_31 rfl ?_
    refine h_X1_31 hst (pc := 32) dX1_putAnew_32 ?_
    refine k_aload_n (pc := 35) dX1_putAnew_35 rfl ?_
    refine k_callC2 sv_X1_68 hO2 (r_add (σ := wopC (an1 σ a)) hst hO2 a ha) (pc := 36) dX1_putAnew_36 rfl rfl (Nat.le_of_ble_eq_true rfl) (by decide) (by decide) (Nat.le_refl _) (Nat.le_refl _) ?_
    exact k_vret (pc := 39) dX1_putAnew_39 (fun _ h => h) (Nat.le_refl _) (Nat.le_refl _)
set_option maxRecDepth 4000 in
theorem l_settle (hst : CSt ad ar ow cap kd) (hc : CWF ad kd σ) (hit : ∀ a, kd a = 1 → plc (it a) ≤ 15) (i0 : Nat) (hi0 : i0 < (xR σ (ad 10)).length) : Ct 3 0 0 yX1_settle cX1_settle 3 (none) G A [.ref (ad 2), .int (nI i0)] (CH G A ad ar ow cap kd it σ) (none) (CH G A ad ar ow cap kd it (settleC ad cap it σ i0)) := by
  refine Ct.of 1 rfl rfl (Nat.le_of_ble_eq_true rfl) ?_
  intro p l e s m below meth c hini
  have h9 : kd (ad 9) = 2 := kd_row hst (by decide) (by decide)
  have h10 : kd (ad 10) = 2 := kd_row hst (by decide) (by decide)
  refine k_len hst h10 fun _ h1000 => ?_
  obtain ⟨a, hea, ha⟩ := hc.1.all h10 (adne hst (by decide) (by decide) (by decide)) _ (List.getElem_mem hi0)
  have ho : (xR σ (ad 10))[i0]? = some (some a) := by rw [List.getElem?_eq_getElem hi0, hea]
  have hat : atR (xR σ (ad 10)) (nI i0) = some a := by
    unfold atR
    rw [if_neg (nI_pos (by omega)), nI_clamp (by omega), ho]
    rfl
  have hsc : settleC ad cap it σ i0 = if xI σ a = true then setC ad cap it (gatherC ad cap it σ (setN (it a).1) i0) a else σ := by
    unfold settleC
    rw [ho]
    rfl
  rw [hsc]
  have hra := r_at (G := G) (A := A) (it := it) (σ := σ) hst h10 (nI i0)
  rw [hat] at hra
  cases hI : xI σ a with
  | false =>
    rw [if_neg (by decide)]
    refine k_aload_n (pc := 0) dX1_settle_0 rfl ?_
    refine h_X1_35 hst (pc := 1) dX1_settle_1 ?_
    refine k_iload_n (pc := 4) dX1_settle_4 rfl ?_
    refine k_callC2 sv_X1_85 h10 (hra) (pc := 5) dX1_settle_5 rfl rfl (Nat.le_of_ble_eq_true rfl) (by decide) (by decide) (Nat.le_refl _) (Nat.le_refl _) ?_
    refine k_astore_n (pc := 8) dX1_settle_8 (by decide) rfl ?_
    refine k_aload_n (pc := 9) dX1_settle_9 rfl ?_
    refine k_ifnull (pc := 10) dX1_settle_10 ?_
    refine k_aload_n (pc := 13) dX1_settle_13 rfl ?_
    refine h_X1_45 ha (pc := 14) dX1_settle_14 ?_
    rw [hI]
    refine k_if_ne (tgt := 21) (pc := 17) dX1_settle_17 (by decide) (fun c => absurd ((show bI false = 0 by decide)) c) (fun _ => ?_)
    exact k_vret (pc := 20) dX1_settle_20 (fun _ h => h) (Nat.le_refl _) (Nat.le_refl _)
  | true =>
    rw [if_pos rfl]
    have hcg : CWF ad kd (gatherC ad cap it σ (setN (it a).1) i0) := hc.gather hst _ _
    have hsn := setN_lt (it a).1
    refine k_aload_n (pc := 0) dX1_settle_0 rfl ?_
    refine h_X1_35 hst (pc := 1) dX1_settle_1 ?_
    refine k_iload_n (pc := 4) dX1_settle_4 rfl ?_
    refine k_callC2 sv_X1_85 h10 (hra) (pc := 5) dX1_settle_5 rfl rfl (Nat.le_of_ble_eq_true rfl) (by decide) (by decide) (Nat.le_refl _) (Nat.le_refl _) ?_
    refine k_astore_n (pc := 8) dX1_settle_8 (by decide) rfl ?_
    refine k_aload_n (pc := 9) dX1_settle_9 rfl ?_
    refine k_ifnull (pc := 10) dX1_settle_10 ?_
    refine k_aload_n (pc := 13) dX1_settle_13 rfl ?_
    refine h_X1_45 ha (pc := 14) dX1_settle_14 ?_
    rw [hI]
    refine k_if_ne (tgt := 21) (pc := 17) dX1_settle_17 (by decide) (fun _ => ?_) (fun c => absurd c ((show ¬ bI true = 0 by decide)))
    refine k_aload_n (pc := 21) dX1_settle_21 rfl ?_
    refine k_aload_n (pc := 22) dX1_settle_22 rfl ?_
    refine h_X1_89 ha (pc := 23) dX1_settle_23 ?_
    refine k_iload_n (pc := 26) dX1_settle_26 rfl ?_
    refine k_callC1 sv_X1_92 hst (l_gather hst hc (setN (it a).1) i0 hsn (by omega)) (pc := 27) dX1_settle_27 rfl rfl (Nat.le_of_ble_eq_true rfl) (by decide) (by decide) (Nat.le_refl _) (Nat.le_refl _) ?_
    generalize gatherC ad cap it σ (setN (it a).1) i0 = γ at hcg ⊢
    refine k_len hst h9 fun _ g1000 => ?_
    refine k_aload_n (pc := 30) dX1_settle_30 rfl ?_
    refine h_X1_38 hst (pc := 31) dX1_settle_31 ?_
    refine h_X1_79 h9 (pc := 34) dX1_settle_34 ?_
    refine k_iconst (v := 2) (pc := 37) dX1_settle_37 (by decide) ?_
    unfold setC
    by_cases h2 : 2 ≤ (xR γ (ad 9)).length
    · rw [if_pos h2]
      refine k_icmp_lt (tgt := 63) (pc := 38) dX1_settle_38 (by decide) (fun c => absurd ((nI_ltI (b := 2) (by omega) (by decide)).mp c) (by omega)) (fun _ => ?_)
      have hck := hcg.kills (xR γ (ad 9))
      refine k_aload_n (pc := 41) dX1_settle_41 rfl ?_
      refine k_callC1 sv_X1_96 hst (l_killGroup hst hcg) (pc := 42) dX1_settle_42 rfl rfl (Nat.le_of_ble_eq_true rfl) (by decide) (by decide) (Nat.le_refl _) (Nat.le_refl _) ?_
      refine k_aload_n (pc := 45) dX1_settle_45 rfl ?_
      refine h_X1_9 hst (pc := 46) dX1_settle_46 ?_
      refine k_aload_n (pc := 49) dX1_settle_49 rfl ?_
      refine h_X1_89 ha (pc := 50) dX1_settle_50 ?_
      refine k_aload_n (pc := 53) dX1_settle_53 rfl ?_
      refine h_X1_38 hst (pc := 54) dX1_settle_54 ?_
      refine k_callC3 sv_X1_99 hst (s_moveIn hst (setN (it a).1) hsn h9 (adne hst (by decide) (by decide) (by decide)) (Ne.symm (pgne hst hsn (by decide) (by decide))) hck.1 hit) (pc := 57) dX1_settle_57 rfl rfl (Nat.le_of_ble_eq_true rfl) (by decide) (by decide) (Nat.le_refl _) (Nat.le_refl _) ?_
      refine k_goto (tgt := 108) (pc := 60) dX1_settle_60 (by decide) ?_
      exact k_vret (pc := 108) dX1_settle_108 (fun _ h => h) (Nat.le_refl _) (Nat.le_refl _)
    · rw [if_neg h2]
      refine k_icmp_lt (tgt := 63) (pc := 38) dX1_settle_38 (by decide) (fun _ => ?_) (fun c => absurd ((nI_ltI (b := 2) (by omega) (by decide)).mpr (by omega)) c)
      cases hM : xM γ a with
      | true =>
        rw [if_pos rfl]
        refine k_aload_n (pc := 63) dX1_settle_63 rfl ?_
        refine h_X1_105 ha (pc := 64) dX1_settle_64 ?_
        rw [hM]
        refine k_if_eq (tgt := 78) (pc := 67) dX1_settle_67 (by decide) (fun c => absurd c ((show ¬ bI true = 0 by decide))) (fun _ => ?_)
        refine k_aload_n (pc := 70) dX1_settle_70 rfl ?_
        refine k_aload_n (pc := 71) dX1_settle_71 rfl ?_
        refine k_callC1 sv_X1_108 hst (l_putAnew hst hcg hit a ha) (pc := 72) dX1_settle_72 rfl rfl (Nat.le_of_ble_eq_true rfl) (by decide) (by decide) (Nat.le_refl _) (Nat.le_refl _) ?_
        refine k_goto (tgt := 108) (pc := 75) dX1_settle_75 (by decide) ?_
        exact k_vret (pc := 108) dX1_settle_108 (fun _ h => h) (Nat.le_refl _) (Nat.le_refl _)
      | false =>
        rw [if_neg (by decide)]
        have hck : CWF ad kd (zT (killC γ (some a)).1 (inc (xT (killC γ (some a)).1) 9)) := hcg.kill (some a)
        refine k_aload_n (pc := 63) dX1_settle_63 rfl ?_
        refine h_X1_105 ha (pc := 64) dX1_settle_64 ?_
        rw [hM]
        refine k_if_eq (tgt := 78) (pc := 67) dX1_settle_67 (by decide) (fun _ => ?_) (fun c => absurd ((show bI false = 0 by decide)) c)
        refine k_aload_n (pc := 78) dX1_settle_78 rfl ?_
        refine k_aload_n (pc := 79) dX1_settle_79 rfl ?_
        refine k_callC1 sv_X1_111 hst (l_killS hst a ha) (pc := 80) dX1_settle_80 rfl rfl (Nat.le_of_ble_eq_true rfl) (by decide) (by decide) (Nat.le_refl _) (Nat.le_refl _) ?_
        refine k_pop (pc := 83) dX1_settle_83 rfl ?_
        refine k_aload_n (pc := 84) dX1_settle_84 rfl ?_
        refine h_X1_15 hst (pc := 85) dX1_settle_85 ?_
        refine k_bipush (v := 9) (pc := 88) dX1_settle_88 (by decide) ?_
        refine k_dup2 (pc := 90) dX1_settle_90 rfl rfl ?_
        refine ta_ld hst (pc := 91) dX1_settle_91 (show (9 : Int32) = nI 9 from rfl) (by decide) ?_
        refine k_iconst (v := 1) (pc := 92) dX1_settle_92 (by decide) ?_
        refine k_iadd (pc := 93) dX1_settle_93 ?_
        refine ta_st hst rfl (pc := 94) dX1_settle_94 (show (9 : Int32) = nI 9 from rfl) (by decide) ?_
        refine k_aload_n (pc := 95) dX1_settle_95 rfl ?_
        refine h_X1_9 hst (pc := 96) dX1_settle_96 ?_
        refine k_aload_n (pc := 99) dX1_settle_99 rfl ?_
        refine h_X1_114 ha (pc := 100) dX1_settle_100 ?_
        refine k_iconst (v := 3) (pc := 103) dX1_settle_103 (by decide) ?_
        refine k_callC3 sv_X1_118 hst (s_takeOut (σ := zT (killC γ (some a)).1 (inc (xT (killC γ (some a)).1) 9)) hst (it a).1 3 (by decide) hck.1) (pc := 104) dX1_settle_104 rfl rfl (Nat.le_of_ble_eq_true rfl) (by decide) (by decide) (Nat.le_refl _) (Nat.le_refl _) ?_
        refine k_pop (pc := 107) dX1_settle_107 rfl ?_
        exact k_vret (pc := 108) dX1_settle_108 (fun _ h => h) (Nat.le_refl _) (Nat.le_refl _)
end LOGC
