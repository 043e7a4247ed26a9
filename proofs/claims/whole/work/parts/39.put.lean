def newS (σ : CS) (q : Nat) : CS := zM (zI σ (va_up (xI σ) q false)) (va_up (xM σ) q false)
def Frs (kd : Nat → Nat) (q : Nat) : Prop := ∀ j, 1 ≤ j → j ≤ 11 → kd q ≠ j
section NEWI
variable {ad ar ow cap kd : Nat → Nat} {it : Nat → Da} {σ : CS} {sz : Nat → Int32} {ct : Nat → Nat → Option Nat} {q : Nat} {d : Da}
theorem cw_none (h : cw ad ar ow cap kd it σ sz ct q = none) : Frs kd q := by
  intro j h1 h2 hk
  rw [cw_at hk] at h
  have hj : j = 1 ∨ j = 2 ∨ j = 3 ∨ j = 4 ∨ j = 5 ∨ j = 6 ∨ j = 7 ∨ j = 8 ∨ j = 9 ∨ j = 10 ∨ j = 11 := by omega
  rcases hj with rfl | rfl | rfl | rfl | rfl | rfl | rfl | rfl | rfl | rfl | rfl <;> simp [cwk] at h
theorem cw_new : us (cw ad ar ow cap kd it σ sz ct) q (itC d false false) = cw ad ar ow cap (va_up kd q 1) (va_up it q d) (newS σ q) sz ct := by
  funext b
  by_cases hb : b = q
  · subst hb
    rw [us_same, cw_at (va_up_self _ _ _)]
    simp only [cwk, newS, va_up_self, zM_M, zM_I, zI_I]
  · rw [us_ne _ _ hb]
    unfold cw
    rw [va_up_ne _ _ hb]
    unfold cwk
    simp only [newS, zM_M, zM_I, zI_I, va_up_ne _ _ hb]
    rfl
theorem new_kd {j r : Nat} (hf : Frs kd q) (hj : 2 ≤ j) (hj2 : j ≤ 11) : va_up kd q 1 r = j ↔ kd r = j := by
  by_cases hr : r = q
  · subst hr
    rw [va_up_self]
    exact ⟨fun z => by omega, fun z => absurd z (hf j (by omega) hj2)⟩
  · rw [va_up_ne _ _ hr]
theorem new_kd1 {r : Nat} (h : kd r = 1) : va_up kd q 1 r = 1 := by
  by_cases hr : r = q
  · subst hr; rw [va_up_self]
  · rw [va_up_ne _ _ hr]; exact h
theorem CSt.new (hst : CSt ad ar ow cap kd) (hf : Frs kd q) : CSt ad ar ow cap (va_up kd q 1) := by
  obtain ⟨h1, h2, h3, h4, h5⟩ := hst
  refine ⟨fun j hj a => (new_kd hf (by omega) (by omega)).trans (h1 j hj a), fun j h8 hj => (new_kd hf (by omega) (by omega)).mpr (h2 j h8 hj), fun r hr => ?_, fun a ha => ?_, h5⟩
  · obtain ⟨k1, k2, k3⟩ := h3 r ((new_kd hf (by omega) (by omega)).mp hr)
    exact ⟨(new_kd hf (by omega) (by omega)).mpr k1, k2, k3⟩
  · obtain ⟨k1, k2⟩ := h4 a ((new_kd hf (by omega) (by omega)).mp ha)
    exact ⟨(new_kd hf (by omega) (by omega)).mpr k1, k2⟩
theorem CWF.new (hc : CWF ad kd σ) (hf : Frs kd q) : CWF ad (va_up kd q 1) (newS σ q) := by
  obtain ⟨⟨h1, h2⟩, h3, h4, h5⟩ := hc
  exact ⟨⟨fun r hr a ha => new_kd1 (h1 r ((new_kd hf (by omega) (by omega)).mp hr) a ha), fun r hr => h2 r ((new_kd hf (by omega) (by omega)).mp hr)⟩, fun j hj => (new_kd hf (by omega) (by omega)).mpr (h3 j hj), (new_kd hf (by omega) (by omega)).mpr h4, h5⟩
theorem RLs.new (h : RLs cap kd σ sz ct) (hf : Frs kd q) : RLs cap (va_up kd q 1) (newS σ q) sz ct := fun r hr => h r ((new_kd hf (by omega) (by omega)).mp hr)
end NEWI
def putK (ad cap : Nat → Nat) (it : Nat → Da) (σ : CS) (key : Int64) : CS := (killC σ (findC it σ key)).1
def putC (ad cap : Nat → Nat) (it : Nat → Da) (σ : CS) (d : Da) (q : Nat) : CS := appendC ad cap (va_up it q d) (newS (putK ad cap it σ d.1) q) q
section PUT
variable {p : Program} {l : Launch} {e : Env} {s : State} {m : MethodId} {args : Array Value} {below : List Frame} {meth : Method} {c : Code} {R : Room} {G : Gd} {A : Nat → Prop} {Q : State → Prop} {k n : Nat} {ad ar ow cap kd : Nat → Nat} {it : Nat → Da} {σ : CS} {I0 : Heap → Prop}
set_option maxRecDepth 4000 in
theorem e_putShut (hst : CSt ad ar ow cap kd) (key : Int64) (n0 f t : Int32) (hx : xC σ = true) : Ct 0 1 9 yX4_put cX4_put 6 (some .int) G A [.ref (ad 0), .long key, .int n0, .int f, .int t] (CH G A ad ar ow cap kd it σ) (some (.int (-2))) (CH G A ad ar ow cap kd it σ) := by
  refine Ct.of 0 rfl rfl (Nat.le_of_ble_eq_true rfl) ?_
  intro p l e s m below meth c hini
  refine k_aload_n (pc := 0) dX4_put_0 rfl ?_
  refine h_X4_31 hst (pc := 1) dX4_put_1 ?_
  rw [hx]
  refine k_if_eq (tgt := 10) (pc := 4) dX4_put_4 (by decide) (fun c => absurd c ((show ¬ bI true = 0 by decide))) (fun _ => ?_)
  refine k_bipush (v := -2) (pc := 7) dX4_put_7 (by decide) ?_
  exact k_iret (pc := 9) dX4_put_9 rfl (fun _ h => h) (Nat.zero_le _) (Nat.zero_le _)
set_option maxRecDepth 4000 in
theorem e_putBad (hst : CSt ad ar ow cap kd) (key : Int64) (n0 f t : Int32) (hx : xC σ = false) (hn : badN n0 = true) : Ct 0 1 9 yX4_put cX4_put 6 (some .int) G A [.ref (ad 0), .long key, .int n0, .int f, .int t] (CH G A ad ar ow cap kd it σ) (some (.int (-1))) (CH G A ad ar ow cap kd it σ) := by
  refine Ct.of 0 rfl rfl (Nat.le_of_ble_eq_true rfl) ?_
  intro p l e s m below meth c hini
  refine k_aload_n (pc := 0) dX4_put_0 rfl ?_
  refine h_X4_31 hst (pc := 1) dX4_put_1 ?_
  rw [hx]
  refine k_if_eq (tgt := 10) (pc := 4) dX4_put_4 (by decide) (fun _ => ?_) (fun c => absurd ((show bI false = 0 by decide)) c)
  refine k_iload_n (pc := 10) dX4_put_10 rfl ?_
  refine k_iconst (v := 1) (pc := 11) dX4_put_11 (by decide) ?_
  refine k_icmp_lt (tgt := 21) (pc := 12) dX4_put_12 (by decide) (fun h1 => ?_) (fun h1 => ?_)
  · refine k_iconst (v := -1) (pc := 21) dX4_put_21 (by decide) ?_
    exact k_iret (pc := 22) dX4_put_22 rfl (fun _ h => h) (Nat.zero_le _) (Nat.zero_le _)
  · have h2 : ¬ n0 ≤ 12 := by
      intro z
      simp only [badN, Bool.or_eq_true, decide_eq_true_eq] at hn
      rcases hn with q | q
      · exact h1 q
      · exact absurd (Int32.lt_of_lt_of_le q z) (by decide)
    refine k_iload_n (pc := 15) dX4_put_15 rfl ?_
    refine k_bipush (v := 12) (pc := 16) dX4_put_16 (by decide) ?_
    refine k_icmp_le (tgt := 23) (pc := 18) dX4_put_18 (by decide) (fun c => absurd c (h2)) (fun _ => ?_)
    refine k_iconst (v := -1) (pc := 21) dX4_put_21 (by decide) ?_
    exact k_iret (pc := 22) dX4_put_22 rfl (fun _ h => h) (Nat.zero_le _) (Nat.zero_le _)
set_option maxRecDepth 4000 in
theorem e_put (hst : CSt ad ar ow cap kd) (key : Int64) (n0 f t : Int32) (hx : xC σ = false) (hn : badN n0 = false) (hc : CWF ad kd σ) (hit : ∀ a, kd a = 1 → plc (it a) ≤ 15) : Ct 6 1 9 yX4_put cX4_put 6 (some .int) G A [.ref (ad 0), .long key, .int n0, .int f, .int t] (CH G A ad ar ow cap kd it σ) (some (.int 1)) (fun H => ∃ q, Frs kd q ∧ CH G A ad ar ow cap (va_up kd q 1) (va_up it q (key, n0.toNatClampNeg, f, t)) (putC ad cap it σ (key, n0.toNatClampNeg, f, t) q) H) := by
  refine Ct.of 0 rfl rfl (Nat.le_of_ble_eq_true rfl) ?_
  intro p l e s m below meth c hini
  simp only [badN, Bool.or_eq_false_iff, decide_eq_false_iff_not] at hn
  obtain ⟨hn1, hn2⟩ := hn
  have hneg : ¬ n0 < 0 := fun z => hn1 (Int32.lt_trans z (by decide))
  obtain ⟨j, hj, e3⟩ := nI_of hneg
  have hj12 : j ≤ 12 := by
    rcases Nat.lt_or_ge 12 j with q | q
    · exact absurd (e3 ▸ nI_lt (a := 12) q hj) hn2
    · exact q
  subst e3
  rw [nI_clamp hj]
  have hck := hc.kill (findC it σ key)
  refine k_aload_n (pc := 0) dX4_put_0 rfl ?_
  refine h_X4_31 hst (pc := 1) dX4_put_1 ?_
  rw [hx]
  refine k_if_eq (tgt := 10) (pc := 4) dX4_put_4 (by decide) (fun _ => ?_) (fun c => absurd ((show bI false = 0 by decide)) c)
  refine k_iload_n (pc := 10) dX4_put_10 rfl ?_
  refine k_iconst (v := 1) (pc := 11) dX4_put_11 (by decide) ?_
  refine k_icmp_lt (tgt := 21) (pc := 12) dX4_put_12 (by decide) (fun c => absurd c (hn1)) (fun _ => ?_)
  refine k_iload_n (pc := 15) dX4_put_15 rfl ?_
  refine k_bipush (v := 12) (pc := 16) dX4_put_16 (by decide) ?_
  refine k_icmp_le (tgt := 23) (pc := 18) dX4_put_18 (by decide) (fun _ => ?_) (fun c => absurd ((Int32.not_lt.mp hn2)) c)
  refine k_aload_n (pc := 23) dX4_put_23 rfl ?_
  refine h_X4_27 hst (pc := 24) dX4_put_24 ?_
  refine k_aload_n (pc := 27) dX4_put_27 rfl ?_
  refine h_X4_27 hst (pc := 28) dX4_put_28 ?_
  refine k_lload_n (pc := 31) dX4_put_31 rfl ?_
  refine k_callC1 sv_X4_35 hst (l_find hst key hc) (pc := 32) dX4_put_32 rfl rfl (Nat.le_of_ble_eq_true rfl) (by decide) (by decide) (by decide) (by decide) ?_
  refine k_callC1 sv_X4_39 hst (l_kill hst (findC it σ key) (fun a ha => (findC_ok hc ha).1)) (pc := 35) dX4_put_35 rfl rfl (Nat.le_of_ble_eq_true rfl) (by decide) (by decide) (by decide) (by decide) ?_
  refine k_pop (pc := 38) dX4_put_38 rfl ?_
  refine k_aload_n (pc := 39) dX4_put_39 rfl ?_
  refine h_X4_27 hst (pc := 40) dX4_put_40 ?_
  refine k_openC fun sz ct hr => ?_
  refine k_new (fs := [.long 0, .int 0, .long 0, .int 0, .int 0, .int 0, .int 0, .int 0, .int 0]) tyX0 (ci := 0) rfl inX0 tyX0_ok gw_143 gw_144 gw_7 (by decide) (by decide) (by decide) (pc := 43) dX4_put_43 fun q hq => ?_
  have hf := cw_none hq
  refine k_dup (pc := 46) dX4_put_46 rfl ?_
  refine k_lload_n (pc := 47) dX4_put_47 rfl ?_
  refine k_iload_n (pc := 48) dX4_put_48 rfl ?_
  refine k_iload (pc := 49) dX4_put_49 rfl ?_
  refine k_iload (pc := 51) dX4_put_51 rfl ?_
  refine k_callI si_X4_45 (e_item q key j f t) (pc := 53) dX4_put_53 rfl rfl (Nat.le_of_ble_eq_true rfl) (by decide) (by decide) (by decide) (by decide) ?_
  rw [cw_new]
  refine k_closeC (hr.new hf) ?_
  have happ := l_append (G := G) (A := A) (it := va_up it q (key, j, f, t)) (hst.new hf) (hck.new hf) (fun a ha => by
    by_cases haq : a = q
    · subst haq
      rw [va_up_self]
      show 3 + j ≤ 15
      omega
    · rw [va_up_ne _ _ haq] at ha ⊢
      exact hit a ha) q (va_up_self _ _ _)
  refine k_callC1 sv_X4_48 (hst.new hf) happ (pc := 56) dX4_put_56 rfl rfl (Nat.le_of_ble_eq_true rfl) (by decide) (by decide) (by decide) (by decide) ?_
  refine k_iconst (v := 1) (pc := 59) dX4_put_59 (by decide) ?_
  exact k_iret (pc := 60) dX4_put_60 rfl (fun H hH => ⟨q, hf, hH⟩) (by decide) (by decide)
end PUT
