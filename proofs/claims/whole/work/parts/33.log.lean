def CWF (ad kd : Nat → Nat) (σ : CS) : Prop := RWF ad kd σ ∧ (∀ j, j < 32 → kd (xG σ j) = 2) ∧ kd (xO σ) = 2 ∧ xH σ < 8 ∧ (∀ j, xW σ j ≤ 4) ∧ (∀ j, j < 32 → ∀ i, 8 ≤ i → i < 75 → xG σ j ≠ ad i) ∧ (∀ i, 8 ≤ i → i < 75 → xO σ ≠ ad i) ∧ (∀ j, j < 32 → xG σ j ≠ xO σ) ∧ (∀ i j, i < 32 → j < 32 → xG σ i = xG σ j → i = j)
def liveF (it : Nat → Da) (σ : CS) (r : Nat) (key : Int64) : Option Nat := ((xR σ r).find? (liveIs it (xI σ) key)).getD none
def findL (it : Nat → Da) (σ : CS) (key : Int64) : Nat → Nat → Option Nat → Option Nat
  | 0, _, o => o
  | n + 1, i, o => match o with
    | some a => some a
    | none => findL it σ key n (i + 1) (liveF it σ (xG σ i) key)
def findC (it : Nat → Da) (σ : CS) (key : Int64) : Option Nat := findL it σ key 32 0 (liveF it σ (xO σ) key)
theorem liveF_mem {it : Nat → Da} {σ : CS} {r : Nat} {key : Int64} {a : Nat} (h : liveF it σ r key = some a) : some a ∈ xR σ r ∧ (it a).1 = key ∧ xI σ a = true := by
  unfold liveF at h
  cases hf : (xR σ r).find? (liveIs it (xI σ) key) with
  | none => rw [hf] at h; cases h
  | some o =>
    rw [hf] at h
    have h1 := List.find?_some hf
    have h2 := List.mem_of_find?_eq_some hf
    have h3 : o = some a := h
    subst h3
    simp [liveIs] at h1
    exact ⟨h2, h1.1, h1.2⟩
theorem findL_ok {it : Nat → Da} {σ : CS} {key : Int64} {kd ad : Nat → Nat} (hc : CWF ad kd σ) : ∀ (n i : Nat) (o : Option Nat), i + n ≤ 32 → (∀ a, o = some a → kd a = 1 ∧ (it a).1 = key ∧ xI σ a = true) → ∀ a, findL it σ key n i o = some a → kd a = 1 ∧ (it a).1 = key ∧ xI σ a = true := by
  intro n
  induction n with
  | zero => intro i o _ ho a h; exact ho a h
  | succ n ih =>
    intro i o hi ho a h
    cases o with
    | some b => exact ho a h
    | none =>
      refine ih (i + 1) _ (by omega) (fun b hb => ?_) a h
      obtain ⟨h1, h2, h3⟩ := liveF_mem hb
      exact ⟨hc.1.1 _ (hc.2.1 i (by omega)) b h1, h2, h3⟩
theorem findC_ok {it : Nat → Da} {σ : CS} {key : Int64} {kd ad : Nat → Nat} (hc : CWF ad kd σ) {a : Nat} (h : findC it σ key = some a) : kd a = 1 ∧ (it a).1 = key ∧ xI σ a = true :=
  findL_ok hc 32 0 _ (by omega) (fun b hb => by
    obtain ⟨h1, h2, h3⟩ := liveF_mem hb
    exact ⟨hc.1.1 _ hc.2.2.1 b h1, h2, h3⟩) a h
def killC (σ : CS) (o : Option Nat) : CS × Bool := match o with
  | some a => if xI σ a = true then (zV (zI σ (va_up (xI σ) a false)) (xV σ - 1), true) else (σ, false)
  | none => (σ, false)
def wopC (σ : CS) : CS :=
  if xW σ (xH σ) < 4 then
    zRr (zT (zW (zO (zG σ (va_up (xG σ) (4 * xH σ + xW σ (xH σ)) (xO σ))) (xG σ (4 * xH σ + xW σ (xH σ)))) (va_up (xW σ) (xH σ) (xW σ (xH σ) + 1))) (inc (xT σ) 1)) (xG σ (4 * xH σ + xW σ (xH σ))) []
  else zRr σ (xO σ) []
def ringL (σ : CS) (q : Option Nat → Bool) : Nat → List (Option Nat)
  | 0 => []
  | n + 1 => ringL σ q n ++ (xR σ (xG σ ((4 * (xH σ + 1) + n) % 32))).filter q
def gaL (ad : Nat → Nat) (it : Nat → Da) (σ : CS) (s0 i : Nat) : List (Option Nat) := ((xR σ (ad 10)).drop i).filter (selO it (xI σ) s0) ++ ringL σ (selO it (xI σ) s0) 32 ++ (xR σ (xO σ)).filter (selO it (xI σ) s0)
def gatherC (ad cap : Nat → Nat) (it : Nat → Da) (σ : CS) (s0 i : Nat) : CS := zRr σ (ad 9) (addsR (cap (ad 9)) [] (gaL ad it σ s0 i))
theorem addsR_app (cp : Nat) (xs ys zs : List (Option Nat)) : addsR cp (addsR cp xs ys) zs = addsR cp xs (ys ++ zs) := by simp [addsR]
def killsC : List (Option Nat) → CS → CS
  | [], σ => σ
  | o :: os, σ => killsC os (killC σ o).1
section LOGA
variable {p : Program} {l : Launch} {e : Env} {s : State} {m : MethodId} {args : Array Value} {below : List Frame} {meth : Method} {c : Code} {R : Room} {G : Gd} {A : Nat → Prop} {Q : State → Prop} {k n : Nat} {ad ar ow cap kd : Nat → Nat} {it : Nat → Da} {σ : CS} {I0 : Heap → Prop}
set_option maxRecDepth 4000 in
theorem l_find (hst : CSt ad ar ow cap kd) (key : Int64) (hc : CWF ad kd σ) : Ct 1 0 0 yX1_find cX1_find 5 (some (.object "EmberCache$Item")) G A [.ref (ad 2), .long key] (CH G A ad ar ow cap kd it σ) (some (va_rf (findC it σ key))) (CH G A ad ar ow cap kd it σ) := by
  refine Ct.of 2 rfl rfl (Nat.le_of_ble_eq_true rfl) ?_
  intro p l e s m below meth c hini
  have loop : ∀ (n i : Nat) (o : Option Nat), i + n = 32 → findL it σ key n i o = findC it σ key → K p l e s m ([.ref (ad 2), .long key] : List Value).toArray below meth c (rmm 1 0 0) yX1_find.cls cX1_find 5 (some (.object "EmberCache$Item")) G A (MQ below (Qd (some (va_rf (findC it σ key))) (CH G A ad ar ow cap kd it σ) A) ([.ref (ad 2), .long key] : List Value).toArray s 0 0 A) 0 0 (CH G A ad ar ow cap kd it σ) 12 [some (.ref (ad 2)), some (.long key), none, some (va_rf o), some (.int (nI i))] [] := by
    intro n
    induction n with
    | zero =>
      intro i o hi hf
      have hi6 : i = 32 := by omega
      subst hi6
      have hf2 : o = findC it σ key := hf
      rw [← hf2]
      refine k_iload (pc := 12) dX1_find_12 rfl ?_
      refine k_bipush (v := 32) (pc := 14) dX1_find_14 (by decide) ?_
      refine k_icmp_ge (tgt := 41) (pc := 16) dX1_find_16 (by decide) (fun _ => ?_) (fun c => absurd (by decide) c)
      cases o with
      | none =>
        refine k_aload_nN (pc := 41) dX1_find_41 rfl ?_
        exact k_aret (pc := 42) dX1_find_42 rfl (fun _ h => h) (Nat.le_refl _) (Nat.le_refl _)
      | some a =>
        refine k_aload_n (pc := 41) dX1_find_41 rfl ?_
        exact k_aret (pc := 42) dX1_find_42 rfl (fun _ h => h) (Nat.le_refl _) (Nat.le_refl _)
    | succ n ih =>
      intro i o hi hf
      refine k_iload (pc := 12) dX1_find_12 rfl ?_
      refine k_bipush (v := 32) (pc := 14) dX1_find_14 (by decide) ?_
      refine k_icmp_ge (tgt := 41) (pc := 16) dX1_find_16 (by decide) (fun c => absurd c (nI_ge (a := i) (b := 32) (by omega) (by decide))) (fun _ => ?_)
      cases o with
      | some a =>
        have hf2 : some a = findC it σ key := hf
        rw [← hf2]
        refine k_aload_n (pc := 19) dX1_find_19 rfl ?_
        refine k_ifnonnull (tgt := 41) (pc := 20) dX1_find_20 (by decide) ?_
        refine k_aload_n (pc := 41) dX1_find_41 rfl ?_
        exact k_aret (pc := 42) dX1_find_42 rfl (fun _ h => h) (Nat.le_refl _) (Nat.le_refl _)
      | none =>
        have hgk := hc.2.1 i (by omega)
        have step := ih (i + 1) (liveF it σ (xG σ i) key) (by omega) hf
        refine k_aload_nN (pc := 19) dX1_find_19 rfl ?_
        refine k_ifnonnullN (pc := 20) dX1_find_20 ?_
        refine k_aload_n (pc := 23) dX1_find_23 rfl ?_
        refine h_X1_21 hst (pc := 24) dX1_find_24 ?_
        refine k_iload (pc := 27) dX1_find_27 rfl ?_
        refine rg_ld hst (pc := 29) dX1_find_29 rfl (by omega) ?_
        refine k_lload_n (pc := 30) dX1_find_30 rfl ?_
        refine k_callC2 sv_X1_41 hgk (r_findInLog hst hgk (hc.1.1 _ hgk) key) (pc := 31) dX1_find_31 rfl rfl (Nat.le_of_ble_eq_true rfl) (by decide) (by decide) (Nat.le_refl _) (Nat.le_refl _) ?_
        cases ho : liveF it σ (xG σ i) key with
        | none =>
          rw [ho] at step
          rw [show ((xR σ (xG σ i)).find? (liveIs it (xI σ) key)).getD none = none from ho]
          refine k_astore_nN (pc := 34) dX1_find_34 (by decide) rfl ?_
          refine k_iinc (pc := 35) dX1_find_35 rfl (nI_inc _) (by decide) rfl ?_
          refine k_goto (tgt := 12) (pc := 38) dX1_find_38 (by decide) ?_
          exact step
        | some b =>
          rw [ho] at step
          rw [show ((xR σ (xG σ i)).find? (liveIs it (xI σ) key)).getD none = some b from ho]
          refine k_astore_n (pc := 34) dX1_find_34 (by decide) rfl ?_
          refine k_iinc (pc := 35) dX1_find_35 rfl (nI_inc _) (by decide) rfl ?_
          refine k_goto (tgt := 12) (pc := 38) dX1_find_38 (by decide) ?_
          exact step
  have l0 := loop 32 0 (liveF it σ (xO σ) key) (by omega) rfl
  refine k_aload_n (pc := 0) dX1_find_0 rfl ?_
  refine h_X1_31 hst (pc := 1) dX1_find_1 ?_
  refine k_lload_n (pc := 4) dX1_find_4 rfl ?_
  refine k_callC2 sv_X1_41 hc.2.2.1 (r_findInLog hst hc.2.2.1 (hc.1.1 _ hc.2.2.1) key) (pc := 5) dX1_find_5 rfl rfl (Nat.le_of_ble_eq_true rfl) (by decide) (by decide) (Nat.le_refl _) (Nat.le_refl _) ?_
  cases ho : liveF it σ (xO σ) key with
  | none =>
    rw [ho] at l0
    rw [show ((xR σ (xO σ)).find? (liveIs it (xI σ) key)).getD none = none from ho]
    refine k_astore_nN (pc := 8) dX1_find_8 (by decide) rfl ?_
    refine k_iconst (v := 0) (pc := 9) dX1_find_9 (by decide) ?_
    refine k_istore (pc := 10) dX1_find_10 (by decide) rfl ?_
    exact l0
  | some b =>
    rw [ho] at l0
    rw [show ((xR σ (xO σ)).find? (liveIs it (xI σ) key)).getD none = some b from ho]
    refine k_astore_n (pc := 8) dX1_find_8 (by decide) rfl ?_
    refine k_iconst (v := 0) (pc := 9) dX1_find_9 (by decide) ?_
    refine k_istore (pc := 10) dX1_find_10 (by decide) rfl ?_
    exact l0
end LOGA
