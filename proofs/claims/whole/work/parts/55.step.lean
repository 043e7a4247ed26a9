theorem set_mid {α : Type} (P : List α) (x y : α) (Q : List α) : (P ++ x :: Q).set P.length y = P ++ y :: Q := by
  induction P with
  | nil => rfl
  | cons p P ih => simp only [List.cons_append, List.length_cons, List.set_cons_succ, ih]
theorem get_mid {α : Type} (P : List α) (x : α) (Q : List α) : (P ++ x :: Q)[P.length]? = some x := by simp
theorem mkd_app (l m : List En) : mkd (l ++ m) = mkd l + mkd m := by unfold mkd; rw [List.filter_append, List.length_append]
theorem mkd_cons (e : En) (l : List En) : mkd (e :: l) = (if (e.2.1 && e.2.2.1) = true then 1 else 0) + mkd l := by
  unfold mkd
  rw [List.filter_cons]
  split
  · rw [List.length_cons]; omega
  · omega
theorem wopC_all {σ : CS} (hw : xW σ (xH σ) < 4) : xI (wopC σ) = xI σ ∧ xM (wopC σ) = xM σ ∧ xF (wopC σ) = xF σ ∧ xV (wopC σ) = xV σ ∧ xS (wopC σ) = xS σ ∧ xT (wopC σ) = inc (xT σ) 1 ∧ xH (wopC σ) = xH σ ∧ xW (wopC σ) = va_up (xW σ) (xH σ) (xW σ (xH σ) + 1) ∧ xC (wopC σ) = xC σ ∧ xQ (wopC σ) = xQ σ ∧ xG (wopC σ) = va_up (xG σ) (4 * xH σ + xW σ (xH σ)) (xO σ) ∧ xO (wopC σ) = xG σ (4 * xH σ + xW σ (xH σ)) := by
  have hwp : wopC σ = zRr (zT (zW (zO (zG σ (va_up (xG σ) (4 * xH σ + xW σ (xH σ)) (xO σ))) (xG σ (4 * xH σ + xW σ (xH σ)))) (va_up (xW σ) (xH σ) (xW σ (xH σ) + 1))) (inc (xT σ) 1)) (xG σ (4 * xH σ + xW σ (xH σ))) [] := if_pos hw
  rw [hwp]
  exact ⟨rfl, rfl, rfl, rfl, rfl, rfl, rfl, rfl, rfl, rfl, rfl, rfl⟩
/-- the bounds of the rows that change place -/
def CPr (cap : Nat → Nat) (σ : CS) : Prop := (∀ j, j < 32 → cap (xG σ j) = 8) ∧ cap (xO σ) = 8
theorem CPr.wop {cap : Nat → Nat} {σ : CS} (h : CPr cap σ) (hh : xH σ < 8) (hw : xW σ (xH σ) < 4) : CPr cap (wopC σ) := by
  obtain ⟨-, -, -, -, -, -, -, -, -, -, g1, g2⟩ := wopC_all hw
  refine ⟨fun j hj => ?_, ?_⟩
  · rw [g1]
    unfold va_up
    split
    · exact h.2
    · exact h.1 j hj
  · rw [g2]
    exact h.1 _ (by omega)
section ESTP
variable {ad ar ow cap kd : Nat → Nat} {it : Nat → Da} {σ : CS} {S : SS} {D : List En} {ZR : List ZE} {i M0 : Nat} {ZO1 ZO2 : List ZE} {a : Nat} {e : En}
theorem RelE.mid (h : RelE ad kd it σ S D (ZO1 ++ (a, e) :: ZO2) ZR i) : sL S = (D ++ ZO1.map Prod.snd) ++ e :: (ZO2 ++ ZR).map Prod.snd := by
  rw [h.1]
  simp
theorem RelE.at (h : RelE ad kd it σ S D (ZO1 ++ (a, e) :: ZO2) ZR i) : (sL S)[D.length + ZO1.length]? = some e := by
  rw [h.mid]
  have := get_mid (D ++ ZO1.map Prod.snd) e ((ZO2 ++ ZR).map Prod.snd)
  rwa [List.length_append, List.length_map] at this
theorem RelE.kl (h : RelE ad kd it σ S D (ZO1 ++ (a, e) :: ZO2) ZR i) : killAt (sL S) (D.length + ZO1.length) = (D ++ ZO1.map Prod.snd ++ [kill1 e]) ++ (ZO2 ++ ZR).map Prod.snd := by
  rw [killAt_set h.at, h.mid]
  have := set_mid (D ++ ZO1.map Prod.snd) e (kill1 e) ((ZO2 ++ ZR).map Prod.snd)
  rw [List.length_append, List.length_map] at this
  rw [this]
  simp
theorem RelE.dd (h : RelE ad kd it σ S D (ZO1 ++ (a, e) :: ZO2) ZR i) (hd : ∀ z ∈ ZO1, z.2.2.1 = false) : ∀ x ∈ D ++ ZO1.map Prod.snd ++ [kill1 e], isOut x = true ∧ x.2.1 = false ∧ okD x.1 := by
  intro x hx
  rcases List.mem_append.mp hx with hx | hx
  · rcases List.mem_append.mp hx with hx | hx
    · exact h.2.1 x hx
    · obtain ⟨z, hz, rfl⟩ := List.mem_map.mp hx
      exact ⟨(h.2.2.1 z (by simp [hz])).1, hd z hz, (h.2.2.1 z (by simp [hz])).2⟩
  · simp at hx
    subst hx
    have := h.2.2.1 (a, e) (by simp)
    exact ⟨this.1, rfl, this.2⟩
theorem RelE.nd (h : RelE ad kd it σ S D (ZO1 ++ (a, e) :: ZO2) ZR i) : ((ZO2 ++ ZR).map Prod.fst).Nodup ∧ ∀ z ∈ ZO2 ++ ZR, z.1 ≠ a := by
  have h4 := h.2.2.2.1
  rw [List.append_assoc, List.cons_append, List.map_append, List.nodup_append] at h4
  obtain ⟨-, k2, -⟩ := h4
  rw [List.map_cons, List.nodup_cons] at k2
  exact ⟨k2.2, fun z hz he => k2.1 (by have h9 := List.mem_map_of_mem (f := Prod.fst) hz; rw [he] at h9; exact h9)⟩
theorem RelE.za (h : RelE ad kd it σ S D (ZO1 ++ (a, e) :: ZO2) ZR i) : kd a = 1 ∧ it a = e.1 ∧ xI σ a = e.2.1 ∧ (e.2.1 = true → xM σ a = e.2.2.1) := h.2.2.2.2.1 (a, e) (by simp)
theorem RelE.z2 (h : RelE ad kd it σ S D (ZO1 ++ (a, e) :: ZO2) ZR i) : ZOk kd it σ (ZO2 ++ ZR) := fun z hz => h.2.2.2.2.1 z (by
  rcases List.mem_append.mp hz with hz | hz
  · simp [hz]
  · simp [hz])
/-- the case of one without a mark -/
theorem E_drop (hst : CSt ad ar ow cap kd) (hc : CWF ad kd σ) (h : RelE ad kd it σ S D (ZO1 ++ (a, e) :: ZO2) ZR i) (hI : InvE S (ZO1 ++ (a, e) :: ZO2) ZR M0) (hd : ∀ z ∈ ZO1, z.2.2.1 = false) (hal : e.2.1 = true) (hTi : (xR σ (ad 10))[i]? = some (some a)) :
    RelE ad kd it (takeC ad it (zT (killC σ (some a)).1 (inc (xT (killC σ (some a)).1) 9)) e.1.1 3).1 (takeS (uC (uL S (killAt (sL S) (D.length + ZO1.length))) (inc (sC S) 9)) e.1.1 3).1 (D ++ ZO1.map Prod.snd ++ [kill1 e]) ZO2 ZR (i + 1) ∧ InvE (takeS (uC (uL S (killAt (sL S) (D.length + ZO1.length))) (inc (sC S) 9)) e.1.1 3).1 ZO2 ZR M0 := by
  have hkl := h.kl
  have hat := h.at
  have hdd := h.dd hd
  obtain ⟨n1, n2⟩ := h.nd
  obtain ⟨a1, a2, a3, a4⟩ := h.za
  have hz2 := h.z2
  have hmid := h.mid
  obtain ⟨h1, h2, h3, h4, h5, h6, h7, h8⟩ := h
  obtain ⟨i1, i2, i3, i4, i5, i6, i7, i8, i9, i10, i11⟩ := hI
  have hs := setN_lt e.1.1
  have hkc : killC σ (some a) = (zV (zI σ (va_up (xI σ) a false)) (xV σ - 1), true) := by simp [killC, a3, hal]
  have hsg : zT (killC σ (some a)).1 (inc (xT (killC σ (some a)).1) 9) = zT (zV (zI σ (va_up (xI σ) a false)) (xV σ - 1)) (inc (xT σ) 9) := by rw [hkc]; rfl
  rw [hsg]
  have r0 := h7.kill (a := a) hat hal
  have r1 : RB ad kd it (zT (zV (zI σ (va_up (xI σ) a false)) (xV σ - 1)) (inc (xT σ) 9)) (uC (uL S (killAt (sL S) (D.length + ZO1.length))) (inc (sC S) 9)) := by
    obtain ⟨k1, k2, k3, k4, k5, k6⟩ := r0
    exact ⟨k1, k2, k3, k4, (by show inc (xT σ) 9 = inc (sC S) 9; rw [show xT σ = sC S from k5]), k6⟩
  obtain ⟨r2, r3, -⟩ := r1.take hst i3 e.1.1 3
  obtain ⟨t1, t2, t3, t4⟩ := takeC_log (ad := ad) (it := it) (σ := zT (zV (zI σ (va_up (xI σ) a false)) (xV σ - 1)) (inc (xT σ) 9)) (key := e.1.1) (wf := 3)
  obtain ⟨s1, s2, s3, s4⟩ := takeS_log (S := uC (uL S (killAt (sL S) (D.length + ZO1.length))) (inc (sC S) 9)) (key := e.1.1) (wf := 3)
  have hsub : List.Sublist (ZO2 ++ ZR) ((ZO1 ++ (a, e) :: ZO2) ++ ZR) := by
    rw [List.append_assoc]
    exact (List.sublist_cons_self (a, e) (ZO2 ++ ZR)).trans (List.sublist_append_right ZO1 _)
  refine ⟨⟨by rw [s1]; exact hkl, hdd, fun z hz => h3 z (by simp [hz]), n1, fun z hz => ?_, ⟨fun j hj => ?_, ?_⟩, r2, ?_⟩, ?_, List.Pairwise.sublist (hsub.map _) i2, r3, by rw [s2]; exact i4, by rw [s3]; exact i5, by rw [s2, s3]; exact i6, ?_, ?_, ?_, ?_, ?_⟩
  · obtain ⟨k1, k2, k3, k4⟩ := hz2 z hz
    refine ⟨k1, k2, ?_, by rw [t2]; exact k4⟩
    rw [t1]
    show va_up (xI σ) a false z.1 = _
    rw [va_up_ne _ _ (n2 z hz)]
    exact k3
  · rw [show xG (takeC ad it (zT (zV (zI σ (va_up (xI σ) a false)) (xV σ - 1)) (inc (xT σ) 9)) e.1.1 3).1 = xG σ from t3, takeC_ne (hc.2.2.2.2.2.1 j hj _ (by omega) (by omega))]
    exact h6.1 j hj
  · rw [show xO (takeC ad it (zT (zV (zI σ (va_up (xI σ) a false)) (xV σ - 1)) (inc (xT σ) 9)) e.1.1 3).1 = xO σ from t4, takeC_ne (hc.2.2.2.2.2.2.1 _ (by omega) (by omega))]
    exact h6.2
  · rw [takeC_ne (Ne.symm (pgne hst hs (by decide) (by decide))), t1]
    have := T_step (il' := va_up (xI σ) a false) (g := id) h8 hd hal hTi (by rw [a3]; exact hal) (fun b hb => by
      unfold va_up at hb
      split at hb
      · cases hb
      · exact hb) (fun z hz => ⟨rfl, by
        have hzm : z ∈ ZO2 ++ ZR := List.mem_append_left _ hz
        rw [va_up_ne _ _ (n2 z hzm), (hz2 z hzm).2.2.1]
        rfl, fun q => q⟩)
    rw [List.map_id] at this
    exact this
  · rw [s2, s3, s4]
    exact i1
  · rw [s2, s3, s4]
    rw [List.map_append, List.map_cons] at i7
    exact (safe_skip _ i7).2.1
  · rw [s1]
    have := cnt_kill hat hal
    rw [← killAt_set hat] at this
    show ((killAt (sL S) (D.length + ZO1.length)).filter (fun x => x.2.1)).length ≤ 264
    omega
  · rw [s1]
    show (killAt (sL S) (D.length + ZO1.length)).length + _ ≤ _
    rw [killAt_set hat, List.length_set]
    rw [List.length_append, List.length_cons] at i9
    omega
  · rw [s1]
    show mkd (killAt (sL S) (D.length + ZO1.length)) ≤ _
    have e1 : mkd (killAt (sL S) (D.length + ZO1.length)) ≤ mkd (sL S) := by
      rw [hkl, hmid, mkd_app, mkd_app, mkd_app, mkd_app, mkd_cons, mkd_cons, mkd_app]
      simp [kill1, mkd]
    omega
  · rw [s1, s4]
    intro ho
    have e1 : mkd (killAt (sL S) (D.length + ZO1.length)) ≤ mkd (sL S) := by
      rw [hkl, hmid, mkd_app, mkd_app, mkd_app, mkd_app, mkd_cons, mkd_cons, mkd_app]
      simp [kill1, mkd]
    exact Nat.lt_of_le_of_lt e1 (i11 ho)
end ESTP
