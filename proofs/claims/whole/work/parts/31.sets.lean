theorem addR_mem {cp : Nat} {xs : List (Option Nat)} {o x : Option Nat} (h : x ∈ addR cp xs o) : x ∈ xs ∨ x = o := by
  unfold addR at h
  split at h
  · simpa using h
  · exact Or.inl h
theorem addsR_mem {cp : Nat} : ∀ {ys xs : List (Option Nat)} {x : Option Nat}, x ∈ addsR cp xs ys → x ∈ xs ∨ x ∈ ys := by
  intro ys
  induction ys with
  | nil => intro xs x h; exact Or.inl h
  | cons y ys ih =>
    intro xs x h
    have h1 : x ∈ addsR cp (addR cp xs y) ys := h
    rcases ih h1 with h2 | h2
    · rcases addR_mem h2 with h3 | h3
      · exact Or.inl h3
      · exact Or.inr (by rw [h3]; exact List.mem_cons_self)
    · exact Or.inr (List.mem_cons_of_mem _ h2)
theorem dpS_len {it : Nat → Da} {mk : Nat → Bool} {sp : Bool} : ∀ (n i : Nat) (B : List (Option Nat)) (l : Int) (c : Nat), (dpS it mk sp n i B l c).1.length = B.length := by
  intro n
  induction n with
  | zero => intro i B l c; rfl
  | succ n ih =>
    intro i B l c
    simp only [dpS]
    split
    · rfl
    · split
      · split
        · exact ih _ _ _ _
        · rw [ih, List.length_set]
      · exact ih _ _ _ _
theorem dpS_mem {it : Nat → Da} {mk : Nat → Bool} {sp : Bool} : ∀ (n i : Nat) (B : List (Option Nat)) (l : Int) (c : Nat) (a : Nat), some a ∈ (dpS it mk sp n i B l c).1 → some a ∈ B := by
  intro n
  induction n with
  | zero => intro i B l c a h; exact h
  | succ n ih =>
    intro i B l c a h
    simp only [dpS] at h
    split at h
    · exact h
    · split at h
      · split at h
        · exact ih _ _ _ _ a h
        · rcases List.mem_or_eq_of_mem_set (ih _ _ _ _ a h) with h2 | h2
          · exact h2
          · cases h2
      · exact ih _ _ _ _ a h
theorem dpS_bd {it : Nat → Da} {mk : Nat → Bool} {sp : Bool} : ∀ (n i : Nat) (B : List (Option Nat)) (l : Int) (c : Nat), (∀ a, some a ∈ B → plc (it a) ≤ 15) → l - 15 * n ≤ (dpS it mk sp n i B l c).2.1 ∧ (dpS it mk sp n i B l c).2.1 ≤ l := by
  intro n
  induction n with
  | zero => intro i B l c _; simp [dpS]
  | succ n ih =>
    intro i B l c hB
    simp only [dpS]
    split
    · simp; omega
    · split
      · next a ha =>
        split
        · have := ih (i + 1) B l c hB; omega
        · have h1 := hB a (List.mem_of_getElem? ha)
          have := ih (i + 1) (B.set i none) (l - plc (it a)) (c + 1) (fun b hb => hB b (by
            rcases List.mem_or_eq_of_mem_set hb with h2 | h2
            · exact h2
            · cases h2))
          omega
      · have := ih (i + 1) B l c hB; omega
theorem plR_bd {it : Nat → Da} : ∀ (xs : List (Option Nat)), (∀ a, some a ∈ xs → plc (it a) ≤ 15) → plR it xs ≤ 15 * xs.length := by
  intro xs
  induction xs with
  | nil => intro _; simp [plR]
  | cons o xs ih =>
    intro h
    have h1 := ih (fun a ha => h a (List.mem_cons_of_mem _ ha))
    have e1 : plR it (o :: xs) = plO it o + plR it xs := by simp [plR]
    have h2 : plO it o ≤ 15 := by
      cases o with
      | none => simp [plO]
      | some a => exact h a List.mem_cons_self
    rw [e1]
    simp only [List.length_cons]
    omega
/-- moveIn on lists: the bench behind the three passes, and what they dropped -/
def mvB0 (cp : Nat) (it : Nat → Da) (pgl grl : List (Option Nat)) : List (Option Nat) := addsR cp [] (pgl.filter (notIn it grl))
def mvB1 (cp : Nat) (it : Nat → Da) (pgl grl : List (Option Nat)) : List (Option Nat) := addsR cp (mvB0 cp it pgl grl) grl
def mvD1 (cp : Nat) (it : Nat → Da) (mk : Nat → Bool) (pgl grl : List (Option Nat)) : List (Option Nat) × Int × Nat := dpS it mk true (mvB0 cp it pgl grl).length 0 (mvB1 cp it pgl grl) ((plR it (mvB1 cp it pgl grl) : Int) - 32) 0
def mvD2 (cp : Nat) (it : Nat → Da) (mk : Nat → Bool) (pgl grl : List (Option Nat)) : List (Option Nat) × Int × Nat := dpS it mk false (mvB0 cp it pgl grl).length 0 (mvD1 cp it mk pgl grl).1 (mvD1 cp it mk pgl grl).2.1 0
def mvD3 (cp : Nat) (it : Nat → Da) (mk : Nat → Bool) (pgl grl : List (Option Nat)) : List (Option Nat) × Int × Nat := dpS it mk false ((mvB1 cp it pgl grl).length - (mvB0 cp it pgl grl).length) (mvB0 cp it pgl grl).length (mvD2 cp it mk pgl grl).1 (mvD2 cp it mk pgl grl).2.1 0
def mvPg (cp cq : Nat) (it : Nat → Da) (mk : Nat → Bool) (pgl grl : List (Option Nat)) : List (Option Nat) := addsR cq [] ((mvD3 cp it mk pgl grl).1.filter Option.isSome)
def mvT (cp : Nat) (it : Nat → Da) (mk : Nat → Bool) (pgl grl : List (Option Nat)) (t : Nat → Int32) : Nat → Int32 :=
  inc (addT (addT (addT (addT (inc t 11) 5 grl.length) 6 (mvD1 cp it mk pgl grl).2.2) 7 (mvD2 cp it mk pgl grl).2.2) 8 (mvD3 cp it mk pgl grl).2.2) 2
def moveC (ad cap : Nat → Nat) (it : Nat → Da) (σ : CS) (s0 rg : Nat) : CS :=
  zT (zF (zS (zM (zRr (zRr σ (ad 8) (mvD3 (cap (ad 8)) it (xM σ) (xR σ (ad (11 + s0))) (xR σ rg)).1) (ad (11 + s0)) (mvPg (cap (ad 8)) (cap (ad (11 + s0))) it (xM σ) (xR σ (ad (11 + s0))) (xR σ rg)))
    (clrM (xM σ) (mvD3 (cap (ad 8)) it (xM σ) (xR σ (ad (11 + s0))) (xR σ rg)).1))
    (xS σ - nI (xR σ (ad (11 + s0))).length + nI (mvPg (cap (ad 8)) (cap (ad (11 + s0))) it (xM σ) (xR σ (ad (11 + s0))) (xR σ rg)).length))
    (va_up (xF σ) s0 (flR it (mvPg (cap (ad 8)) (cap (ad (11 + s0))) it (xM σ) (xR σ (ad (11 + s0))) (xR σ rg)))))
    (mvT (cap (ad 8)) it (xM σ) (xR σ (ad (11 + s0))) (xR σ rg) (xT σ))
theorem addsR_ge {cp : Nat} : ∀ (ys xs : List (Option Nat)), xs.length ≤ (addsR cp xs ys).length := by
  intro ys
  induction ys with
  | nil => intro xs; exact Nat.le_refl _
  | cons y ys ih =>
    intro xs
    have h1 : addsR cp xs (y :: ys) = addsR cp (addR cp xs y) ys := rfl
    rw [h1]
    refine Nat.le_trans ?_ (ih _)
    unfold addR
    split
    · simp
    · exact Nat.le_refl _
theorem zz_TR {τ : CS} {r : Nat} {L L' : List (Option Nat)} {t1 t2 : Nat → Int32} : zT (zRr (zT (zRr τ r L) t1) r L') t2 = zT (zRr τ r L') t2 := by
  have h : va_up (va_up (xR τ) r L) r L' = va_up (xR τ) r L' := by
    funext q
    unfold va_up
    split <;> rfl
  show zT (zR (zT (zR τ (va_up (xR τ) r L)) t1) (va_up (va_up (xR τ) r L) r L')) t2 = _
  rw [h]
  rfl
theorem addT_inc (t : Nat → Int32) (j : Nat) (x : Int32) (n : Nat) (h : x = nI n) : va_up t j (t j + x) = addT t j n := by rw [h]; rfl
section SETU
variable {p : Program} {l : Launch} {e : Env} {s : State} {m : MethodId} {args : Array Value} {below : List Frame} {meth : Method} {c : Code} {R : Room} {G : Gd} {A : Nat → Prop} {Q : State → Prop} {k n : Nat} {ad ar ow cap kd : Nat → Nat} {it : Nat → Da} {σ : CS} {I0 : Heap → Prop}
set_option maxRecDepth 4000 in
theorem s_moveIn (hst : CSt ad ar ow cap kd) (s0 : Nat) (hs : s0 < 64) {rg : Nat} (hg : kd rg = 2) (hg8 : rg ≠ ad 8) (hgp : rg ≠ ad (11 + s0)) (hw : RWF ad kd σ) (hit : ∀ a, kd a = 1 → plc (it a) ≤ 15) : Ct 2 0 0 yX3_moveIn cX3_moveIn 6 (none) G A [.ref (ad 1), .int (nI s0), .ref rg] (CH G A ad ar ow cap kd it σ) (none) (CH G A ad ar ow cap kd it (moveC ad cap it σ s0 rg)) := by
  refine Ct.of 3 rfl rfl (Nat.le_of_ble_eq_true rfl) ?_
  intro p l e s m below meth c hini
  have h8 : kd (ad 8) = 2 := kd_row hst (by decide) (by decide)
  have hpk := pgs hst hs
  have hp8 : ad (11 + s0) ≠ ad 8 := pgne hst hs (by decide) (by decide)
  refine k_len hst hpk fun _ p1000 => ?_
  refine k_len hst hg fun _ g1000 => ?_
  unfold moveC
  generalize hpgl : xR σ (ad (11 + s0)) = pgl at *
  generalize hgrl : xR σ rg = grl at *
  generalize hcp : cap (ad 8) = cp at *
  generalize hcq : cap (ad (11 + s0)) = cq at *
  have hpw : RW kd pgl := by rw [← hpgl]; exact hw.1 _ hpk
  have hgw : RW kd grl := by rw [← hgrl]; exact hw.1 _ hg
  have hB1w : RW kd (mvB1 cp it pgl grl) := by
    intro a ha
    rcases addsR_mem ha with h | h
    · rcases addsR_mem h with h | h
      · cases h
      · exact hpw a (List.mem_filter.mp h).1
    · exact hgw a h
  have hB1p : ∀ a, some a ∈ mvB1 cp it pgl grl → plc (it a) ≤ 15 := fun a ha => hit a (hB1w a ha)
  have hD1m : ∀ a, some a ∈ (mvD1 cp it (xM σ) pgl grl).1 → some a ∈ mvB1 cp it pgl grl := fun a ha => dpS_mem _ _ _ _ _ a ha
  have hD2m : ∀ a, some a ∈ (mvD2 cp it (xM σ) pgl grl).1 → some a ∈ mvB1 cp it pgl grl := fun a ha => hD1m a (dpS_mem _ _ _ _ _ a ha)
  have hD3m : ∀ a, some a ∈ (mvD3 cp it (xM σ) pgl grl).1 → some a ∈ mvB1 cp it pgl grl := fun a ha => hD2m a (dpS_mem _ _ _ _ _ a ha)
  have hD1l : (mvD1 cp it (xM σ) pgl grl).1.length = (mvB1 cp it pgl grl).length := dpS_len _ _ _ _ _
  have hD2l : (mvD2 cp it (xM σ) pgl grl).1.length = (mvB1 cp it pgl grl).length := (dpS_len _ _ _ _ _).trans hD1l
  have hB01 : (mvB0 cp it pgl grl).length ≤ (mvB1 cp it pgl grl).length := addsR_ge _ _
  refine k_aload_n (pc := 0) dX3_moveIn_0 rfl ?_
  refine h_X3_17 hst (pc := 1) dX3_moveIn_1 ?_
  refine k_iload_n (pc := 4) dX3_moveIn_4 rfl ?_
  refine pg_ld hst (pc := 5) dX3_moveIn_5 rfl hs ?_
  refine k_astore_n (pc := 6) dX3_moveIn_6 (by decide) rfl ?_
  refine k_aload_n (pc := 7) dX3_moveIn_7 rfl ?_
  refine h_X3_9 hst (pc := 8) dX3_moveIn_8 ?_
  refine k_bipush (v := 11) (pc := 11) dX3_moveIn_11 (by decide) ?_
  refine k_dup2 (pc := 13) dX3_moveIn_13 rfl rfl ?_
  refine ta_ld hst (pc := 14) dX3_moveIn_14 (show (11 : Int32) = nI 11 from rfl) (by decide) ?_
  refine k_iconst (v := 1) (pc := 15) dX3_moveIn_15 (by decide) ?_
  refine k_iadd (pc := 16) dX3_moveIn_16 ?_
  refine ta_st hst rfl (pc := 17) dX3_moveIn_17 (show (11 : Int32) = nI 11 from rfl) (by decide) ?_
  refine k_aload_n (pc := 18) dX3_moveIn_18 rfl ?_
  refine h_X3_9 hst (pc := 19) dX3_moveIn_19 ?_
  refine k_iconst (v := 5) (pc := 22) dX3_moveIn_22 (by decide) ?_
  refine k_dup2 (pc := 23) dX3_moveIn_23 rfl rfl ?_
  refine ta_ld hst (pc := 24) dX3_moveIn_24 (show (5 : Int32) = nI 5 from rfl) (by decide) ?_
  refine k_aload_n (pc := 25) dX3_moveIn_25 rfl ?_
  refine h_X3_70 hg (pc := 26) dX3_moveIn_26 ?_
  refine k_iadd (pc := 29) dX3_moveIn_29 ?_
  refine ta_st hst rfl (pc := 30) dX3_moveIn_30 (show (5 : Int32) = nI 5 from rfl) (by decide) ?_
  have hT0 : zT (zT σ (va_up (xT σ) 11 (xT σ 11 + 1))) (va_up (xT (zT σ (va_up (xT σ) 11 (xT σ 11 + 1)))) 5 (xT (zT σ (va_up (xT σ) 11 (xT σ 11 + 1))) 5 + nI (xR (zT σ (va_up (xT σ) 11 (xT σ 11 + 1))) rg).length)) = zT σ (addT (inc (xT σ) 11) 5 grl.length) := by
    rw [← hgrl]
    rfl
  rw [hT0]
  have hlay := s_layOut (G := G) (A := A) (it := it) (σ := zT σ (addT (inc (xT σ) 11) 5 grl.length)) hst hpk hg hp8 hg8 hw
  rw [show xR (zT σ (addT (inc (xT σ) 11) 5 grl.length)) (ad (11 + s0)) = pgl from hpgl, show xR (zT σ (addT (inc (xT σ) 11) 5 grl.length)) rg = grl from hgrl, hcp] at hlay
  refine k_aload_n (pc := 31) dX3_moveIn_31 rfl ?_
  refine k_aload_n (pc := 32) dX3_moveIn_32 rfl ?_
  refine k_aload_n (pc := 33) dX3_moveIn_33 rfl ?_
  refine k_callC3 sv_X3_73 hst (hlay) (pc := 34) dX3_moveIn_34 rfl rfl (Nat.le_of_ble_eq_true rfl) (by decide) (by decide) (Nat.le_refl _) (Nat.le_refl _) ?_
  refine k_aload_n (pc := 37) dX3_moveIn_37 rfl ?_
  refine h_X3_28 hst (pc := 38) dX3_moveIn_38 ?_
  refine h_X3_70 h8 (pc := 41) dX3_moveIn_41 ?_
  rw [show xR (zRr (zT σ (addT (inc (xT σ) 11) 5 grl.length)) (ad 8) (addsR cp [] (List.filter (notIn it grl) pgl))) (ad 8) = mvB0 cp it pgl grl from zRr_same]
  have hadd := r_addAll (G := G) (A := A) (it := it) (σ := zRr (zT σ (addT (inc (xT σ) 11) 5 grl.length)) (ad 8) (mvB0 cp it pgl grl)) hst h8 hg hg8 (by
    rw [zRr_ne hg8]
    exact hw.all hg hg8)
  rw [zRr_same, zRr_zRr, zRr_ne hg8, show xR (zT σ (addT (inc (xT σ) 11) 5 grl.length)) rg = grl from hgrl, hcp] at hadd
  have hpl := r_places (G := G) (A := A) (it := it) (σ := zRr (zT σ (addT (inc (xT σ) 11) 5 grl.length)) (ad 8) (mvB1 cp it pgl grl)) hst h8 (by rw [zRr_same]; exact hB1w)
  rw [zRr_same] at hpl
  refine k_istore (pc := 44) dX3_moveIn_44 (by decide) rfl ?_
  refine k_aload_n (pc := 46) dX3_moveIn_46 rfl ?_
  refine h_X3_28 hst (pc := 47) dX3_moveIn_47 ?_
  refine k_aload_n (pc := 50) dX3_moveIn_50 rfl ?_
  refine k_callC2 sv_X3_77 h8 (hadd) (pc := 51) dX3_moveIn_51 rfl rfl (Nat.le_of_ble_eq_true rfl) (by decide) (by decide) (Nat.le_refl _) (Nat.le_refl _) ?_
  refine k_aload_n (pc := 54) dX3_moveIn_54 rfl ?_
  refine h_X3_28 hst (pc := 55) dX3_moveIn_55 ?_
  refine k_len hst h8 fun _ b1000 => ?_
  rw [show xR (zRr (zT σ (addT (inc (xT σ) 11) 5 grl.length)) (ad 8) (addsR cp (mvB0 cp it pgl grl) grl)) (ad 8) = mvB1 cp it pgl grl from zRr_same] at b1000
  have hplb := plR_bd (it := it) (mvB1 cp it pgl grl) hB1p
  refine k_callC2 sv_X3_81 h8 (hpl) (pc := 58) dX3_moveIn_58 rfl rfl (Nat.le_of_ble_eq_true rfl) (by decide) (by decide) (Nat.le_refl _) (Nat.le_refl _) ?_
  refine k_bipush (v := 32) (pc := 61) dX3_moveIn_61 (by decide) ?_
  refine k_isub (pc := 63) dX3_moveIn_63 ?_
  have hov : nI (plR it (mvB1 cp it pgl grl)) - 32 = oN ((plR it (mvB1 cp it pgl grl) : Int) - 32) := by rw [oN_nat, show (32 : Int32) = oN 32 from rfl, oN_sub]
  rw [hov]
  have hd1 := s_dropPass (G := G) (A := A) (it := it) (σ := zRr (zT σ (addT (inc (xT σ) 11) 5 grl.length)) (ad 8) (mvB1 cp it pgl grl)) hst 0 (mvB0 cp it pgl grl).length 6 true ((plR it (mvB1 cp it pgl grl) : Int) - 32) (Nat.zero_le _) (by rw [zRr_same]; exact hB01) (by decide) (by omega) (by omega) (by rw [zRr_same]; exact hB1w) (by rw [zRr_same]; exact hB1p)
  rw [zRr_same, zRr_zRr] at hd1
  have hb1 := dpS_bd (it := it) (mk := xM σ) (sp := true) (mvB0 cp it pgl grl).length 0 (mvB1 cp it pgl grl) ((plR it (mvB1 cp it pgl grl) : Int) - 32) 0 hB1p
  have hb1' : ((plR it (mvB1 cp it pgl grl) : Int) - 32) - 15 * (mvB0 cp it pgl grl).length ≤ (mvD1 cp it (xM σ) pgl grl).2.1 ∧ (mvD1 cp it (xM σ) pgl grl).2.1 ≤ ((plR it (mvB1 cp it pgl grl) : Int) - 32) := hb1
  refine k_istore (pc := 64) dX3_moveIn_64 (by decide) rfl ?_
  refine k_aload_n (pc := 66) dX3_moveIn_66 rfl ?_
  refine k_iconst (v := 0) (pc := 67) dX3_moveIn_67 (by decide) ?_
  refine k_iload (pc := 68) dX3_moveIn_68 rfl ?_
  refine k_iconst (v := 1) (pc := 70) dX3_moveIn_70 (by decide) ?_
  refine k_iload (pc := 71) dX3_moveIn_71 rfl ?_
  refine k_bipush (v := 6) (pc := 73) dX3_moveIn_73 (by decide) ?_
  refine k_callC3 sv_X3_85 hst (hd1) (pc := 75) dX3_moveIn_75 rfl rfl (Nat.le_of_ble_eq_true rfl) (by decide) (by decide) (Nat.le_refl _) (Nat.le_refl _) ?_
  have hd2 := s_dropPass (G := G) (A := A) (it := it) (σ := zT (zRr (zT σ (addT (inc (xT σ) 11) 5 grl.length)) (ad 8) (mvD1 cp it (xM σ) pgl grl).1) (addT (addT (inc (xT σ) 11) 5 grl.length) 6 (mvD1 cp it (xM σ) pgl grl).2.2)) hst 0 (mvB0 cp it pgl grl).length 7 false (mvD1 cp it (xM σ) pgl grl).2.1 (Nat.zero_le _) (by show _ ≤ (xR (zRr (zT σ (addT (inc (xT σ) 11) 5 grl.length)) (ad 8) (mvD1 cp it (xM σ) pgl grl).1) (ad 8)).length; rw [zRr_same, hD1l]; exact hB01) (by decide) (by omega) (by omega) (by show RW kd (xR (zRr (zT σ (addT (inc (xT σ) 11) 5 grl.length)) (ad 8) (mvD1 cp it (xM σ) pgl grl).1) (ad 8)); rw [zRr_same]; exact fun a ha => hB1w a (hD1m a ha)) (by show ∀ a, some a ∈ (xR (zRr (zT σ (addT (inc (xT σ) 11) 5 grl.length)) (ad 8) (mvD1 cp it (xM σ) pgl grl).1) (ad 8)) → _; rw [zRr_same]; exact fun a ha => hB1p a (hD1m a ha))
  rw [show xR (zT (zRr (zT σ (addT (inc (xT σ) 11) 5 grl.length)) (ad 8) (mvD1 cp it (xM σ) pgl grl).1) (addT (addT (inc (xT σ) 11) 5 grl.length) 6 (mvD1 cp it (xM σ) pgl grl).2.2)) (ad 8) = (mvD1 cp it (xM σ) pgl grl).1 from zRr_same] at hd2
  have hb2 := dpS_bd (it := it) (mk := xM σ) (sp := false) (mvB0 cp it pgl grl).length 0 (mvD1 cp it (xM σ) pgl grl).1 (mvD1 cp it (xM σ) pgl grl).2.1 0 (fun a ha => hB1p a (hD1m a ha))
  have hb2' : (mvD1 cp it (xM σ) pgl grl).2.1 - 15 * (mvB0 cp it pgl grl).length ≤ (mvD2 cp it (xM σ) pgl grl).2.1 ∧ (mvD2 cp it (xM σ) pgl grl).2.1 ≤ (mvD1 cp it (xM σ) pgl grl).2.1 := hb2
  refine k_istore (pc := 78) dX3_moveIn_78 (by decide) rfl ?_
  refine k_aload_n (pc := 80) dX3_moveIn_80 rfl ?_
  refine k_iconst (v := 0) (pc := 81) dX3_moveIn_81 (by decide) ?_
  refine k_iload (pc := 82) dX3_moveIn_82 rfl ?_
  refine k_iconst (v := 0) (pc := 84) dX3_moveIn_84 (by decide) ?_
  refine k_iload (pc := 85) dX3_moveIn_85 rfl ?_
  refine k_bipush (v := 7) (pc := 87) dX3_moveIn_87 (by decide) ?_
  refine k_callC3 sv_X3_85 hst (hd2) (pc := 89) dX3_moveIn_89 rfl rfl (Nat.le_of_ble_eq_true rfl) (by decide) (by decide) (Nat.le_refl _) (Nat.le_refl _) ?_
  have e2 : zT (zRr (zT (zRr (zT σ (addT (inc (xT σ) 11) 5 grl.length)) (ad 8) (mvD1 cp it (xM σ) pgl grl).1) (addT (addT (inc (xT σ) 11) 5 grl.length) 6 (mvD1 cp it (xM σ) pgl grl).2.2)) (ad 8) (mvD2 cp it (xM σ) pgl grl).1) (addT (addT (addT (inc (xT σ) 11) 5 grl.length) 6 (mvD1 cp it (xM σ) pgl grl).2.2) 7 (mvD2 cp it (xM σ) pgl grl).2.2) = zT (zRr σ (ad 8) (mvD2 cp it (xM σ) pgl grl).1) (addT (addT (addT (inc (xT σ) 11) 5 grl.length) 6 (mvD1 cp it (xM σ) pgl grl).2.2) 7 (mvD2 cp it (xM σ) pgl grl).2.2) := by
    exact zz_TR (τ := zT σ (addT (inc (xT σ) 11) 5 grl.length))
  have hd3 := s_dropPass (G := G) (A := A) (it := it) (σ := zT (zRr σ (ad 8) (mvD2 cp it (xM σ) pgl grl).1) (addT (addT (addT (inc (xT σ) 11) 5 grl.length) 6 (mvD1 cp it (xM σ) pgl grl).2.2) 7 (mvD2 cp it (xM σ) pgl grl).2.2)) hst (mvB0 cp it pgl grl).length (mvB1 cp it pgl grl).length 8 false (mvD2 cp it (xM σ) pgl grl).2.1 hB01 (by show _ ≤ (xR (zRr σ (ad 8) (mvD2 cp it (xM σ) pgl grl).1) (ad 8)).length; rw [zRr_same, hD2l]; exact Nat.le_refl _) (by decide) (by omega) (by omega) (by show RW kd (xR (zRr σ (ad 8) (mvD2 cp it (xM σ) pgl grl).1) (ad 8)); rw [zRr_same]; exact fun a ha => hB1w a (hD2m a ha)) (by show ∀ a, some a ∈ (xR (zRr σ (ad 8) (mvD2 cp it (xM σ) pgl grl).1) (ad 8)) → _; rw [zRr_same]; exact fun a ha => hB1p a (hD2m a ha))
  rw [show xR (zT (zRr σ (ad 8) (mvD2 cp it (xM σ) pgl grl).1) (addT (addT (addT (inc (xT σ) 11) 5 grl.length) 6 (mvD1 cp it (xM σ) pgl grl).2.2) 7 (mvD2 cp it (xM σ) pgl grl).2.2)) (ad 8) = (mvD2 cp it (xM σ) pgl grl).1 from zRr_same] at hd3
  refine k_I (I2 := CH G A ad ar ow cap kd it (zT (zRr σ (ad 8) (mvD2 cp it (xM σ) pgl grl).1) (addT (addT (addT (inc (xT σ) 11) 5 grl.length) 6 (mvD1 cp it (xM σ) pgl grl).2.2) 7 (mvD2 cp it (xM σ) pgl grl).2.2))) (fun H hH => by rw [← e2]; exact hH) ?_
  refine k_istore (pc := 92) dX3_moveIn_92 (by decide) rfl ?_
  refine k_aload_n (pc := 94) dX3_moveIn_94 rfl ?_
  refine k_iload (pc := 95) dX3_moveIn_95 rfl ?_
  refine k_aload_n (pc := 97) dX3_moveIn_97 rfl ?_
  refine h_X3_28 hst (pc := 98) dX3_moveIn_98 ?_
  refine h_X3_70 h8 (pc := 101) dX3_moveIn_101 ?_
  rw [show xR (zT (zRr σ (ad 8) (mvD2 cp it (xM σ) pgl grl).1) (addT (addT (addT (inc (xT σ) 11) 5 grl.length) 6 (mvD1 cp it (xM σ) pgl grl).2.2) 7 (mvD2 cp it (xM σ) pgl grl).2.2)) (ad 8) = (mvD2 cp it (xM σ) pgl grl).1 from zRr_same, hD2l]
  refine k_iconst (v := 0) (pc := 104) dX3_moveIn_104 (by decide) ?_
  refine k_iload (pc := 105) dX3_moveIn_105 rfl ?_
  refine k_bipush (v := 8) (pc := 107) dX3_moveIn_107 (by decide) ?_
  refine k_callC3 sv_X3_85 hst (hd3) (pc := 109) dX3_moveIn_109 rfl rfl (Nat.le_of_ble_eq_true rfl) (by decide) (by decide) (Nat.le_refl _) (Nat.le_refl _) ?_
  have e3 : zT (zRr (zT (zRr σ (ad 8) (mvD2 cp it (xM σ) pgl grl).1) (addT (addT (addT (inc (xT σ) 11) 5 grl.length) 6 (mvD1 cp it (xM σ) pgl grl).2.2) 7 (mvD2 cp it (xM σ) pgl grl).2.2)) (ad 8) (mvD3 cp it (xM σ) pgl grl).1) (addT (addT (addT (addT (inc (xT σ) 11) 5 grl.length) 6 (mvD1 cp it (xM σ) pgl grl).2.2) 7 (mvD2 cp it (xM σ) pgl grl).2.2) 8 (mvD3 cp it (xM σ) pgl grl).2.2) = zT (zRr σ (ad 8) (mvD3 cp it (xM σ) pgl grl).1) (addT (addT (addT (addT (inc (xT σ) 11) 5 grl.length) 6 (mvD1 cp it (xM σ) pgl grl).2.2) 7 (mvD2 cp it (xM σ) pgl grl).2.2) 8 (mvD3 cp it (xM σ) pgl grl).2.2) := by
    exact zz_TR
  refine k_I (I2 := CH G A ad ar ow cap kd it (zT (zRr σ (ad 8) (mvD3 cp it (xM σ) pgl grl).1) (addT (addT (addT (addT (inc (xT σ) 11) 5 grl.length) 6 (mvD1 cp it (xM σ) pgl grl).2.2) 7 (mvD2 cp it (xM σ) pgl grl).2.2) 8 (mvD3 cp it (xM σ) pgl grl).2.2))) (fun H hH => by rw [← e3]; exact hH) ?_
  generalize hT : addT (addT (addT (addT (inc (xT σ) 11) 5 grl.length) 6 (mvD1 cp it (xM σ) pgl grl).2.2) 7 (mvD2 cp it (xM σ) pgl grl).2.2) 8 (mvD3 cp it (xM σ) pgl grl).2.2 = T3
  have hpg3 : xR (zT (zRr σ (ad 8) (mvD3 cp it (xM σ) pgl grl).1) T3) (ad (11 + s0)) = pgl := (zRr_ne hp8).trans hpgl
  refine k_pop (pc := 112) dX3_moveIn_112 rfl ?_
  refine k_aload_n (pc := 113) dX3_moveIn_113 rfl ?_
  refine k_dup (pc := 114) dX3_moveIn_114 rfl ?_
  refine h_X3_63 hst (pc := 115) dX3_moveIn_115 ?_
  refine k_aload_n (pc := 118) dX3_moveIn_118 rfl ?_
  refine h_X3_70 hpk (pc := 119) dX3_moveIn_119 ?_
  rw [hpg3]
  have hrf := s_refill (G := G) (A := A) (it := it) (σ := zS (zT (zRr σ (ad 8) (mvD3 cp it (xM σ) pgl grl).1) T3) (xS σ - nI pgl.length)) hst hpk (Ne.symm hp8) (by show RW kd (xR (zRr σ (ad 8) (mvD3 cp it (xM σ) pgl grl).1) (ad 8)); rw [zRr_same]; exact fun a ha => hB1w a (hD3m a ha))
  rw [show xR (zS (zT (zRr σ (ad 8) (mvD3 cp it (xM σ) pgl grl).1) T3) (xS σ - nI pgl.length)) (ad 8) = (mvD3 cp it (xM σ) pgl grl).1 from zRr_same, hcq] at hrf
  refine k_isub (pc := 122) dX3_moveIn_122 ?_
  refine hp_X3_63 hst rfl (pc := 123) dX3_moveIn_123 ?_
  refine k_aload_n (pc := 126) dX3_moveIn_126 rfl ?_
  refine k_aload_n (pc := 127) dX3_moveIn_127 rfl ?_
  refine k_callC3 sv_X3_89 hst (hrf) (pc := 128) dX3_moveIn_128 rfl rfl (Nat.le_of_ble_eq_true rfl) (by decide) (by decide) (Nat.le_refl _) (Nat.le_refl _) ?_
  have e4 : zM (zRr (zS (zT (zRr σ (ad 8) (mvD3 cp it (xM σ) pgl grl).1) T3) (xS σ - nI pgl.length)) (ad (11 + s0)) (addsR cq [] (List.filter Option.isSome (mvD3 cp it (xM σ) pgl grl).1))) (clrM (xM (zS (zT (zRr σ (ad 8) (mvD3 cp it (xM σ) pgl grl).1) T3) (xS σ - nI pgl.length))) (mvD3 cp it (xM σ) pgl grl).1) = zT (zS (zM (zRr (zRr σ (ad 8) (mvD3 cp it (xM σ) pgl grl).1) (ad (11 + s0)) (mvPg cp cq it (xM σ) pgl grl)) (clrM (xM σ) (mvD3 cp it (xM σ) pgl grl).1)) (xS σ - nI pgl.length)) T3 := rfl
  rw [e4]
  have hpgN : ∀ (mm : Nat → Bool) (ss : Int32) (tt : Nat → Int32), xR (zT (zS (zM (zRr (zRr σ (ad 8) (mvD3 cp it (xM σ) pgl grl).1) (ad (11 + s0)) (mvPg cp cq it (xM σ) pgl grl)) mm) ss) tt) (ad (11 + s0)) = mvPg cp cq it (xM σ) pgl grl := fun _ _ _ => zRr_same
  have hpgM : ∀ (mm : Nat → Bool) (ss s2 : Int32) (tt : Nat → Int32), xR (zS (zT (zS (zM (zRr (zRr σ (ad 8) (mvD3 cp it (xM σ) pgl grl).1) (ad (11 + s0)) (mvPg cp cq it (xM σ) pgl grl)) mm) ss) tt) s2) (ad (11 + s0)) = mvPg cp cq it (xM σ) pgl grl := fun _ _ _ _ => zRr_same
  have hpgw : RW kd (mvPg cp cq it (xM σ) pgl grl) := by
    intro a ha
    rcases addsR_mem ha with h | h
    · cases h
    · exact hB1w a (hD3m a (List.mem_filter.mp h).1)
  refine k_aload_n (pc := 131) dX3_moveIn_131 rfl ?_
  refine k_dup (pc := 132) dX3_moveIn_132 rfl ?_
  refine h_X3_63 hst (pc := 133) dX3_moveIn_133 ?_
  refine k_aload_n (pc := 136) dX3_moveIn_136 rfl ?_
  refine h_X3_70 hpk (pc := 137) dX3_moveIn_137 ?_
  rw [hpgN]
  have hfl := r_filter (G := G) (A := A) (it := it) (σ := zS (zT (zS (zM (zRr (zRr σ (ad 8) (mvD3 cp it (xM σ) pgl grl).1) (ad (11 + s0)) (mvPg cp cq it (xM σ) pgl grl)) (clrM (xM σ) (mvD3 cp it (xM σ) pgl grl).1)) (xS σ - nI pgl.length)) T3) (xS σ - nI pgl.length + nI (mvPg cp cq it (xM σ) pgl grl).length)) hst hpk (by rw [hpgM]; exact hpgw)
  rw [hpgM] at hfl
  refine k_iadd (pc := 140) dX3_moveIn_140 ?_
  refine hp_X3_63 hst rfl (pc := 141) dX3_moveIn_141 ?_
  refine k_aload_n (pc := 144) dX3_moveIn_144 rfl ?_
  refine h_X3_24 hst (pc := 145) dX3_moveIn_145 ?_
  refine k_iload_n (pc := 148) dX3_moveIn_148 rfl ?_
  refine k_aload_n (pc := 149) dX3_moveIn_149 rfl ?_
  refine k_callC2 sv_X3_66 hpk (hfl) (pc := 150) dX3_moveIn_150 rfl rfl (Nat.le_of_ble_eq_true rfl) (by decide) (by decide) (Nat.le_refl _) (Nat.le_refl _) ?_
  refine fl_st hst rfl (pc := 153) dX3_moveIn_153 rfl hs ?_
  refine k_aload_n (pc := 154) dX3_moveIn_154 rfl ?_
  refine h_X3_9 hst (pc := 155) dX3_moveIn_155 ?_
  refine k_iconst (v := 2) (pc := 158) dX3_moveIn_158 (by decide) ?_
  refine k_dup2 (pc := 159) dX3_moveIn_159 rfl rfl ?_
  refine ta_ld hst (pc := 160) dX3_moveIn_160 (show (2 : Int32) = nI 2 from rfl) (by decide) ?_
  refine k_iconst (v := 1) (pc := 161) dX3_moveIn_161 (by decide) ?_
  refine k_iadd (pc := 162) dX3_moveIn_162 ?_
  refine ta_st hst rfl (pc := 163) dX3_moveIn_163 (show (2 : Int32) = nI 2 from rfl) (by decide) ?_
  exact k_vret (pc := 164) dX3_moveIn_164 (fun H hH => by unfold mvT; rw [hT]; exact hH) (Nat.le_refl _) (Nat.le_refl _)
end SETU
