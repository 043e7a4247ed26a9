def notIn (it : Nat → Da) (gr : List (Option Nat)) (o : Option Nat) : Bool := match o with
  | some a => (gr.findIdx? (keyIs it (it a).1)).isNone
  | none => false
/-- dropPass: n steps from i on -/
def dpS (it : Nat → Da) (mk : Nat → Bool) (spare : Bool) : Nat → Nat → List (Option Nat) → Int → Nat → List (Option Nat) × Int × Nat
  | 0, _, B, l, c => (B, l, c)
  | n + 1, i, B, l, c => if l ≤ 0 then (B, l, c) else match B[i]? with
    | some (some a) => if (spare && mk a) = true then dpS it mk spare n (i + 1) B l c else dpS it mk spare n (i + 1) (B.set i none) (l - plc (it a)) (c + 1)
    | _ => dpS it mk spare n (i + 1) B l c
def addT (t : Nat → Int32) (j n : Nat) : Nat → Int32 := va_up t j (t j + nI n)
theorem addT_0 (t : Nat → Int32) (j : Nat) : addT t j 0 = t := by
  funext q
  unfold addT va_up
  by_cases h : q = j
  · simp [h, nI]
  · simp [h]
theorem addT_1 (t : Nat → Int32) (j n : Nat) : va_up (addT t j n) j (addT t j n j + 1) = addT t j (n + 1) := by
  funext q
  unfold addT va_up
  by_cases h : q = j
  · simp [h, ← nI_1, Int32.add_assoc]
  · simp [h]
def clrM (mk : Nat → Bool) (xs : List (Option Nat)) : Nat → Bool := fun a => if some a ∈ xs then false else mk a
theorem clrM_snoc (mk : Nat → Bool) (xs : List (Option Nat)) (b : Nat) : va_up (clrM mk xs) b false = clrM mk (xs ++ [some b]) := by
  funext a
  unfold va_up clrM
  by_cases h : a = b
  · subst h; simp
  · simp [h]
theorem clrM_none (mk : Nat → Bool) (xs : List (Option Nat)) : clrM mk (xs ++ [none]) = clrM mk xs := by
  funext a
  unfold clrM
  simp
theorem clrM_nil (mk : Nat → Bool) : clrM mk [] = mk := by
  funext a
  unfold clrM
  simp
section SETT
variable {p : Program} {l : Launch} {e : Env} {s : State} {m : MethodId} {args : Array Value} {below : List Frame} {meth : Method} {c : Code} {R : Room} {G : Gd} {A : Nat → Prop} {Q : State → Prop} {k n : Nat} {ad ar ow cap kd : Nat → Nat} {it : Nat → Da} {σ : CS} {I0 : Heap → Prop}
set_option maxRecDepth 4000 in
theorem s_layOut (hst : CSt ad ar ow cap kd) {rp rg : Nat} (hp : kd rp = 2) (hg : kd rg = 2) (hpb : rp ≠ ad 8) (hgb : rg ≠ ad 8) (hw : RWF ad kd σ) : Ct 1 0 0 yX3_layOutOthers cX3_layOutOthers 5 (none) G A [.ref (ad 1), .ref rp, .ref rg] (CH G A ad ar ow cap kd it σ) (none) (CH G A ad ar ow cap kd it (zRr σ (ad 8) (addsR (cap (ad 8)) [] ((xR σ rp).filter (notIn it (xR σ rg)))))) := by
  refine Ct.of 2 rfl rfl (Nat.le_of_ble_eq_true rfl) ?_
  intro p l e s m below meth c hini
  have h8 : kd (ad 8) = 2 := kd_row hst (by decide) (by decide)
  refine k_len hst hp fun _ h1000 => ?_
  refine k_len hst hg fun _ g1000 => ?_
  have loop : ∀ j i : Nat, i + j = (xR σ rp).length → K p l e s m ([.ref (ad 1), .ref rp, .ref rg] : List Value).toArray below meth c (rmm 1 0 0) yX3_layOutOthers.cls cX3_layOutOthers 5 (none) G A (MQ below (Qd (none) (CH G A ad ar ow cap kd it (zRr σ (ad 8) (addsR (cap (ad 8)) [] ((xR σ rp).filter (notIn it (xR σ rg)))))) A) ([.ref (ad 1), .ref rp, .ref rg] : List Value).toArray s 0 0 A) 0 0 (CH G A ad ar ow cap kd it (zRr σ (ad 8) (addsR (cap (ad 8)) [] (((xR σ rp).take i).filter (notIn it (xR σ rg)))))) 9 [some (.ref (ad 1)), some (.ref rp), some (.ref rg), some (.int (nI i)), none] [] := by
    intro j
    induction j with
    | zero =>
      intro i hi
      have hi6 : i = (xR σ rp).length := by omega
      subst hi6
      refine k_iload_n (pc := 9) dX3_layOutOthers_9 rfl ?_
      refine k_aload_n (pc := 10) dX3_layOutOthers_10 rfl ?_
      refine h_X3_70 hp (pc := 11) dX3_layOutOthers_11 ?_
      rw [zRr_ne hpb]
      refine k_icmp_ge (tgt := 56) (pc := 14) dX3_layOutOthers_14 (by decide) (fun _ => ?_) (fun c => absurd (nI_le (Nat.le_refl _) (by omega)) c)
      rw [List.take_length]
      exact k_vret (pc := 56) dX3_layOutOthers_56 (fun _ h => h) (Nat.le_refl _) (Nat.le_refl _)
    | succ j ih =>
      intro i hi
      obtain ⟨o, ho⟩ : ∃ o, (xR σ rp)[i]? = some o := ⟨_, List.getElem?_eq_getElem (by omega)⟩
      obtain ⟨b, rfl, hb⟩ := hw.all hp hpb o (List.mem_of_getElem? ho)
      have step := ih (i + 1) (by omega)
      rw [take_snoc ho, List.filter_append] at step
      have hat : atR (xR (zRr σ (ad 8) (addsR (cap (ad 8)) [] (((xR σ rp).take i).filter (notIn it (xR σ rg))))) rp) (nI i) = some b := by
        rw [zRr_ne hpb]
        unfold atR
        rw [if_neg (nI_pos (by omega)), nI_clamp (by omega), ho]
        rfl
      have hrw : RW kd (xR (zRr σ (ad 8) (addsR (cap (ad 8)) [] (((xR σ rp).take i).filter (notIn it (xR σ rg))))) rg) := by rw [zRr_ne hgb]; exact hw.1 _ hg
      refine k_iload_n (pc := 9) dX3_layOutOthers_9 rfl ?_
      refine k_aload_n (pc := 10) dX3_layOutOthers_10 rfl ?_
      refine h_X3_70 hp (pc := 11) dX3_layOutOthers_11 ?_
      rw [zRr_ne hpb]
      refine k_icmp_ge (tgt := 56) (pc := 14) dX3_layOutOthers_14 (by decide) (fun c => absurd c (nI_ge (by omega) (by omega))) (fun _ => ?_)
      refine k_aload_n (pc := 17) dX3_layOutOthers_17 rfl ?_
      refine k_iload_n (pc := 18) dX3_layOutOthers_18 rfl ?_
      refine k_callC2 sv_X3_43 hp (r_at hst hp (nI i)) (pc := 19) dX3_layOutOthers_19 rfl rfl (Nat.le_of_ble_eq_true rfl) (by decide) (by decide) (Nat.le_refl _) (Nat.le_refl _) ?_
      rw [hat]
      refine k_astore (pc := 22) dX3_layOutOthers_22 (by decide) rfl ?_
      refine k_aload (pc := 24) dX3_layOutOthers_24 rfl ?_
      refine k_ifnull (pc := 26) dX3_layOutOthers_26 ?_
      refine k_aload_n (pc := 29) dX3_layOutOthers_29 rfl ?_
      refine k_aload (pc := 30) dX3_layOutOthers_30 rfl ?_
      refine h_X3_95 hb (pc := 32) dX3_layOutOthers_32 ?_
      refine k_callC2 sv_X3_40 hg (r_indexOf hst hg hrw (it b).1) (pc := 35) dX3_layOutOthers_35 rfl rfl (Nat.le_of_ble_eq_true rfl) (by decide) (by decide) (Nat.le_refl _) (Nat.le_refl _) ?_
      rw [zRr_ne hgb]
      cases hx : (xR σ rg).findIdx? (keyIs it (it b).1) with
      | some q =>
        have hq := findIdx?_ltl hx
        have hn : notIn it (xR σ rg) (some b) = false := by simp [notIn, hx]
        simp only [List.filter_cons, hn, List.filter_nil, Bool.false_eq_true, if_false, List.append_nil] at step
        refine k_if_ge (tgt := 50) (pc := 38) dX3_layOutOthers_38 (by decide) (fun _ => ?_) (fun c => absurd ((show (0 : Int32) ≤ oI (some q) from nI_pos' (by omega))) c)
        refine k_iinc (pc := 50) dX3_layOutOthers_50 rfl (nI_inc _) (by decide) rfl ?_
        refine k_goto (tgt := 9) (pc := 53) dX3_layOutOthers_53 (by decide) ?_
        exact k_lv (fun i v h => by match i, h with | 0, h => exact h | 1, h => exact h | 2, h => exact h | 3, h => exact h | 4, h => cases h | i + 5, h => cases h) step
      | none =>
        have hn : notIn it (xR σ rg) (some b) = true := by simp [notIn, hx]
        simp only [List.filter_cons, hn, List.filter_nil, if_true] at step
        rw [addsR_snoc] at step
        have hadd := r_add (G := G) (A := A) (it := it) (σ := zRr σ (ad 8) (addsR (cap (ad 8)) [] (((xR σ rp).take i).filter (notIn it (xR σ rg))))) hst h8 b hb
        rw [zRr_same, zRr_zRr] at hadd
        refine k_if_ge (tgt := 50) (pc := 38) dX3_layOutOthers_38 (by decide) (fun c => absurd c ((show ¬ (0 : Int32) ≤ oI none by decide))) (fun _ => ?_)
        refine k_aload_n (pc := 41) dX3_layOutOthers_41 rfl ?_
        refine h_X3_28 hst (pc := 42) dX3_layOutOthers_42 ?_
        refine k_aload (pc := 45) dX3_layOutOthers_45 rfl ?_
        refine k_callC2 sv_X3_99 h8 (hadd) (pc := 47) dX3_layOutOthers_47 rfl rfl (Nat.le_of_ble_eq_true rfl) (by decide) (by decide) (Nat.le_refl _) (Nat.le_refl _) ?_
        refine k_iinc (pc := 50) dX3_layOutOthers_50 rfl (nI_inc _) (by decide) rfl ?_
        refine k_goto (tgt := 9) (pc := 53) dX3_layOutOthers_53 (by decide) ?_
        exact k_lv (fun i v h => by match i, h with | 0, h => exact h | 1, h => exact h | 2, h => exact h | 3, h => exact h | 4, h => cases h | i + 5, h => cases h) step
  refine k_aload_n (pc := 0) dX3_layOutOthers_0 rfl ?_
  refine h_X3_28 hst (pc := 1) dX3_layOutOthers_1 ?_
  refine k_callC2 sv_X3_92 h8 (r_clear hst h8) (pc := 4) dX3_layOutOthers_4 rfl rfl (Nat.le_of_ble_eq_true rfl) (by decide) (by decide) (Nat.le_refl _) (Nat.le_refl _) ?_
  refine k_iconst (v := 0) (pc := 7) dX3_layOutOthers_7 (by decide) ?_
  refine k_istore_n (pc := 8) dX3_layOutOthers_8 (by decide) rfl ?_
  exact loop (xR σ rp).length 0 (by omega)
set_option maxRecDepth 4000 in
theorem s_dropPass (hst : CSt ad ar ow cap kd) (f0 t0 wc : Nat) (spare : Bool) (ov : Int) (hft : f0 ≤ t0) (htl : t0 ≤ (xR σ (ad 8)).length) (hwc : wc < 12) (ho1 : -400000 < ov) (ho2 : ov < 400000) (hw : RW kd (xR σ (ad 8))) (hpl : ∀ a, some a ∈ xR σ (ad 8) → plc (it a) ≤ 15) : Ct 1 0 0 yX3_dropPass cX3_dropPass 9 (some .int) G A [.ref (ad 1), .int (nI f0), .int (nI t0), .int (bI spare), .int (oN ov), .int (nI wc)] (CH G A ad ar ow cap kd it σ) (some (.int (oN (dpS it (xM σ) spare (t0 - f0) f0 (xR σ (ad 8)) ov 0).2.1))) (CH G A ad ar ow cap kd it (zT (zRr σ (ad 8) (dpS it (xM σ) spare (t0 - f0) f0 (xR σ (ad 8)) ov 0).1) (addT (xT σ) wc (dpS it (xM σ) spare (t0 - f0) f0 (xR σ (ad 8)) ov 0).2.2))) := by
  refine Ct.of 3 rfl rfl (Nat.le_of_ble_eq_true rfl) ?_
  intro p l e s m below meth c hini
  have h8 : kd (ad 8) = 2 := kd_row hst (by decide) (by decide)
  refine k_len hst h8 fun _ h1000 => ?_
  generalize hres : dpS it (xM σ) spare (t0 - f0) f0 (xR σ (ad 8)) ov 0 = res
  have loop : ∀ (n i : Nat) (B : List (Option Nat)) (lft : Int) (cn : Nat), i + n = t0 → B.length = (xR σ (ad 8)).length → RW kd B → (∀ a, some a ∈ B → plc (it a) ≤ 15) → -400000 - 15 * i < lft → lft < 400000 → dpS it (xM σ) spare n i B lft cn = res → K p l e s m ([.ref (ad 1), .int (nI f0), .int (nI t0), .int (bI spare), .int (oN ov), .int (nI wc)] : List Value).toArray below meth c (rmm 1 0 0) yX3_dropPass.cls cX3_dropPass 9 (some .int) G A (MQ below (Qd (some (.int (oN (dpS it (xM σ) spare (t0 - f0) f0 (xR σ (ad 8)) ov 0).2.1))) (CH G A ad ar ow cap kd it (zT (zRr σ (ad 8) (dpS it (xM σ) spare (t0 - f0) f0 (xR σ (ad 8)) ov 0).1) (addT (xT σ) wc (dpS it (xM σ) spare (t0 - f0) f0 (xR σ (ad 8)) ov 0).2.2))) A) ([.ref (ad 1), .int (nI f0), .int (nI t0), .int (bI spare), .int (oN ov), .int (nI wc)] : List Value).toArray s 0 0 A) 0 0 (CH G A ad ar ow cap kd it (zT (zRr σ (ad 8) B) (addT (xT σ) wc cn))) 7 [some (.ref (ad 1)), some (.int (nI f0)), some (.int (nI t0)), some (.int (bI spare)), some (.int (oN ov)), some (.int (nI wc)), some (.int (oN lft)), some (.int (nI i)), none] [] := by
    rw [hres]
    intro n
    induction n with
    | zero =>
      intro i B lft cn hi hBl hBw hBp hl1 hl2 hd
      have hi6 : i = t0 := by omega
      subst hi6
      have hd2 : (B, lft, cn) = res := hd
      rw [← hd2]
      refine k_iload (pc := 7) dX3_dropPass_7 rfl ?_
      refine k_iload_n (pc := 9) dX3_dropPass_9 rfl ?_
      refine k_icmp_ge (tgt := 82) (pc := 10) dX3_dropPass_10 (by decide) (fun _ => ?_) (fun c => absurd (nI_le (Nat.le_refl _) (by omega)) c)
      refine k_iload (pc := 82) dX3_dropPass_82 rfl ?_
      exact k_iret (pc := 84) dX3_dropPass_84 rfl (fun _ h => h) (Nat.le_refl _) (Nat.le_refl _)
    | succ n ih =>
      intro i B lft cn hi hBl hBw hBp hl1 hl2 hd
      simp only [dpS] at hd
      refine k_iload (pc := 7) dX3_dropPass_7 rfl ?_
      refine k_iload_n (pc := 9) dX3_dropPass_9 rfl ?_
      refine k_icmp_ge (tgt := 82) (pc := 10) dX3_dropPass_10 (by decide) (fun c => absurd c ((nI_ge (by omega) (by omega)))) (fun _ => ?_)
      refine k_iload (pc := 13) dX3_dropPass_13 rfl ?_
      by_cases hle : lft ≤ 0
      · rw [if_pos hle] at hd
        rw [← hd]
        refine k_if_le (tgt := 82) (pc := 15) dX3_dropPass_15 (by decide) (fun _ => ?_) (fun c => absurd ((oN_le (by omega) (by omega)).mpr hle) c)
        refine k_iload (pc := 82) dX3_dropPass_82 rfl ?_
        exact k_iret (pc := 84) dX3_dropPass_84 rfl (fun _ h => h) (Nat.le_refl _) (Nat.le_refl _)
      · rw [if_neg hle] at hd
        refine k_if_le (tgt := 82) (pc := 15) dX3_dropPass_15 (by decide) (fun c => absurd ((oN_le (by omega) (by omega)).mp c) hle) (fun _ => ?_)
        obtain ⟨o, ho⟩ : ∃ o, B[i]? = some o := ⟨_, List.getElem?_eq_getElem (by omega)⟩
        rw [ho] at hd
        have hat : atR (xR (zT (zRr σ (ad 8) B) (addT (xT σ) wc cn)) (ad 8)) (nI i) = o := by
          show atR (xR (zRr σ (ad 8) B) (ad 8)) (nI i) = o
          rw [zRr_same]
          unfold atR
          rw [if_neg (nI_pos (by omega)), nI_clamp (by omega), ho]
          rfl
        have next : ∀ z, dpS it (xM σ) spare n (i + 1) B lft cn = res → K p l e s m ([.ref (ad 1), .int (nI f0), .int (nI t0), .int (bI spare), .int (oN ov), .int (nI wc)] : List Value).toArray below meth c (rmm 1 0 0) yX3_dropPass.cls cX3_dropPass 9 (some .int) G A (MQ below (Qd (some (.int (oN (dpS it (xM σ) spare (t0 - f0) f0 (xR σ (ad 8)) ov 0).2.1))) (CH G A ad ar ow cap kd it (zT (zRr σ (ad 8) (dpS it (xM σ) spare (t0 - f0) f0 (xR σ (ad 8)) ov 0).1) (addT (xT σ) wc (dpS it (xM σ) spare (t0 - f0) f0 (xR σ (ad 8)) ov 0).2.2))) A) ([.ref (ad 1), .int (nI f0), .int (nI t0), .int (bI spare), .int (oN ov), .int (nI wc)] : List Value).toArray s 0 0 A) 0 0 (CH G A ad ar ow cap kd it (zT (zRr σ (ad 8) B) (addT (xT σ) wc cn))) 76 [some (.ref (ad 1)), some (.int (nI f0)), some (.int (nI t0)), some (.int (bI spare)), some (.int (oN ov)), some (.int (nI wc)), some (.int (oN lft)), some (.int (nI i)), z] [] := by
          rw [hres]
          intro z hz
          refine k_iinc (pc := 76) dX3_dropPass_76 rfl (nI_inc _) (by decide) rfl ?_
          refine k_goto (tgt := 7) (pc := 79) dX3_dropPass_79 (by decide) ?_
          exact k_lv (fun i v h => by match i, h with | 0, h => exact h | 1, h => exact h | 2, h => exact h | 3, h => exact h | 4, h => exact h | 5, h => exact h | 6, h => exact h | 7, h => exact h | 8, h => cases h | i + 9, h => cases h) (ih (i + 1) B lft cn (by omega) hBl hBw hBp (by omega) hl2 hz)
        rw [hres] at next
        refine k_aload_n (pc := 18) dX3_dropPass_18 rfl ?_
        refine h_X3_28 hst (pc := 19) dX3_dropPass_19 ?_
        refine k_iload (pc := 22) dX3_dropPass_22 rfl ?_
        refine k_callC2 sv_X3_43 h8 (r_at hst h8 (nI i)) (pc := 24) dX3_dropPass_24 rfl rfl (Nat.le_of_ble_eq_true rfl) (by decide) (by decide) (Nat.le_refl _) (Nat.le_refl _) ?_
        rw [hat]
        cases o with
        | none =>
          refine k_astoreN (pc := 27) dX3_dropPass_27 (by decide) rfl ?_
          refine k_aloadN (pc := 29) dX3_dropPass_29 rfl ?_
          refine k_ifnullN (tgt := 76) (pc := 31) dX3_dropPass_31 (by decide) ?_
          exact next _ hd
        | some b =>
          have hb := hBw b (List.mem_of_getElem? ho)
          have hbp := hBp b (List.mem_of_getElem? ho)
          have drop : (spare && xM σ b) = false → K p l e s m ([.ref (ad 1), .int (nI f0), .int (nI t0), .int (bI spare), .int (oN ov), .int (nI wc)] : List Value).toArray below meth c (rmm 1 0 0) yX3_dropPass.cls cX3_dropPass 9 (some .int) G A (MQ below (Qd (some (.int (oN (dpS it (xM σ) spare (t0 - f0) f0 (xR σ (ad 8)) ov 0).2.1))) (CH G A ad ar ow cap kd it (zT (zRr σ (ad 8) (dpS it (xM σ) spare (t0 - f0) f0 (xR σ (ad 8)) ov 0).1) (addT (xT σ) wc (dpS it (xM σ) spare (t0 - f0) f0 (xR σ (ad 8)) ov 0).2.2))) A) ([.ref (ad 1), .int (nI f0), .int (nI t0), .int (bI spare), .int (oN ov), .int (nI wc)] : List Value).toArray s 0 0 A) 0 0 (CH G A ad ar ow cap kd it (zT (zRr σ (ad 8) B) (addT (xT σ) wc cn))) 46 [some (.ref (ad 1)), some (.int (nI f0)), some (.int (nI t0)), some (.int (bI spare)), some (.int (oN ov)), some (.int (nI wc)), some (.int (oN lft)), some (.int (nI i)), some (.ref b)] [] := by
            rw [hres]
            intro hsp
            simp only [hsp, Bool.false_eq_true, if_false] at hd
            refine k_iload (pc := 46) dX3_dropPass_46 rfl ?_
            refine k_aload (pc := 48) dX3_dropPass_48 rfl ?_
            refine h_X3_107 hb (pc := 50) dX3_dropPass_50 ?_
            refine k_isub (pc := 53) dX3_dropPass_53 ?_
            rw [oN_nat (plc (it b)), oN_sub]
            have hbl := r_blank (G := G) (A := A) (it := it) (σ := zT (zRr σ (ad 8) B) (addT (xT σ) wc cn)) hst h8 i (by show i < (xR (zRr σ (ad 8) B) (ad 8)).length; rw [zRr_same]; omega)
            rw [show xR (zT (zRr σ (ad 8) B) (addT (xT σ) wc cn)) (ad 8) = xR (zRr σ (ad 8) B) (ad 8) from rfl, zRr_same, show zRr (zT (zRr σ (ad 8) B) (addT (xT σ) wc cn)) (ad 8) (B.set i none) = zT (zRr (zRr σ (ad 8) B) (ad 8) (B.set i none)) (addT (xT σ) wc cn) from rfl, zRr_zRr] at hbl
            refine k_istore (pc := 54) dX3_dropPass_54 (by decide) rfl ?_
            refine k_aload_n (pc := 56) dX3_dropPass_56 rfl ?_
            refine h_X3_28 hst (pc := 57) dX3_dropPass_57 ?_
            refine k_iload (pc := 60) dX3_dropPass_60 rfl ?_
            refine k_callC2 sv_X3_109 h8 (hbl) (pc := 62) dX3_dropPass_62 rfl rfl (Nat.le_of_ble_eq_true rfl) (by decide) (by decide) (Nat.le_refl _) (Nat.le_refl _) ?_
            refine k_aload_n (pc := 65) dX3_dropPass_65 rfl ?_
            refine h_X3_9 hst (pc := 66) dX3_dropPass_66 ?_
            refine k_iload (pc := 69) dX3_dropPass_69 rfl ?_
            refine k_dup2 (pc := 71) dX3_dropPass_71 rfl rfl ?_
            refine ta_ld hst (pc := 72) dX3_dropPass_72 rfl hwc ?_
            refine k_iconst (v := 1) (pc := 73) dX3_dropPass_73 (by decide) ?_
            refine k_iadd (pc := 74) dX3_dropPass_74 ?_
            refine ta_st hst rfl (pc := 75) dX3_dropPass_75 rfl hwc ?_
            refine k_iinc (pc := 76) dX3_dropPass_76 rfl (nI_inc _) (by decide) rfl ?_
            refine k_goto (tgt := 7) (pc := 79) dX3_dropPass_79 (by decide) ?_
            have step := ih (i + 1) (B.set i none) (lft - plc (it b)) (cn + 1) (by omega) (by rw [List.length_set]; exact hBl) (fun a ha => hBw a (by
              rcases List.mem_or_eq_of_mem_set ha with h | h
              · exact h
              · cases h)) (fun a ha => hBp a (by
              rcases List.mem_or_eq_of_mem_set ha with h | h
              · exact h
              · cases h)) (by omega) (by omega) hd
            rw [← addT_1] at step
            exact k_lv (fun i v h => by match i, h with | 0, h => exact h | 1, h => exact h | 2, h => exact h | 3, h => exact h | 4, h => exact h | 5, h => exact h | 6, h => exact h | 7, h => exact h | 8, h => cases h | i + 9, h => cases h) step
          rw [hres] at drop
          cases hspc : spare with
          | false =>
            subst hspc
            refine k_astore (pc := 27) dX3_dropPass_27 (by decide) rfl ?_
            refine k_aload (pc := 29) dX3_dropPass_29 rfl ?_
            refine k_ifnull (pc := 31) dX3_dropPass_31 ?_
            refine k_iload_n (pc := 34) dX3_dropPass_34 rfl ?_
            refine k_if_eq (tgt := 46) (pc := 35) dX3_dropPass_35 (by decide) (fun _ => ?_) (fun c => absurd ((show bI false = 0 by decide)) c)
            exact drop rfl
          | true =>
            subst hspc
            refine k_astore (pc := 27) dX3_dropPass_27 (by decide) rfl ?_
            refine k_aload (pc := 29) dX3_dropPass_29 rfl ?_
            refine k_ifnull (pc := 31) dX3_dropPass_31 ?_
            refine k_iload_n (pc := 34) dX3_dropPass_34 rfl ?_
            refine k_if_eq (tgt := 46) (pc := 35) dX3_dropPass_35 (by decide) (fun c => absurd c ((show ¬ bI true = 0 by decide))) (fun _ => ?_)
            refine k_aload (pc := 38) dX3_dropPass_38 rfl ?_
            refine h_X3_103 hb (pc := 40) dX3_dropPass_40 ?_
            cases hmk : xM σ b with
            | true =>
              simp only [hmk, Bool.and_self, if_true] at hd
              rw [show xM (zT (zRr σ (ad 8) B) (addT (xT σ) wc cn)) b = xM σ b from rfl, hmk]
              refine k_if_ne (tgt := 76) (pc := 43) dX3_dropPass_43 (by decide) (fun _ => ?_) (fun c => absurd c ((show ¬ bI true = 0 by decide)))
              exact next _ hd
            | false =>
              rw [show xM (zT (zRr σ (ad 8) B) (addT (xT σ) wc cn)) b = xM σ b from rfl, hmk]
              refine k_if_ne (tgt := 76) (pc := 43) dX3_dropPass_43 (by decide) (fun c => absurd ((show bI false = 0 by decide)) c) (fun _ => ?_)
              exact drop (by rw [hmk]; rfl)
  have l0 := loop (t0 - f0) f0 (xR σ (ad 8)) ov 0 (by omega) rfl hw hpl (by omega) ho2 hres
  rw [zRr_id, addT_0, hres] at l0
  refine k_iload (pc := 0) dX3_dropPass_0 rfl ?_
  refine k_istore (pc := 2) dX3_dropPass_2 (by decide) rfl ?_
  refine k_iload_n (pc := 4) dX3_dropPass_4 rfl ?_
  refine k_istore (pc := 5) dX3_dropPass_5 (by decide) rfl ?_
  exact l0
set_option maxRecDepth 4000 in
theorem s_refill (hst : CSt ad ar ow cap kd) {rp : Nat} (hp : kd rp = 2) (hpb : ad 8 ≠ rp) (hw : RW kd (xR σ (ad 8))) : Ct 1 0 0 yX3_refill cX3_refill 4 (none) G A [.ref (ad 1), .ref rp] (CH G A ad ar ow cap kd it σ) (none) (CH G A ad ar ow cap kd it (zM (zRr σ rp (addsR (cap rp) [] ((xR σ (ad 8)).filter Option.isSome))) (clrM (xM σ) (xR σ (ad 8))))) := by
  refine Ct.of 2 rfl rfl (Nat.le_of_ble_eq_true rfl) ?_
  intro p l e s m below meth c hini
  have h8 : kd (ad 8) = 2 := kd_row hst (by decide) (by decide)
  refine k_len hst h8 fun _ h1000 => ?_
  have loop : ∀ j i : Nat, i + j = (xR σ (ad 8)).length → K p l e s m ([.ref (ad 1), .ref rp] : List Value).toArray below meth c (rmm 1 0 0) yX3_refill.cls cX3_refill 4 (none) G A (MQ below (Qd (none) (CH G A ad ar ow cap kd it (zM (zRr σ rp (addsR (cap rp) [] ((xR σ (ad 8)).filter Option.isSome))) (clrM (xM σ) (xR σ (ad 8))))) A) ([.ref (ad 1), .ref rp] : List Value).toArray s 0 0 A) 0 0 (CH G A ad ar ow cap kd it (zM (zRr σ rp (addsR (cap rp) [] (((xR σ (ad 8)).take i).filter Option.isSome))) (clrM (xM σ) ((xR σ (ad 8)).take i)))) 6 [some (.ref (ad 1)), some (.ref rp), some (.int (nI i)), none] [] := by
    intro j
    induction j with
    | zero =>
      intro i hi
      have hi6 : i = (xR σ (ad 8)).length := by omega
      subst hi6
      refine k_iload_n (pc := 6) dX3_refill_6 rfl ?_
      refine k_aload_n (pc := 7) dX3_refill_7 rfl ?_
      refine h_X3_28 hst (pc := 8) dX3_refill_8 ?_
      refine h_X3_70 h8 (pc := 11) dX3_refill_11 ?_
      rw [show xR (zM (zRr σ rp (addsR (cap rp) [] (((xR σ (ad 8)).take (xR σ (ad 8)).length).filter Option.isSome))) (clrM (xM σ) ((xR σ (ad 8)).take (xR σ (ad 8)).length))) (ad 8) = xR (zRr σ rp (addsR (cap rp) [] (((xR σ (ad 8)).take (xR σ (ad 8)).length).filter Option.isSome))) (ad 8) from rfl, zRr_ne hpb]
      refine k_icmp_ge (tgt := 46) (pc := 14) dX3_refill_14 (by decide) (fun _ => ?_) (fun c => absurd (nI_le (Nat.le_refl _) (by omega)) c)
      rw [List.take_length]
      exact k_vret (pc := 46) dX3_refill_46 (fun _ h => h) (Nat.le_refl _) (Nat.le_refl _)
    | succ j ih =>
      intro i hi
      obtain ⟨o, ho⟩ : ∃ o, (xR σ (ad 8))[i]? = some o := ⟨_, List.getElem?_eq_getElem (by omega)⟩
      have step := ih (i + 1) (by omega)
      rw [take_snoc ho, List.filter_append] at step
      have hlen8 : xR (zM (zRr σ rp (addsR (cap rp) [] (((xR σ (ad 8)).take i).filter Option.isSome))) (clrM (xM σ) ((xR σ (ad 8)).take i))) (ad 8) = xR σ (ad 8) := by
        show xR (zRr σ rp (addsR (cap rp) [] (((xR σ (ad 8)).take i).filter Option.isSome))) (ad 8) = _
        rw [zRr_ne hpb]
      have hat : atR (xR (zM (zRr σ rp (addsR (cap rp) [] (((xR σ (ad 8)).take i).filter Option.isSome))) (clrM (xM σ) ((xR σ (ad 8)).take i))) (ad 8)) (nI i) = o := by
        rw [hlen8]
        unfold atR
        rw [if_neg (nI_pos (by omega)), nI_clamp (by omega), ho]
        rfl
      refine k_iload_n (pc := 6) dX3_refill_6 rfl ?_
      refine k_aload_n (pc := 7) dX3_refill_7 rfl ?_
      refine h_X3_28 hst (pc := 8) dX3_refill_8 ?_
      refine h_X3_70 h8 (pc := 11) dX3_refill_11 ?_
      rw [hlen8]
      refine k_icmp_ge (tgt := 46) (pc := 14) dX3_refill_14 (by decide) (fun c => absurd c (nI_ge (by omega) (by omega))) (fun _ => ?_)
      refine k_aload_n (pc := 17) dX3_refill_17 rfl ?_
      refine h_X3_28 hst (pc := 18) dX3_refill_18 ?_
      refine k_iload_n (pc := 21) dX3_refill_21 rfl ?_
      refine k_callC2 sv_X3_43 h8 (r_at hst h8 (nI i)) (pc := 22) dX3_refill_22 rfl rfl (Nat.le_of_ble_eq_true rfl) (by decide) (by decide) (Nat.le_refl _) (Nat.le_refl _) ?_
      rw [hat]
      cases o with
      | none =>
        rw [clrM_none] at step
        simp only [List.filter_cons, Option.isSome_none, Bool.false_eq_true, if_false, List.filter_nil, List.append_nil] at step
        refine k_astore_nN (pc := 25) dX3_refill_25 (by decide) rfl ?_
        refine k_aload_nN (pc := 26) dX3_refill_26 rfl ?_
        refine k_ifnullN (tgt := 40) (pc := 27) dX3_refill_27 (by decide) ?_
        refine k_iinc (pc := 40) dX3_refill_40 rfl (nI_inc _) (by decide) rfl ?_
        refine k_goto (tgt := 6) (pc := 43) dX3_refill_43 (by decide) ?_
        exact k_lv (fun i v h => by match i, h with | 0, h => exact h | 1, h => exact h | 2, h => exact h | 3, h => cases h | i + 4, h => cases h) step
      | some b =>
        have hb := hw b (List.mem_of_getElem? ho)
        rw [← clrM_snoc] at step
        simp only [List.filter_cons, Option.isSome_some, if_true, List.filter_nil] at step
        rw [addsR_snoc] at step
        have hadd := r_add (G := G) (A := A) (it := it) (σ := zM (zRr σ rp (addsR (cap rp) [] (((xR σ (ad 8)).take i).filter Option.isSome))) (va_up (clrM (xM σ) ((xR σ (ad 8)).take i)) b false)) hst hp b hb
        rw [show xR (zM (zRr σ rp (addsR (cap rp) [] (((xR σ (ad 8)).take i).filter Option.isSome))) (va_up (clrM (xM σ) ((xR σ (ad 8)).take i)) b false)) rp = xR (zRr σ rp (addsR (cap rp) [] (((xR σ (ad 8)).take i).filter Option.isSome))) rp from rfl, zRr_same] at hadd
        rw [show zRr (zM (zRr σ rp (addsR (cap rp) [] (((xR σ (ad 8)).take i).filter Option.isSome))) (va_up (clrM (xM σ) ((xR σ (ad 8)).take i)) b false)) rp (addR (cap rp) (addsR (cap rp) [] (((xR σ (ad 8)).take i).filter Option.isSome)) (some b)) = zM (zRr (zRr σ rp (addsR (cap rp) [] (((xR σ (ad 8)).take i).filter Option.isSome))) rp (addR (cap rp) (addsR (cap rp) [] (((xR σ (ad 8)).take i).filter Option.isSome)) (some b))) (va_up (clrM (xM σ) ((xR σ (ad 8)).take i)) b false) from rfl, zRr_zRr] at hadd
        refine k_astore_n (pc := 25) dX3_refill_25 (by decide) rfl ?_
        refine k_aload_n (pc := 26) dX3_refill_26 rfl ?_
        refine k_ifnull (pc := 27) dX3_refill_27 ?_
        refine k_aload_n (pc := 30) dX3_refill_30 rfl ?_
        refine k_iconst (v := 0) (pc := 31) dX3_refill_31 (by decide) ?_
        refine hp_X3_103 hb (show (0 : Int32) = bI false from rfl) (pc := 32) dX3_refill_32 ?_
        refine k_aload_n (pc := 35) dX3_refill_35 rfl ?_
        refine k_aload_n (pc := 36) dX3_refill_36 rfl ?_
        refine k_callC2 sv_X3_99 hp (hadd) (pc := 37) dX3_refill_37 rfl rfl (Nat.le_of_ble_eq_true rfl) (by decide) (by decide) (Nat.le_refl _) (Nat.le_refl _) ?_
        refine k_iinc (pc := 40) dX3_refill_40 rfl (nI_inc _) (by decide) rfl ?_
        refine k_goto (tgt := 6) (pc := 43) dX3_refill_43 (by decide) ?_
        exact k_lv (fun i v h => by match i, h with | 0, h => exact h | 1, h => exact h | 2, h => exact h | 3, h => cases h | i + 4, h => cases h) step
  have l0 := loop (xR σ (ad 8)).length 0 (by omega)
  rw [show (xR σ (ad 8)).take 0 = [] from rfl, clrM_nil] at l0
  refine k_aload_n (pc := 0) dX3_refill_0 rfl ?_
  refine k_callC2 sv_X3_92 hp (r_clear hst hp) (pc := 1) dX3_refill_1 rfl rfl (Nat.le_of_ble_eq_true rfl) (by decide) (by decide) (Nat.le_refl _) (Nat.le_refl _) ?_
  refine k_iconst (v := 0) (pc := 4) dX3_refill_4 (by decide) ?_
  refine k_istore_n (pc := 5) dX3_refill_5 (by decide) rfl ?_
  exact l0
end SETT
