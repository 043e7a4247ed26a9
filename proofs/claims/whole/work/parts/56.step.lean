section ESTQ
variable {ad ar ow cap kd : Nat → Nat} {it : Nat → Da} {σ : CS} {S : SS} {D : List En} {ZR : List ZE} {i M0 : Nat} {ZO1 ZO2 : List ZE} {a : Nat} {e : En}
/-- RB after a put anew -/
theorem RB.anew {σ' : CS} {S' : SS} (h : RB ad kd it σ S) (ha : xI σ a = true) (hR : ∀ s, s < 64 → xR σ' (ad (11 + s)) = xR σ (ad (11 + s))) (hI : xI σ' = xI σ) (hM : xM σ' = va_up (xM σ) a false) (hF : xF σ' = xF σ) (hV : xV σ' = xV σ) (hlv : livS S' = livS S) (hS : xS σ' = xS σ) (hP : sP S' = sP S) (hT : xT σ' = sC S') (hH : xH σ' = sH S') (hW : ∀ j, j < 8 → xW σ' j = sN S' j) (hC : xC σ' = xC σ) (hX : sX S' = sX S) (hQ : xQ σ' = xQ σ) (hG : sG S' = sG S) : RB ad kd it σ' S' := by
  obtain ⟨h1, h2, h3, h4, h5, h6, h7, h8, h9⟩ := h
  have hsum : ∀ n, sumP S' n = sumP S n := by
    intro n
    induction n with
    | zero => rfl
    | succ n ih => show sumP S' n + (sP S' n).length = sumP S n + (sP S n).length; rw [ih, hP]
  refine ⟨fun s hs => ?_, fun s hs => by rw [hF, hP]; exact h2 s hs, by rw [hV, hlv]; exact h3, by rw [hS, hsum]; exact h4, hT, hH, hW, by rw [hC, hX]; exact h8, by rw [hQ, hG]; exact h9⟩
  obtain ⟨bs, b1, b2, b3⟩ := h1 s hs
  refine ⟨bs, by rw [hR s hs]; exact b1, ?_, fun b hb => ⟨(b3 b hb).1, by rw [hI]; exact (b3 b hb).2⟩⟩
  rw [hP, ← b2]
  refine List.map_congr_left fun b hb => ?_
  rw [hM, va_up_ne _ _ (fun z => by have h10 := (b3 b hb).2; rw [z, ha] at h10; cases h10)]
/-- the case of one with a mark -/
theorem E_anew (hst : CSt ad ar ow cap kd) (hc : CWF ad kd σ) (hcr : CPr cap σ) (h : RelE ad kd it σ S D (ZO1 ++ (a, e) :: ZO2) ZR i) (hI : InvE S (ZO1 ++ (a, e) :: ZO2) ZR M0) (hd : ∀ z ∈ ZO1, z.2.2.1 = false) (hal : e.2.1 = true) (hmk : e.2.2.1 = true) (hTi : (xR σ (ad 10))[i]? = some (some a)) :
    ∃ ZR', RelE ad kd it (anewC cap it σ a) (anewS (uC (uL S (killAt (sL S) (D.length + ZO1.length))) (inc (sC S) 10)) e.1) (D ++ ZO1.map Prod.snd ++ [kill1 e]) ZO2 ZR' (i + 1) ∧ InvE (anewS (uC (uL S (killAt (sL S) (D.length + ZO1.length))) (inc (sC S) 10)) e.1) ZO2 ZR' M0 ∧ CPr cap (anewC cap it σ a) := by
  have hkl := h.kl
  have hat := h.at
  have hdd := h.dd hd
  obtain ⟨n1, n2⟩ := h.nd
  obtain ⟨a1, a2, a3, a4⟩ := h.za
  have hz2 := h.z2
  have hmid := h.mid
  obtain ⟨h1, h2, h3, h4, h5, h6, h7, h8⟩ := h
  obtain ⟨i1, i2, i3, i4, i5, i6, i7, i8, i9, i10, i11⟩ := hI
  have haI : xI σ a = true := by rw [a3]; exact hal
  have hoke : okD e.1 := (h3 (a, e) (by simp)).2
  have hH : xH σ = sH S := h7.2.2.2.2.2.1
  have hW : ∀ j, j < 8 → xW σ j = sN S j := h7.2.2.2.2.2.2.1
  have hO : plR it (xR σ (xO σ)) = sO S := by
    rw [h6.2, plR_row (fun z hz => h5 z (List.mem_append_right _ hz))]
    exact i1.2.2.1
  have hsafe : safe (sN S (sH S)) (sO S) (e :: ZO2.map Prod.snd) := by
    rw [List.map_append, List.map_cons] at i7
    exact safe_skip _ i7
  obtain ⟨sf1, -, sf3⟩ := hsafe
  have hTl := T_step (il' := xI σ) (g := id) h8 hd hal hTi haI (fun b hb => hb) (fun z hz => ⟨rfl, ((hz2 z (List.mem_append_left _ hz)).2.2.1).symm, fun q => q⟩)
  rw [List.map_id] at hTl
  have hkq : keyD (e :: (ZO2 ++ ZR).map Prod.snd) := by
    have : List.Sublist ((a, e) :: (ZO2 ++ ZR)) ((ZO1 ++ (a, e) :: ZO2) ++ ZR) := by
      rw [List.append_assoc]
      exact List.sublist_append_right ZO1 _
    exact List.Pairwise.sublist (this.map Prod.snd) i2
  have hkq2 : ∀ g : En → En, (∀ x, (g x).1 = x.1 ∧ (g x).2.1 = x.2.1) → keyD (((ZO2 ++ ZR).map Prod.snd).map g ++ [(e.1, true, false, 32)]) := by
    intro g hg
    obtain ⟨k1, k2⟩ := List.pairwise_cons.mp hkq
    unfold keyD
    rw [List.pairwise_append]
    refine ⟨keyD.map k2 (fun x _ => ⟨(hg x).1, fun z => by rw [← (hg x).2]; exact z⟩), by simp, fun x hx y hy x1 y1 => ?_⟩
    obtain ⟨x0, hx0, rfl⟩ := List.mem_map.mp hx
    simp at hy
    subst hy
    rw [(hg x0).1]
    rw [(hg x0).2] at x1
    exact Ne.symm (k1 x0 hx0 hal x1)
  have hmkd : mkd (killAt (sL S) (D.length + ZO1.length)) + 1 = mkd (sL S) := by
    rw [hkl, hmid, mkd_app, mkd_app, mkd_app, mkd_app, mkd_cons, mkd_cons, mkd_app]
    simp [kill1, mkd, hal, hmk]
    omega
  have hcnt := cnt_kill hat hal
  rw [← killAt_set hat] at hcnt
  have hlenk : (killAt (sL S) (D.length + ZO1.length)).length = (sL S).length := by rw [killAt_set hat, List.length_set]
  have hZ2R : ZOk kd it (an1 σ a) (ZO2 ++ ZR) := fun z hz => by
    obtain ⟨k1, k2, k3, k4⟩ := hz2 z hz
    refine ⟨k1, k2, k3, fun q => ?_⟩
    show va_up (xM σ) a false z.1 = _
    rw [va_up_ne _ _ (n2 z hz)]
    exact k4 q
  have hnd2 : ∀ Y : List ZE, Y.map Prod.fst = ZR.map Prod.fst → ∀ q : En, ((ZO2 ++ (Y ++ [(a, q)])).map Prod.fst).Nodup := by
    intro Y hY q
    rw [← List.append_assoc, List.map_append, List.nodup_append]
    have e1 : (ZO2 ++ Y).map Prod.fst = (ZO2 ++ ZR).map Prod.fst := by rw [List.map_append, List.map_append, hY]
    refine ⟨by rw [e1]; exact n1, by simp, fun x hx y hy => ?_⟩
    rw [e1] at hx
    obtain ⟨z, hz, rfl⟩ := List.mem_map.mp hx
    simp at hy
    subst hy
    exact n2 z hz
  have hopen : (rowOf ZR 32).length ≤ 8 := by
    rw [row_len]
    exact onP_len (fun x hx => (i1.1 x hx).1) (by rw [i1.2.2.1]; exact i1.2.2.2.1)
  unfold anewC an2 anewS
  by_cases hov : sO S + plc e.1 ≤ 32
  · -- there is room
    rw [if_pos (show plR it (xR σ (xO σ)) + plc (it a) ≤ 32 by rw [hO, a2]; exact hov), if_neg (show ¬ sO (uC (uL S (killAt (sL S) (D.length + ZO1.length))) (inc (sC S) 10)) + plc e.1 > 32 from fun z => by have : sO S + plc e.1 > 32 := z; omega)]
    rw [if_neg (by omega), if_neg (by omega)] at sf3
    have hlt : (rowOf ZR 32).length < cap (xO σ) := by
      rw [hcr.2, row_len]
      have q1 := plS_len (l := onP 32 (ZR.map Prod.snd)) (fun x hx => (i1.1 x (List.mem_filter.mp hx).1).1)
      have q2 : plS (onP 32 (ZR.map Prod.snd)) = sO S := i1.2.2.1
      have q3 := plc_ge hoke
      omega
    have hLf : sL (pushS (uC (uL S (killAt (sL S) (D.length + ZO1.length))) (inc (sC S) 10)) e.1) = (D ++ ZO1.map Prod.snd ++ [kill1 e]) ++ (ZO2 ++ (ZR ++ [(a, ((e.1, true, false, 32) : En))])).map Prod.snd := by
      show killAt (sL S) (D.length + ZO1.length) ++ [(e.1, true, false, 32)] = _
      rw [hkl]
      simp
    refine ⟨ZR ++ [(a, (e.1, true, false, 32))], ⟨hLf, hdd, fun z hz => h3 z (by simp [hz]), hnd2 ZR rfl _, ?_, RZ.add (σ := an1 σ a) hc h6 hlt, ?_, ?_⟩, ?_, hcr⟩
    · intro z hz
      rw [← List.append_assoc] at hz
      rcases List.mem_append.mp hz with hz | hz
      · exact hZ2R z hz
      · simp at hz
        subst hz
        exact ⟨a1, a2, haI, fun _ => va_up_self _ _ _⟩
    · refine RB.anew (a := a) h7 haI (fun s hs => addO_ad (σ := an1 σ a) hc a (by omega) (by omega)) rfl rfl rfl rfl ?_ rfl rfl ?_ hH hW rfl rfl rfl rfl
      · show nI ((killAt (sL S) (D.length + ZO1.length) ++ [((e.1, true, false, 32) : En)]).filter (fun e => e.2.1)).length = nI ((sL S).filter (fun e => e.2.1)).length
        rw [cnt_push, hcnt]
      · show inc (xT σ) 10 = inc (sC S) 10
        rw [show xT σ = sC S from h7.2.2.2.2.1]
    · rw [addO_ad (σ := an1 σ a) hc a (by decide) (by decide)]
      exact hTl
    · refine ⟨?_, ?_, i3, i4, i5, i6, sf3, ?_, ?_, ?_, ?_⟩
      · rw [List.map_append]
        exact i1.push hoke hov
      · have := hkq2 id (fun x => ⟨rfl, rfl⟩)
        rw [List.map_id] at this
        rw [← List.append_assoc, List.map_append]
        exact this
      · show ((killAt (sL S) (D.length + ZO1.length) ++ [((e.1, true, false, 32) : En)]).filter (fun e => e.2.1)).length ≤ 264
        rw [cnt_push, hcnt]
        exact i8
      · show (killAt (sL S) (D.length + ZO1.length) ++ [((e.1, true, false, 32) : En)]).length + _ ≤ _
        rw [List.length_append, hlenk]
        rw [List.length_append, List.length_cons] at i9
        simp
        omega
      · show mkd (killAt (sL S) (D.length + ZO1.length) ++ [((e.1, true, false, 32) : En)]) ≤ M0
        rw [mkd_app]
        have : mkd [((e.1, true, false, 32) : En)] = 0 := rfl
        omega
      · intro _
        show mkd (killAt (sL S) (D.length + ZO1.length) ++ [((e.1, true, false, 32) : En)]) < M0
        rw [mkd_app]
        have : mkd [((e.1, true, false, 32) : En)] = 0 := rfl
        omega
  · -- the open page is written first
    have hp2 : sN S (sH S) ≤ 2 := sf1.2.2 (by omega)
    rw [if_neg (show ¬ plR it (xR σ (xO σ)) + plc (it a) ≤ 32 by rw [hO, a2]; exact hov), if_pos (show sO (uC (uL S (killAt (sL S) (D.length + ZO1.length))) (inc (sC S) 10)) + plc e.1 > 32 from by show sO S + plc e.1 > 32; omega)]
    rw [if_pos (by omega), if_pos (by omega)] at sf3
    have hw4 : xW (an1 σ a) (xH (an1 σ a)) < 4 := by
      show xW σ (xH σ) < 4
      rw [hH, hW _ i4]
      omega
    have hwe : 4 * xH (an1 σ a) + xW (an1 σ a) (xH (an1 σ a)) = 4 * sH S + sN S (sH S) := by
      show 4 * xH σ + xW σ (xH σ) = _
      rw [hH, hW _ i4]
    have hno := i1.no i4 (by omega)
    have hc1 : CWF ad kd (an1 σ a) := hc
    have hrz := RZ.wop (σ := an1 σ a) hc1 h6 hw4 (fun z hz => by rw [hwe]; exact hno z.2 (List.mem_map_of_mem hz))
    rw [hwe] at hrz
    obtain ⟨w1, w2, w3, w4, w5, w6, w7, w8, w9, w10, w11, w12⟩ := wopC_all hw4
    have hcr1 : CPr cap (wopC (an1 σ a)) := CPr.wop (σ := an1 σ a) hcr (by show xH σ < 8; rw [hH]; exact i4) hw4
    have hp32 : 4 * sH S + sN S (sH S) < 32 := by omega
    have hrow32 : rowOf (ZR.map (relz (4 * sH S + sN S (sH S)))) 32 = [] := by
      rw [row_relz hp32 (fun z hz => hno z.2 (List.mem_map_of_mem hz)) (Nat.le_refl _), if_neg (by omega), if_pos rfl]
    have hdr : ∀ x : En, isOut x = true → relb (4 * sH S + sN S (sH S)) x = x := fun x hx => relb_n (fun z => by unfold isOut at hx; rw [z] at hx; simp at hx)
    have hDr : ∀ l : List En, (∀ x ∈ l, isOut x = true) → l.map (relb (4 * sH S + sN S (sH S))) = l := fun l hl => by
      have : l.map (relb (4 * sH S + sN S (sH S))) = l.map id := List.map_congr_left fun x hx => hdr x (hl x hx)
      rw [this, List.map_id]
    have hLf : sL (pushS (wr0 (uC (uL S (killAt (sL S) (D.length + ZO1.length))) (inc (sC S) 10))) e.1) = (D ++ ZO1.map Prod.snd ++ [kill1 e]) ++ (ZO2 ++ (ZR.map (relz (4 * sH S + sN S (sH S))) ++ [(a, ((e.1, true, false, 32) : En))])).map Prod.snd := by
      show (killAt (sL S) (D.length + ZO1.length)).map (relb (4 * sH S + sN S (sH S))) ++ [(e.1, true, false, 32)] = _
      rw [hkl, List.map_append, hDr _ (fun x hx => (hdd x hx).1), List.map_append, List.map_append, hDr (ZO2.map Prod.snd) (fun x hx => by obtain ⟨z, hz, rfl⟩ := List.mem_map.mp hx; exact (h3 z (by simp [hz])).1), ← relz_snd]
      simp
    have hkl2 : ((killAt (sL S) (D.length + ZO1.length)).map (relb (4 * sH S + sN S (sH S)))).length = (sL S).length := by rw [List.length_map, hlenk]
    have hmk2 : mkd ((killAt (sL S) (D.length + ZO1.length)).map (relb (4 * sH S + sN S (sH S)))) ≤ mkd (killAt (sL S) (D.length + ZO1.length)) := mkd_map fun x _ hx => by rw [(relb_1 _ x).2.1, (relb_1 _ x).2.2] at hx; exact hx
    have hc2 := cnt_map (l := killAt (sL S) (D.length + ZO1.length)) (g := relb (4 * sH S + sN S (sH S))) (fun x _ => (relb_1 _ x).2.1)
    refine ⟨ZR.map (relz (4 * sH S + sN S (sH S))) ++ [(a, (e.1, true, false, 32))], ⟨hLf, hdd, fun z hz => h3 z (by simp [hz]), hnd2 _ (relz_fst _ _) _, ?_, RZ.add hc1.wop hrz (by rw [hrow32, hcr1.2]; decide), ?_, ?_⟩, ?_, hcr1⟩
    · intro z hz
      rcases List.mem_append.mp hz with hz | hz
      · have := hZ2R z (List.mem_append_left _ hz)
        exact ⟨this.1, this.2.1, by show xI (wopC (an1 σ a)) z.1 = _; rw [w1]; exact this.2.2.1, by show _ → xM (wopC (an1 σ a)) z.1 = _; rw [w2]; exact this.2.2.2⟩
      · rcases List.mem_append.mp hz with hz | hz
        · have hz3 : ZOk kd it (an1 σ a) (ZR.map (relz (4 * sH S + sN S (sH S)))) := ZOk.relz (fun y hy => hZ2R y (List.mem_append_right _ hy)) _
          have := hz3 z hz
          exact ⟨this.1, this.2.1, by show xI (wopC (an1 σ a)) z.1 = _; rw [w1]; exact this.2.2.1, by show _ → xM (wopC (an1 σ a)) z.1 = _; rw [w2]; exact this.2.2.2⟩
        · simp at hz
          subst hz
          refine ⟨a1, a2, ?_, fun _ => ?_⟩
          · show xI (wopC (an1 σ a)) a = true
            rw [w1]
            exact haI
          · show xM (wopC (an1 σ a)) a = false
            rw [w2]
            exact va_up_self _ _ _
    · refine RB.anew (a := a) h7 haI (fun s hs => (addO_ad hc1.wop a (by omega) (by omega)).trans (wopC_ad hc1 (by omega) (by omega))) w1 w2 w3 w4 ?_ w5 rfl ?_ ?_ ?_ w9 rfl w10 rfl
      · show nI (((killAt (sL S) (D.length + ZO1.length)).map (relb (4 * sH S + sN S (sH S))) ++ [((e.1, true, false, 32) : En)]).filter (fun e => e.2.1)).length = nI ((sL S).filter (fun e => e.2.1)).length
        rw [cnt_push, hc2, hcnt]
      · show xT (wopC (an1 σ a)) = inc (inc (sC S) 10) 1
        rw [w6, ← show xT σ = sC S from h7.2.2.2.2.1]
        rfl
      · show xH (wopC (an1 σ a)) = sH S
        rw [w7]
        exact hH
      · intro j hj
        show xW (wopC (an1 σ a)) j = va_up (sN S) (sH S) (sN S (sH S) + 1) j
        rw [w8]
        show va_up (xW σ) (xH σ) (xW σ (xH σ) + 1) j = _
        rw [hH, hW _ i4]
        unfold va_up
        split
        · rfl
        · exact hW j hj
    · show ((xR (addO cap (wopC (an1 σ a)) a) (ad 10)).drop (i + 1)).filter (inL (xI (wopC (an1 σ a)))) = _
      rw [addO_ad hc1.wop a (by decide) (by decide), wopC_ad hc1 (by decide) (by decide), w1]
      exact hTl
    · refine ⟨?_, ?_, i3, i4, fun j => ?_, ?_, ?_, ?_, ?_, ?_, ?_⟩
      · rw [List.map_append, relz_snd]
        have := (i1.wop i4 (by omega)).push hoke (by rw [Nat.zero_add]; have := plc_le hoke; omega)
        exact this
      · have := hkq2 (relb (4 * sH S + sN S (sH S))) (fun x => ⟨(relb_1 _ x).1, (relb_1 _ x).2.1⟩)
        rw [List.map_append, List.map_append, hDr (ZO2.map Prod.snd) (fun x hx => by obtain ⟨z, hz, rfl⟩ := List.mem_map.mp hx; exact (h3 z (by simp [hz])).1), ← relz_snd] at this
        rw [← List.append_assoc, List.map_append, List.map_append]
        exact this
      · show va_up (sN S) (sH S) (sN S (sH S) + 1) j ≤ 4
        unfold va_up
        split
        · omega
        · exact i5 j
      · show va_up (sN S) (sH S) (sN S (sH S) + 1) (sH S) ≤ 3
        rw [va_up_self]
        omega
      · show safe (va_up (sN S) (sH S) (sN S (sH S) + 1) (sH S)) (0 + plc e.1) (ZO2.map Prod.snd)
        rw [va_up_self, Nat.zero_add]
        exact sf3
      · show (((killAt (sL S) (D.length + ZO1.length)).map (relb (4 * sH S + sN S (sH S))) ++ [((e.1, true, false, 32) : En)]).filter (fun e => e.2.1)).length ≤ 264
        rw [cnt_push, hc2, hcnt]
        exact i8
      · show ((killAt (sL S) (D.length + ZO1.length)).map (relb (4 * sH S + sN S (sH S))) ++ [((e.1, true, false, 32) : En)]).length + _ ≤ _
        rw [List.length_append, hkl2]
        rw [List.length_append, List.length_cons] at i9
        simp
        omega
      · show mkd ((killAt (sL S) (D.length + ZO1.length)).map (relb (4 * sH S + sN S (sH S))) ++ [((e.1, true, false, 32) : En)]) ≤ M0
        rw [mkd_app]
        have : mkd [((e.1, true, false, 32) : En)] = 0 := rfl
        omega
      · intro _
        show mkd ((killAt (sL S) (D.length + ZO1.length)).map (relb (4 * sH S + sN S (sH S))) ++ [((e.1, true, false, 32) : En)]) < M0
        rw [mkd_app]
        have : mkd [((e.1, true, false, 32) : En)] = 0 := rfl
        omega
end ESTQ
