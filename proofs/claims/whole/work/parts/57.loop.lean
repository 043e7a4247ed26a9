theorem loopS_add : ∀ (n m k : Nat) (S : SS), loopS (n + m) k S = loopS m (k + n) (loopS n k S) := by
  intro n
  induction n with
  | zero => intro m k S; rw [Nat.zero_add]; rfl
  | succ n ih =>
    intro m k S
    rw [show n + 1 + m = (n + m) + 1 from by omega]
    show loopS (n + m) (k + 1) (stepS S k) = loopS m (k + (n + 1)) (loopS n (k + 1) (stepS S k))
    rw [ih, show k + 1 + n = k + (n + 1) from by omega]
theorem OkL_add : ∀ (n m k : Nat) (S : SS), OkL n k S → OkL m (k + n) (loopS n k S) → OkL (n + m) k S := by
  intro n
  induction n with
  | zero => intro m k S _ h; rw [Nat.zero_add]; exact h
  | succ n ih =>
    intro m k S h1 h2
    rw [show n + 1 + m = (n + m) + 1 from by omega]
    refine ⟨h1.1, ih m (k + 1) _ h1.2 ?_⟩
    rw [show k + 1 + n = k + (n + 1) from by omega]
    exact h2
theorem loop_noop : ∀ (n k : Nat) (S : SS), (∀ j, k ≤ j → j < k + n → ∃ e : En, (sL S)[j]? = some e ∧ ¬ (isOut e = true ∧ e.2.1 = true) ∧ e.2.2.2 < 40) → loopS n k S = S ∧ OkL n k S := by
  intro n
  induction n with
  | zero => intro k S _; exact ⟨rfl, trivial⟩
  | succ n ih =>
    intro k S h
    obtain ⟨e, h1, h2, h3⟩ := h k (Nat.le_refl _) (by omega)
    have hs : stepS S k = S := by
      unfold stepS
      rw [h1]
      exact if_neg h2
    obtain ⟨i1, i2⟩ := ih (k + 1) S (fun j h4 h5 => h j (by omega) (by omega))
    refine ⟨by show loopS n (k + 1) (stepS S k) = S; rw [hs]; exact i1, ⟨e, h1, h3, fun z => absurd z h2⟩, by rw [hs]; exact i2⟩
section ELOOP
variable {ad ar ow cap kd : Nat → Nat} {it : Nat → Da} {σ : CS} {S : SS} {D : List En} {ZO ZR : List ZE} {i M0 : Nat}
theorem out_lt {e : En} (h : isOut e = true) : e.2.2.2 < 40 ∧ ¬ e.2.2.2 / 4 = 8 := by
  unfold isOut at h
  have : e.2.2.2 / 4 = 9 := by simpa using h
  omega
theorem RelE.lb (h : RelE ad kd it σ S D ZO ZR i) (hI : InvE S ZO ZR M0) : Lb S := by
  intro e he
  rw [h.1] at he
  rcases List.mem_append.mp he with he | he
  · have := out_lt (h.2.1 e he).1
    exact ⟨this.1, fun z => absurd z this.2⟩
  · rw [List.map_append] at he
    rcases List.mem_append.mp he with he | he
    · obtain ⟨z, hz, rfl⟩ := List.mem_map.mp he
      have := out_lt (h.2.2.1 z hz).1
      exact ⟨this.1, fun z => absurd z this.2⟩
    · have := (hI.1.1 e he).2.1
      exact ⟨by omega, fun z => by omega⟩
theorem RelE.okd (h : RelE ad kd it σ S D ZO ZR i) (hI : InvE S ZO ZR M0) : ∀ e ∈ sL S, okD e.1 := by
  intro e he
  rw [h.1] at he
  rcases List.mem_append.mp he with he | he
  · exact (h.2.1 e he).2.2
  · rw [List.map_append] at he
    rcases List.mem_append.mp he with he | he
    · obtain ⟨z, hz, rfl⟩ := List.mem_map.mp he
      exact (h.2.2.1 z hz).2
    · exact (hI.1.1 e he).1
theorem RelE.hok {ZO1 ZO2 : List ZE} {a : Nat} {e : En} (h : RelE ad kd it σ S D (ZO1 ++ (a, e) :: ZO2) ZR i) (hI : InvE S (ZO1 ++ (a, e) :: ZO2) ZR M0) : HOk S (D.length + ZO1.length) := by
  have hlb := h.lb hI
  have hokd := h.okd hI
  have hat := h.at
  obtain ⟨i1, i2, i3, i4, i5, i6, i7, i8, i9, i10, i11⟩ := hI
  refine ⟨hlb, i4, i1.2.2.2.1, by omega, fun e' he' => ?_⟩
  rw [hat] at he'
  cases he'
  have hsafe : safe (sN S (sH S)) (sO S) (e :: ZO2.map Prod.snd) := by
    rw [List.map_append, List.map_cons] at i7
    exact safe_skip _ i7
  refine ⟨(hokd e (List.mem_of_getElem? hat)).2, hsafe.1.2.2, fun x hx => ?_⟩
  unfold newsS at hx
  rcases List.mem_append.mp hx with hx | hx
  · obtain ⟨y, hy, rfl⟩ := List.mem_map.mp hx
    exact ((i3 _ (setN_lt e.1.1)).1 y (List.mem_filter.mp hy).1).1
  · obtain ⟨y, hy, rfl⟩ := List.mem_map.mp hx
    exact hokd y (List.mem_filter.mp hy).1
/-- one item that is settled -/
theorem E_step (hst : CSt ad ar ow cap kd) (hcap : cap (ad 8) = 272 ∧ (∀ q, q < 64 → cap (ad (11 + q)) = 8) ∧ cap (ad 9) = 264) (hc : CWF ad kd σ) (hcr : CPr cap σ) {ZO1 ZO2 : List ZE} {a : Nat} {e : En} (h : RelE ad kd it σ S D (ZO1 ++ (a, e) :: ZO2) ZR i) (hI : InvE S (ZO1 ++ (a, e) :: ZO2) ZR M0) (hd : ∀ z ∈ ZO1, z.2.2.1 = false) (hal : e.2.1 = true) (hTi : (xR σ (ad 10))[i]? = some (some a)) :
    ∃ ZO2' ZR', RelE ad kd it (settleC ad cap it σ i) (handleS S (D.length + ZO1.length)) (D ++ ZO1.map Prod.snd ++ [kill1 e]) ZO2' ZR' (i + 1) ∧ InvE (handleS S (D.length + ZO1.length)) ZO2' ZR' M0 ∧ CPr cap (settleC ad cap it σ i) ∧ ZO2'.length = ZO2.length ∧ ZR.length ≤ ZR'.length := by
  obtain ⟨a1, a2, a3, a4⟩ := h.za
  have hat := h.at
  have hga := h.gather hI (setN e.1.1)
  have hlive := h.live (setN e.1.1)
  have hlen : ((((ZO1 ++ (a, e) :: ZO2) ++ ZR).filter (fun z => inSet (setN e.1.1) z.2)).map Prod.fst).length = ((sL S).filter (inSet (setN e.1.1))).length := by rw [hlive, List.length_map, List.length_map]
  have hlen2 : ((sL S).filter (inSet (setN e.1.1))).length ≤ 264 := by
    refine Nat.le_trans ?_ hI.2.2.2.2.2.2.2.1
    refine List.Sublist.length_le ?_
    rw [show (sL S).filter (inSet (setN e.1.1)) = ((sL S).filter (fun e => e.2.1)).filter (inSet (setN e.1.1)) from by
      rw [List.filter_filter]
      refine List.filter_congr fun x _ => ?_
      unfold inSet
      cases x.2.1 <;> simp]
    exact List.filter_sublist
  generalize hgs : (((ZO1 ++ (a, e) :: ZO2) ++ ZR).filter (fun z => inSet (setN e.1.1) z.2)).map Prod.fst = gs at hga hlen
  have hγ : gatherC ad cap it σ (setN e.1.1) i = zRr σ (ad 9) (gs.map some) := by
    unfold gatherC
    rw [hga, adds_id _ _ (by rw [List.length_map, hcap.2.2, hlen]; simp only [List.length_nil]; omega)]
    rfl
  have hsc : settleC ad cap it σ i = setC ad cap it (zRr σ (ad 9) (gs.map some)) a := by
    unfold settleC
    rw [hTi]
    show (if xI σ a = true then setC ad cap it (gatherC ad cap it σ (setN (it a).1) i) a else σ) = _
    rw [if_pos (by rw [a3]; exact hal), a2, hγ]
  have hh : handleS S (D.length + ZO1.length) = if ((sL S).filter (inSet (setN e.1.1))).length > 1 then moveS S (setN e.1.1) else if e.2.2.1 = true then anewS (uC (uL S (killAt (sL S) (D.length + ZO1.length))) (inc (sC S) 10)) e.1 else (takeS (uC (uL S (killAt (sL S) (D.length + ZO1.length))) (inc (sC S) 9)) e.1.1 3).1 := by
    unfold handleS
    rw [hat]
  have hc9 : CWF ad kd (zRr σ (ad 9) (gs.map some)) := by
    rw [← hγ]
    exact hc.gather hst _ _
  have hr9 := h.row9 hst hc (gs.map some)
  have hTi9 : (xR (zRr σ (ad 9) (gs.map some)) (ad 10))[i]? = some (some a) := by
    rw [zRr_ne (adne hst (by decide) (by decide) (by decide))]
    exact hTi
  have hcr9 : CPr cap (zRr σ (ad 9) (gs.map some)) := hcr
  rw [hsc, hh]
  unfold setC
  rw [zRr_same, List.length_map, hlen]
  by_cases h2 : 2 ≤ ((sL S).filter (inSet (setN e.1.1))).length
  · rw [if_pos h2, if_pos (show ((sL S).filter (inSet (setN e.1.1))).length > 1 by omega), a2]
    have hm := E_move hst ⟨hcap.1, hcap.2.1⟩ hc9 hr9 hI hd hal hTi9 (by rw [zRr_same, hgs])
    rw [zRr_same] at hm
    refine ⟨_, _, hm.1, hm.2, ⟨fun j hj => ?_, ?_⟩, List.length_map .., by rw [List.length_map]; exact Nat.le_refl _⟩
    · rw [moveC_G, killsC_G]
      exact hcr.1 j hj
    · rw [moveC_O, killsC_O]
      exact hcr.2
  · rw [if_neg h2, if_neg (show ¬ ((sL S).filter (inSet (setN e.1.1))).length > 1 by omega)]
    by_cases hm : e.2.2.1 = true
    · rw [if_pos (show xM (zRr σ (ad 9) (gs.map some)) a = true by show xM σ a = true; rw [a4 hal]; exact hm), if_pos hm]
      obtain ⟨ZR', g1, g2, g3⟩ := E_anew hst hc9 hcr9 hr9 hI hd hal hm hTi9
      refine ⟨ZO2, ZR', g1, g2, g3, rfl, ?_⟩
      have q1 := congrArg List.length g1.1
      have q2 := congrArg List.length hr9.1
      have q3 : (sL S).length + 1 ≤ (sL (anewS (uC (uL S (killAt (sL S) (D.length + ZO1.length))) (inc (sC S) 10)) e.1)).length := by
        have q4 : (killAt (sL S) (D.length + ZO1.length)).length = (sL S).length := by rw [killAt_set hat, List.length_set]
        unfold anewS
        split
        · show _ ≤ ((killAt (sL S) (D.length + ZO1.length)).map _ ++ [_]).length
          rw [List.length_append, List.length_map, q4]
          exact Nat.le_refl _
        · show _ ≤ (killAt (sL S) (D.length + ZO1.length) ++ [_]).length
          rw [List.length_append, q4]
          exact Nat.le_refl _
      simp at q1 q2
      omega
    · rw [if_neg (show ¬ xM (zRr σ (ad 9) (gs.map some)) a = true by show ¬ xM σ a = true; rw [a4 hal]; exact hm), if_neg hm, a2]
      have hm := E_drop hst hc9 hr9 hI hd hal hTi9
      refine ⟨ZO2, ZR, hm.1, hm.2, ⟨fun j hj => ?_, ?_⟩, rfl, Nat.le_refl _⟩
      · rw [takeC_log.2.2.1]
        show cap (xG (killC (zRr σ (ad 9) (gs.map some)) (some a)).1 j) = 8
        rw [(killC_G _ _).1]
        exact hcr.1 j hj
      · rw [takeC_log.2.2.2]
        show cap (xO (killC (zRr σ (ad 9) (gs.map some)) (some a)).1) = 8
        rw [(killC_G _ _).2]
        exact hcr.2
/-- the whole row of what was taken out -/
theorem E_loop (hst : CSt ad ar ow cap kd) (hcap : cap (ad 8) = 272 ∧ (∀ q, q < 64 → cap (ad (11 + q)) = 8) ∧ cap (ad 9) = 264) : ∀ (n i : Nat) (σ : CS) (S : SS) (D : List En) (ZO ZR : List ZE), i + n = (xR σ (ad 10)).length → CWF ad kd σ → CPr cap σ → RelE ad kd it σ S D ZO ZR i → InvE S ZO ZR M0 →
    ∃ D' ZR', RelE ad kd it (stlC ad cap it n i σ) (loopS ZO.length D.length S) D' [] ZR' (i + n) ∧ InvE (loopS ZO.length D.length S) [] ZR' M0 ∧ CPr cap (stlC ad cap it n i σ) ∧ OkL ZO.length D.length S ∧ D'.length = D.length + ZO.length ∧ ZR.length ≤ ZR'.length := by
  intro n
  induction n with
  | zero =>
    intro i σ S D ZO ZR hi hc hcr h hI
    have hT : (xR σ (ad 10)).drop i = [] := List.drop_eq_nil_of_le (by omega)
    have hz : ZO.filter (fun z => z.2.2.1) = [] := by
      have h8 := h.2.2.2.2.2.2.2
      rw [hT] at h8
      exact List.map_eq_nil_iff.mp h8.symm
    have hdead : ∀ z ∈ ZO, z.2.2.1 = false := fun z hzm => by
      have := List.filter_eq_nil_iff.mp hz z hzm
      simpa using this
    have hnp := loop_noop ZO.length D.length S (fun j h1 h2 => by
      have hj : j - D.length < ZO.length := by omega
      refine ⟨(ZO[j - D.length]).2, ?_, fun q => ?_, (out_lt (h.2.2.1 _ (List.getElem_mem hj)).1).1⟩
      · rw [h.1, List.getElem?_append_right h1, List.map_append, List.getElem?_append_left (by rw [List.length_map]; exact hj), List.getElem?_map, List.getElem?_eq_getElem hj]
        rfl
      · rw [hdead _ (List.getElem_mem hj)] at q
        cases q.2)
    rw [hnp.1]
    refine ⟨D ++ ZO.map Prod.snd, ZR, ?_, ?_, hcr, hnp.2, by rw [List.length_append, List.length_map], Nat.le_refl _⟩
    · obtain ⟨h1, h2, h3, h4, h5, h6, h7, h8⟩ := h
      refine ⟨by rw [h1, List.map_append]; simp, fun x hx => ?_, (fun z hz => (by cases hz)), ?_, fun z hz => h5 z (by rw [List.nil_append] at hz; exact List.mem_append_right _ hz), h6, h7, ?_⟩
      · rcases List.mem_append.mp hx with hx | hx
        · exact h2 x hx
        · obtain ⟨z, hz, rfl⟩ := List.mem_map.mp hx
          exact ⟨(h3 z hz).1, hdead z hz, (h3 z hz).2⟩
      · rw [List.nil_append]
        rw [List.map_append, List.nodup_append] at h4
        exact h4.2.1
      · show ((xR σ (ad 10)).drop (i + 0)).filter _ = _
        rw [Nat.add_zero, hT]
        rfl
    · obtain ⟨i1, i2, i3, i4, i5, i6, i7, i8, i9, i10, i11⟩ := hI
      refine ⟨i1, ?_, i3, i4, i5, i6, trivial, i8, by simp only [List.length_nil]; omega, i10, i11⟩
      rw [List.nil_append]
      rw [List.map_append] at i2
      exact List.Pairwise.sublist (List.sublist_append_right _ _) i2
  | succ n ih =>
    intro i σ S D ZO ZR hi hc hcr h hI
    have hlt : i < (xR σ (ad 10)).length := by omega
    obtain ⟨o, ho⟩ : ∃ o, (xR σ (ad 10))[i]? = some o := ⟨_, List.getElem?_eq_getElem hlt⟩
    have hdr : (xR σ (ad 10)).drop i = o :: (xR σ (ad 10)).drop (i + 1) := by
      obtain ⟨h1, e1⟩ := List.getElem?_eq_some_iff.mp ho
      rw [List.drop_eq_getElem_cons h1, e1]
    obtain ⟨sc1, sc2⟩ := settleC_ok (cap := cap) (it := it) hst hc i
    by_cases hlv : inL (xI σ) o = true
    · obtain ⟨a, rfl⟩ : ∃ a, o = some a := by
        cases o with
        | none => cases hlv
        | some a => exact ⟨a, rfl⟩
      have h8 := h.2.2.2.2.2.2.2
      rw [hdr, List.filter_cons_of_pos hlv] at h8
      obtain ⟨z, rest, hz, e1, -⟩ := List.map_eq_cons_iff.mp h8.symm
      obtain ⟨ZO1, ZO2, hZ, hd, hal, -⟩ := List.filter_eq_cons_iff.mp hz
      have hza : z = (a, z.2) := by
        have : z.1 = a := Option.some.inj e1
        rw [← this]
      rw [hza] at hZ
      subst hZ
      have hd2 : ∀ y ∈ ZO1, y.2.2.1 = false := fun y hy => by simpa using hd y hy
      have hhok := h.hok hI
      have hat := h.at
      have hout := (h.2.2.1 (a, z.2) (by simp)).1
      have hno := loop_noop ZO1.length D.length S (fun j h1 h2 => by
        have hj : j - D.length < ZO1.length := by omega
        refine ⟨(ZO1[j - D.length]).2, ?_, fun q => ?_, (out_lt (h.2.2.1 _ (by simp [List.getElem_mem hj])).1).1⟩
        · rw [h.1, List.getElem?_append_right h1, List.map_append, List.map_append, List.append_assoc, List.getElem?_append_left (by rw [List.length_map]; exact hj), List.getElem?_map, List.getElem?_eq_getElem hj]
          rfl
        · rw [hd2 _ (List.getElem_mem hj)] at q
          cases q.2)
      obtain ⟨ZO2', ZR', g1, g2, g3, g4, g5⟩ := E_step hst hcap hc hcr h hI hd2 hal ho
      have hsS : stepS S (D.length + ZO1.length) = handleS S (D.length + ZO1.length) := by
        unfold stepS
        rw [hat]
        exact if_pos ⟨hout, hal⟩
      have hdl : (D ++ ZO1.map Prod.snd ++ [kill1 z.2]).length = D.length + ZO1.length + 1 := by rw [List.length_append, List.length_append, List.length_map]; rfl
      obtain ⟨D', ZR'', q1, q2, q3, q4, q5, q6⟩ := ih (i + 1) (settleC ad cap it σ i) (handleS S (D.length + ZO1.length)) _ ZO2' ZR' (by rw [sc2]; omega) sc1 g3 g1 g2
      rw [hdl, g4] at q1 q2 q4
      rw [hdl, g4] at q5
      have hl1 : loopS (ZO1 ++ (a, z.2) :: ZO2).length D.length S = loopS ZO2.length (D.length + ZO1.length + 1) (handleS S (D.length + ZO1.length)) := by
        rw [List.length_append, List.length_cons, loopS_add, hno.1]
        show loopS ZO2.length (D.length + ZO1.length + 1) (stepS S (D.length + ZO1.length)) = _
        rw [hsS]
      refine ⟨D', ZR'', ?_, ?_, q3, ?_, ?_, Nat.le_trans g5 q6⟩
      · rw [hl1, show i + (n + 1) = i + 1 + n from by omega]
        exact q1
      · rw [hl1]
        exact q2
      · rw [List.length_append, List.length_cons]
        refine OkL_add _ _ _ _ hno.2 ?_
        rw [hno.1]
        exact ⟨⟨z.2, hat, (out_lt hout).1, fun _ => hhok⟩, by rw [hsS]; exact q4⟩
      · rw [q5, List.length_append, List.length_cons]
        omega
    · have hsc : settleC ad cap it σ i = σ := by
        unfold settleC
        rw [ho]
        cases o with
        | none => rfl
        | some a => exact if_neg hlv
      have h2 : RelE ad kd it σ S D ZO ZR (i + 1) := by
        obtain ⟨h1, h2, h3, h4, h5, h6, h7, h8⟩ := h
        refine ⟨h1, h2, h3, h4, h5, h6, h7, ?_⟩
        rw [hdr, List.filter_cons_of_neg hlv] at h8
        exact h8
      obtain ⟨D', ZR', q1, q2, q3, q4, q5, q6⟩ := ih (i + 1) σ S D ZO ZR (by omega) hc hcr h2 hI
      have hst2 : stlC ad cap it (n + 1) i σ = stlC ad cap it n (i + 1) σ := by
        show stlC ad cap it n (i + 1) (settleC ad cap it σ i) = _
        rw [hsc]
      rw [hst2, show i + (n + 1) = i + 1 + n from by omega]
      exact ⟨D', ZR', q1, q2, q3, q4, q5, q6⟩
end ELOOP
