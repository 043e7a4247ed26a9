def killI (gs : List Nat) (il : Nat → Bool) : Nat → Bool := fun b => if b ∈ gs then false else il b
theorem killsC_eq : ∀ (gs : List Nat) (σ : CS), gs.Nodup → (∀ a ∈ gs, xI σ a = true) → killsC (gs.map some) σ = zV (zI σ (killI gs (xI σ))) (xV σ - nI gs.length) := by
  intro gs
  induction gs with
  | nil =>
    intro σ _ _
    have : killI [] (xI σ) = xI σ := by funext b; simp [killI]
    rw [this]
    show σ = zV (zI σ (xI σ)) (xV σ - nI 0)
    rw [show (nI 0 : Int32) = 0 from rfl, Int32.sub_zero]
    rfl
  | cons a gs ih =>
    intro σ hn ha
    obtain ⟨h1, h2⟩ := List.nodup_cons.mp hn
    have hk : killC σ (some a) = (zV (zI σ (va_up (xI σ) a false)) (xV σ - 1), true) := by simp [killC, ha a List.mem_cons_self]
    show killsC (gs.map some) (killC σ (some a)).1 = _
    rw [hk]
    rw [ih (zV (zI σ (va_up (xI σ) a false)) (xV σ - 1)) h2 (fun b hb => by
      show va_up (xI σ) a false b = true
      rw [va_up_ne _ _ (show b ≠ a from fun z => h1 (by rw [← z]; exact hb))]
      exact ha b (List.mem_cons_of_mem _ hb))]
    have e1 : killI gs (va_up (xI σ) a false) = killI (a :: gs) (xI σ) := by
      funext b
      unfold killI va_up
      by_cases hb : b ∈ gs
      · rw [if_pos hb, if_pos (List.mem_cons_of_mem _ hb)]
      · rw [if_neg hb]
        by_cases hba : b = a
        · rw [if_pos hba, if_pos (by rw [hba]; exact List.mem_cons_self)]
        · rw [if_neg hba, if_neg (by simp [hba, hb])]
    have e2 : xV σ - 1 - nI gs.length = xV σ - nI (gs.length + 1) := by
      rw [← nI_1, Int32.add_comm (nI gs.length) 1, Int32.sub_eq_add_neg, Int32.sub_eq_add_neg, Int32.sub_eq_add_neg, Int32.neg_add, Int32.sub_eq_add_neg, Int32.add_assoc]
    show zV (zI σ (killI gs (va_up (xI σ) a false))) (xV σ - 1 - nI gs.length) = _
    rw [e1, e2, List.length_cons]
theorem cnt_killS (l : List En) (s : Nat) : ((l.map (fun e => if inSet s e then kill1 e else e)).filter (fun e => e.2.1)).length + (l.filter (inSet s)).length = (l.filter (fun e => e.2.1)).length := by
  induction l with
  | nil => rfl
  | cons e l ih =>
    rw [List.map_cons]
    by_cases hs : inSet s e = true
    · have ha : e.2.1 = true := by unfold inSet at hs; simp at hs; exact hs.1
      rw [if_pos hs, List.filter_cons_of_neg (by simp [kill1]), List.filter_cons_of_pos hs, List.filter_cons_of_pos (p := fun e : En => e.2.1) ha, List.length_cons, List.length_cons]
      omega
    · rw [if_neg hs, List.filter_cons_of_neg (p := inSet s) hs]
      by_cases ha : e.2.1 = true
      · rw [List.filter_cons_of_pos (p := fun e : En => e.2.1) ha, List.filter_cons_of_pos (p := fun e : En => e.2.1) ha, List.length_cons, List.length_cons]
        omega
      · rw [List.filter_cons_of_neg (p := fun e : En => e.2.1) ha, List.filter_cons_of_neg (p := fun e : En => e.2.1) ha]
        exact ih
theorem inSet_al {s : Nat} {e : En} (h : inSet s e = true) : e.2.1 = true ∧ setN e.1.1 = s := by
  unfold inSet at h
  simpa using h
theorem filter_map_some {α : Type} (q : Option Nat → Bool) (l : List Nat) : (l.map some).filter q = (l.filter (fun a => q (some a))).map some := by
  rw [List.filter_map]
  rfl
/-- the page after a move, and the rest beside the log -/
theorem RB.move {ad ar ow cap kd : Nat → Nat} {it : Nat → Da} {σ : CS} {S : SS} (hst : CSt ad ar ow cap kd) (hcap : cap (ad 8) = 272 ∧ ∀ q, q < 64 → cap (ad (11 + q)) = 8) (h : RB ad kd it σ S) (hp : PI (sP S)) {s : Nat} (hs : s < 64) {gs : List Nat} (hgs : xR σ (ad 9) = gs.map some) (hgn : gs.Nodup) (hgI : ∀ a ∈ gs, xI σ a = true ∧ kd a = 1) (hgl : gs.length ≤ 264)
    (hgd : gs.map (fun a => (it a, xM σ a)) = ((sL S).filter (inSet s)).map (fun e => (e.1, e.2.2.1))) (hgo : ∀ a ∈ gs, okD (it a)) (hkd : keyD ((sL S).filter (inSet s))) :
    ∃ bs' : List Nat, RB ad kd it (moveC ad cap it (killsC (gs.map some) σ) s (ad 9)) (moveS S s) ∧ PI (sP (moveS S s)) ∧ xI (moveC ad cap it (killsC (gs.map some) σ) s (ad 9)) = killI gs (xI σ) ∧ xM (moveC ad cap it (killsC (gs.map some) σ) s (ad 9)) = (fun b => if b ∈ bs' then false else xM σ b) ∧ (∀ b ∈ bs', b ∈ gs ∨ xI σ b = false) := by
  obtain ⟨bs, hb⟩ := h.1 s hs
  have hb' : PgB kd it σ (xR σ (ad (11 + s))) (sP S s) bs := hb
  obtain ⟨q1, q2, q3⟩ := hp s hs
  have hkeq := killsC_eq gs σ hgn (fun a ha => (hgI a ha).1)
  rw [hkeq]
  generalize hτ : zV (zI σ (killI gs (xI σ))) (xV σ - nI gs.length) = τ
  have t1 : xR τ = xR σ := by rw [← hτ]; rfl
  have t2 : xM τ = xM σ := by rw [← hτ]; rfl
  have t3 : xI τ = killI gs (xI σ) := by rw [← hτ]; rfl
  have t4 : xV τ = xV σ - nI gs.length := by rw [← hτ]; rfl
  have t5 : xS τ = xS σ ∧ xF τ = xF σ ∧ xT τ = xT σ ∧ xH τ = xH σ ∧ xW τ = xW σ ∧ xC τ = xC σ ∧ xQ τ = xQ σ := by rw [← hτ]; exact ⟨rfl, rfl, rfl, rfl, rfl, rfl, rfl⟩
  -- what stood and stays
  have hkeys : ∀ b ∈ bs, (notIn it (gs.map some) (some b) = true ↔ (lastIx (sL S) (it b).1 (sL S).length).isNone = true) := by
    intro b hbm
    have hbp : (it b, xM σ b) ∈ sP S s := by rw [← hb'.2.1]; exact List.mem_map_of_mem (f := fun b => (it b, xM σ b)) hbm
    have hbs : setN (it b).1 = s := (q1 _ hbp).2
    have hnot : notIn it (gs.map some) (some b) = true ↔ ∀ a ∈ gs, (it a).1 ≠ (it b).1 := by
      unfold notIn
      rw [Option.isNone_iff_eq_none, List.findIdx?_eq_none_iff]
      constructor
      · intro hall a ha he
        have := hall (some a) (List.mem_map_of_mem ha)
        simp [keyIs, he] at this
      · intro hall x hx
        obtain ⟨a, ha, rfl⟩ := List.mem_map.mp hx
        simpa [keyIs] using hall a ha
    rw [hnot]
    constructor
    · intro hall
      cases hl : lastIx (sL S) (it b).1 (sL S).length with
      | none => rfl
      | some k =>
        obtain ⟨e, g1, g2, g3⟩ := lastIx_at hl
        have hem : e ∈ (sL S).filter (inSet s) := List.mem_filter.mpr ⟨List.mem_of_getElem? g1, by unfold inSet; simp [g2, g3, hbs]⟩
        have h5 : (e.1, e.2.2.1) ∈ gs.map (fun a => (it a, xM σ a)) := by rw [hgd]; exact List.mem_map_of_mem (f := fun e : En => (e.1, e.2.2.1)) hem
        obtain ⟨a, ha, e5⟩ := List.mem_map.mp h5
        have e6 : it a = e.1 := congrArg (fun y : Da × Bool => y.1) e5
        exact absurd (by rw [e6, g3]) (hall a ha)
    · intro hn a ha he
      have h5 : (it a, xM σ a) ∈ ((sL S).filter (inSet s)).map (fun e => (e.1, e.2.2.1)) := by rw [← hgd]; exact List.mem_map_of_mem (f := fun a => (it a, xM σ a)) ha
      obtain ⟨e, hem, e5⟩ := List.mem_map.mp h5
      obtain ⟨g1, g2⟩ := List.mem_filter.mp hem
      have e6 : e.1 = it a := congrArg (fun y : Da × Bool => y.1) e5
      obtain ⟨k, hk⟩ := List.getElem?_of_mem g1
      have := lastIx_none (Option.isNone_iff_eq_none.mp hn) k (List.getElem?_eq_some_iff.mp hk).1 e hk
      exact this ⟨(inSet_al g2).1, by rw [e6]; exact he⟩
  have hfil : (xR σ (ad (11 + s))).filter (notIn it (gs.map some)) = (bs.filter (fun b => notIn it (gs.map some) (some b))).map some := by
    rw [hb'.1, filter_map_some (α := Nat)]
  have hstood : ((sP S s).filter (fun e => (lastIx (sL S) e.1.1 (sL S).length).isNone)).map (fun e => (e.1, e.2, true)) = (bs.filter (fun b => notIn it (gs.map some) (some b))).map (gS it (xM σ)) := by
    rw [← hb'.2.1, List.filter_map, List.map_map]
    rw [List.filter_congr (l := bs) (q := fun b => notIn it (gs.map some) (some b)) (fun b hbm => by
      have := hkeys b hbm
      show (lastIx (sL S) (it b).1 (sL S).length).isNone = _
      cases h1 : notIn it (gs.map some) (some b) with
      | true => exact (this.mp h1)
      | false =>
        cases h2 : (lastIx (sL S) (it b).1 (sL S).length).isNone with
        | true => rw [this.mpr h2] at h1; cases h1
        | false => rfl)]
    rfl
  have hgrp : ((sL S).filter (inSet s)).map (fun e => (e.1, e.2.2.1, false)) = gs.map (gG it (xM σ)) := by
    have h5 := congrArg (List.map (fun y : Da × Bool => ((y.1, y.2, false) : Ne))) hgd
    rw [List.map_map, List.map_map] at h5
    exact h5.symm
  have hnews : newsS S s = (bs.filter (fun b => notIn it (gs.map some) (some b))).map (gS it (xM σ)) ++ gs.map (gG it (xM σ)) := by
    unfold newsS
    rw [hstood, hgrp]
  have hbok : ∀ b ∈ bs, okD (it b) ∧ setN (it b).1 = s := fun b hbm => q1 _ (by rw [← hb'.2.1]; exact List.mem_map_of_mem (f := fun b => (it b, xM σ b)) hbm)
  have hbl : bs.length ≤ 8 := by
    have h5 := sum_len (it := it) (l := bs) (fun b hbm => (hbok b hbm).1)
    have h6 : (bs.map (fun a => plc (it a))).sum ≤ 32 := by
      rw [← hb'.2.1, List.map_map] at q2
      exact q2
    omega
  have hfl := List.length_filter_le (fun b => notIn it (gs.map some) (some b)) bs
  obtain ⟨bs', m1, m2, m3, m4, m5⟩ := mv_ok it (xM σ) (cp := 272) hfil rfl (by omega) (fun a ha => by
    rcases List.mem_append.mp ha with ha | ha
    · exact (hbok a (List.mem_filter.mp ha).1).1
    · exact hgo a ha)
  have hset : ∀ b ∈ bs', setN (it b).1 = s := fun b hbm => by
    rcases List.mem_append.mp (m2.subset hbm) with h5 | h5
    · exact (hbok b (List.mem_filter.mp h5).1).2
    · have h6 : (it b, xM σ b) ∈ ((sL S).filter (inSet s)).map (fun e => (e.1, e.2.2.1)) := by rw [← hgd]; exact List.mem_map_of_mem (f := fun a => (it a, xM σ a)) h5
      obtain ⟨e, hem, e5⟩ := List.mem_map.mp h6
      have e6 : e.1 = it b := congrArg (fun y : Da × Bool => y.1) e5
      rw [← e6]
      exact (inSet_al (List.mem_filter.mp hem).2).2
  have hbI : ∀ b ∈ bs', (b ∈ gs ∨ xI σ b = false) ∧ kd b = 1 := fun b hbm => by
    rcases List.mem_append.mp (m2.subset hbm) with h5 | h5
    · have h6 := hb'.2.2 b (List.mem_filter.mp h5).1
      exact ⟨Or.inr h6.2, h6.1⟩
    · exact ⟨Or.inl h5, (hgI b h5).2⟩
  -- the keys of the new page differ
  have hkeyb : (bs'.map it).Pairwise (fun x y => x.1 ≠ y.1) := by
    rw [List.pairwise_map]
    refine List.Pairwise.sublist m2 ?_
    rw [List.pairwise_append]
    refine ⟨?_, ?_, fun x hx y hy he => ?_⟩
    · refine List.Pairwise.sublist List.filter_sublist ?_
      rw [← hb'.2.1, List.pairwise_map] at q3
      exact q3
    · have h5 : (((sL S).filter (inSet s)).map (fun e => (e.1, e.2.2.1))).Pairwise (fun x y => x.1.1 ≠ y.1.1) := by
        rw [List.pairwise_map]
        exact hkd.imp_of_mem fun ha hb hab => hab (inSet_al (List.mem_filter.mp ha).2).1 (inSet_al (List.mem_filter.mp hb).2).1
      rw [← hgd, List.pairwise_map] at h5
      exact h5
    · have h6 := (List.mem_filter.mp hx).2
      unfold notIn at h6
      rw [Option.isNone_iff_eq_none, List.findIdx?_eq_none_iff] at h6
      have := h6 (some y) (List.mem_map_of_mem hy)
      simp [keyIs, he] at this
  have hMx : xM (moveC ad cap it τ s (ad 9)) = (fun b => if b ∈ bs' then false else xM σ b) := by
    show clrM (xM τ) (mvD3 (cap (ad 8)) it (xM τ) (xR τ (ad (11 + s))) (xR τ (ad 9))).1 = _
    rw [t1, t2, hgs, hcap.1]
    funext b
    unfold clrM
    by_cases hbm : b ∈ bs'
    · rw [if_pos hbm, if_pos ((m3 b).mpr hbm)]
    · rw [if_neg hbm, if_neg (fun z => hbm ((m3 b).mp z))]
  have hIx : xI (moveC ad cap it τ s (ad 9)) = killI gs (xI σ) := t3
  have hPg : mvPg (cap (ad 8)) (cap (ad (11 + s))) it (xM τ) (xR τ (ad (11 + s))) (xR τ (ad 9)) = bs'.map some := by
    rw [t1, t2, hgs, hcap.1, hcap.2 s hs]
    exact m1
  have hrow : xR (moveC ad cap it τ s (ad 9)) (ad (11 + s)) = bs'.map some := by
    show xR (zRr (zRr τ (ad 8) _) (ad (11 + s)) (mvPg (cap (ad 8)) (cap (ad (11 + s))) it (xM τ) (xR τ (ad (11 + s))) (xR τ (ad 9)))) (ad (11 + s)) = _
    rw [zRr_same, hPg]
  have hpe : sP (moveS S s) = va_up (sP S) s (bs'.map (fun b => (it b, false))) := by
    show va_up (sP S) s ((dropAll (newsS S s).length (newsS S s) (addN (inc (sC S) 11) 5 ((sL S).filter (inSet s)).length)).1.map (fun e => (e.1, false))) = _
    rw [hnews]
    have h5 := (m4 (addN (inc (sC S) 11) 5 ((sL S).filter (inSet s)).length)).1
    have h6 := congrArg (List.map (fun d : Da => ((d, false) : Pe))) h5
    rw [List.map_map, List.map_map] at h6
    exact congrArg _ h6
  have hglen : gs.length = ((sL S).filter (inSet s)).length := by
    have h5 := congrArg List.length hgd
    rw [List.length_map, List.length_map] at h5
    exact h5
  refine ⟨bs', ?_, ?_, hIx, hMx, fun b hbm => (hbI b hbm).1⟩
  · refine RB.page hst h hs (row := bs'.map some) (pe := bs'.map (fun b => (it b, false))) (bs := bs') (fun q hq hqs => ?_) hrow ⟨rfl, ?_, fun b hbm => ⟨(hbI b hbm).2, ?_⟩⟩ (fun q hq hqs b hbm hbf => ⟨?_, ?_⟩) hpe ?_ ?_ ?_ ?_
    · rw [moveC_ne (pgne hst hq (by decide) (by decide)) (pg_ne hst hq hs hqs), t1]
    · refine List.map_congr_left fun b hbm => ?_
      rw [hMx]
      show (it b, if b ∈ bs' then false else xM σ b) = _
      rw [if_pos hbm]
    · rw [hIx]
      unfold killI
      rcases (hbI b hbm).1 with h5 | h5
      · rw [if_pos h5]
      · split
        · rfl
        · exact h5
    · rw [hMx]
      show (if b ∈ bs' then false else xM σ b) = xM σ b
      rw [if_neg (fun z => ?_)]
      obtain ⟨cs, c1, c2, c3⟩ := h.1 q hq
      rw [c1] at hbm
      obtain ⟨b2, hb2, e2⟩ := List.mem_map.mp hbm
      cases e2
      have h6 : (it b, xM σ b) ∈ sP S q := by rw [← c2]; exact List.mem_map_of_mem (f := fun b => (it b, xM σ b)) hb2
      exact hqs (((hp q hq).1 _ h6).2.symm.trans (hset b z))
    · rw [hIx]
      unfold killI
      split
      · rfl
      · exact hbf
    · show va_up (xF τ) s (flR it (mvPg (cap (ad 8)) (cap (ad (11 + s))) it (xM τ) (xR τ (ad (11 + s))) (xR τ (ad 9)))) = _
      rw [hPg, t5.2.1]
    · show xV τ = nI (((sL S).map (fun e => if inSet s e then kill1 e else e)).filter (fun e => e.2.1)).length
      rw [t4, h.2.2.1, hglen]
      have h5 := cnt_killS (sL S) s
      show nI ((sL S).filter (fun e => e.2.1)).length - _ = _
      rw [← h5, show nI ((((sL S).map (fun e => if inSet s e then kill1 e else e)).filter (fun e => e.2.1)).length + ((sL S).filter (inSet s)).length) = nI (((sL S).map (fun e => if inSet s e then kill1 e else e)).filter (fun e => e.2.1)).length + nI ((sL S).filter (inSet s)).length from Int32.ofNat_add _ _, Int32.add_sub_cancel]
    · show xS τ - nI (xR τ (ad (11 + s))).length + nI (mvPg (cap (ad 8)) (cap (ad (11 + s))) it (xM τ) (xR τ (ad (11 + s))) (xR τ (ad 9))).length + nI (sP S s).length = xS σ + nI (bs'.map (fun b => (it b, false))).length
      rw [hPg, t1, t5.1, hb'.len, List.length_map, List.length_map, Int32.add_assoc, Int32.add_comm (nI bs'.length), ← Int32.add_assoc, Int32.sub_add_cancel]
    · obtain ⟨-, -, -, -, h5, h6, h7, h8, h9⟩ := h
      refine ⟨?_, by show xH τ = _; rw [t5.2.2.2.1]; exact h6, fun j hj => by show xW τ j = _; rw [t5.2.2.2.2.1]; exact h7 j hj, by show xC τ = _; rw [t5.2.2.2.2.2.1]; exact h8, by show xQ τ = _; rw [t5.2.2.2.2.2.2]; exact h9⟩
      show mvT (cap (ad 8)) it (xM τ) (xR τ (ad (11 + s))) (xR τ (ad 9)) (xT τ) = inc (dropAll (newsS S s).length (newsS S s) (addN (inc (sC S) 11) 5 ((sL S).filter (inSet s)).length)).2 2
      rw [hnews, (m4 _).2, t1, t2, t5.2.2.1, h5, hgs, hcap.1]
      unfold mvT
      rw [List.length_map, hglen]
      rfl
  · rw [hpe]
    refine hp.up fun _ => ⟨fun e he => ?_, ?_, ?_⟩
    · obtain ⟨b, hbm, rfl⟩ := List.mem_map.mp he
      refine ⟨?_, hset b hbm⟩
      rcases List.mem_append.mp (m2.subset hbm) with h5 | h5
      · exact (hbok b (List.mem_filter.mp h5).1).1
      · exact hgo b h5
    · rw [List.map_map]
      exact m5
    · rw [List.pairwise_map]
      rw [List.pairwise_map] at hkeyb
      exact hkeyb
