section OPS
variable {ad ar ow cap kd : Nat → Nat} {it : Nat → Da} {σ : CS} {S : SS}
theorem Rel.x (h : Rel ad kd it σ S) : xC σ = sX S := by
  obtain ⟨Z, h1, h2, h3, h4, h5, h6⟩ := h
  exact h5.2.2.2.2.2.2.2.1
theorem Rel.got (h : Rel ad kd it σ S) (i : Int32) : gotI σ i = gotS S i := by
  obtain ⟨Z, h1, h2, h3, h4, h5, h6⟩ := h
  unfold gotI gotS
  rw [h5.2.2.2.2.2.2.2.2]
theorem find_at {L : List (Option Nat)} {q : Option Nat → Bool} {i : Nat} (h : L.findIdx? q = some i) : (L.find? q).getD none = (L[i]?).getD none := by
  obtain ⟨h1, h2, h3⟩ := List.findIdx?_eq_some_iff_getElem.mp h
  have h4 : L.find? q = some L[i] := by
    rw [List.find?_eq_some_iff_getElem]
    exact ⟨h2, i, h1, rfl, fun j hj => by simpa using h3 j hj⟩
  rw [h4, List.getElem?_eq_getElem h1]
/-- what a page finds -/
theorem Rel.pg (h : Rel ad kd it σ S) (key : Int64) : (findP ad it σ key = none ∧ ixS (sP S (setN key)) key = none) ∨ ∃ b i bs, findP ad it σ key = some b ∧ ixS (sP S (setN key)) key = some i ∧ PgB kd it σ (xR σ (ad (11 + setN key))) (sP S (setN key)) bs ∧ bs[i]? = some b ∧ (sP S (setN key))[i]? = some (it b, xM σ b) := by
  obtain ⟨Z, h1, h2, h3, h4, h5, h6⟩ := h
  obtain ⟨bs, hb⟩ := h5.1 _ (setN_lt key)
  have hb' : PgB kd it σ (xR σ (ad (11 + setN key))) (sP S (setN key)) bs := hb
  have hix := hb'.ix key
  unfold findP
  cases hi : ixS (sP S (setN key)) key with
  | none =>
    left
    rw [hi] at hix
    rw [find_idx.mp hix]
    exact ⟨rfl, rfl⟩
  | some i =>
    right
    rw [hi] at hix
    rw [find_at hix]
    have hil : i < (sP S (setN key)).length := by
      unfold ixS at hi
      exact findIdx?_ltl hi
    have hl2 : i < bs.length := by
      have := congrArg List.length hb'.2.1
      rw [List.length_map] at this
      omega
    refine ⟨bs[i], i, bs, ?_, rfl, hb', List.getElem?_eq_getElem hl2, ?_⟩
    · rw [hb'.1, List.getElem?_map, List.getElem?_eq_getElem hl2]
      rfl
    · rw [← hb'.2.1, List.getElem?_map, List.getElem?_eq_getElem hl2]
      rfl
theorem Rel.where (h : Rel ad kd it σ S) (hi : Inv S) (key : Int64) : whereC ad it σ key = whereS S key := by
  have hx := h.x
  have hp := h.pg key
  obtain ⟨Z, h1, h2, h3, h4, h5, h6⟩ := h
  unfold whereC whereS
  rw [hx]
  rcases find_rel h1 h3 h4 hi key with ⟨f1, f2⟩ | ⟨a, k, e, f1, f2, f3, f4, f5⟩
  · rw [f1, f2]
    rcases hp with ⟨p1, p2⟩ | ⟨b, i, bs, p1, p2, -⟩
    · rw [p1, p2]
      try rfl
    · rw [p1, p2]
      try rfl
  · rw [f1, f2]
    rfl
theorem Rel.mark (h : Rel ad kd it σ S) (hi : Inv S) (key : Int64) : markC ad it σ key = markS S key := by
  have hx := h.x
  have hp := h.pg key
  obtain ⟨Z, h1, h2, h3, h4, h5, h6⟩ := h
  unfold markC markS
  rw [hx]
  rcases find_rel h1 h3 h4 hi key with ⟨f1, f2⟩ | ⟨a, k, e, f1, f2, f3, f4, f5⟩
  · rw [f1, f2]
    rcases hp with ⟨p1, p2⟩ | ⟨b, i, bs, p1, p2, p3, p4, p5⟩
    · rw [p1, p2]
      rfl
    · rw [p1, p2]
      dsimp only
      rw [p5]
      try rfl
  · have he : (sL S)[k]? = some e := by rw [← h1, List.getElem?_map, f3]; rfl
    rw [f1, f2]
    show (if sX S = true then (-2 : Int32) else bI (xM σ a)) = if sX S = true then -2 else bI ((((sL S)[k]?).map (fun e => e.2.2.1)).getD false)
    rw [he, (h3 _ (List.mem_of_getElem? f3)).2.2.2 f4]
    rfl
theorem Rel.stands (h : Rel ad kd it σ S) (x : Int32) : standsC ad σ x = standsS S x := by
  have hx := h.x
  obtain ⟨Z, h1, h2, h3, h4, h5, h6⟩ := h
  unfold standsC standsS
  rw [hx]
  split
  · rfl
  · split
    · next hs =>
      obtain ⟨bs, hb⟩ := h5.1 _ (isSet_ok hs).2
      rw [PgB.len (show PgB kd it σ _ _ bs from hb)]
    · rfl
theorem Rel.key (h : Rel ad kd it σ S) (x i : Int32) : keyC ad it σ x i = keyS S x i := by
  have hx := h.x
  obtain ⟨Z, h1, h2, h3, h4, h5, h6⟩ := h
  unfold keyC keyS
  rw [hx]
  split
  · rfl
  · split
    · next hs =>
      obtain ⟨bs, b1, b2, b3⟩ := h5.1 _ (isSet_ok hs).2
      unfold atR
      split
      · rfl
      · rw [b1, ← b2, List.getElem?_map, List.getElem?_map]
        cases bs[i.toNatClampNeg]? with
        | none => rfl
        | some b => rfl
    · rfl
theorem Rel.filter (h : Rel ad kd it σ S) (x : Int32) : filterC σ x = filterS S x := by
  have hx := h.x
  obtain ⟨Z, h1, h2, h3, h4, h5, h6⟩ := h
  unfold filterC filterS
  rw [hx]
  split
  · rfl
  · split
    · next hs => exact h5.2.1 _ (isSet_ok hs).2
    · rfl
/-- how many of a page are alive -/
def cAl (l : List En) (j : Nat) : Nat := (l.filter (fun e => e.2.1 && e.2.2.2 == j)).length
theorem row_al {Z : List ZE} (hz : ZOk kd it σ Z) (j : Nat) : ((rowOf Z j).filter (inL (xI σ))).length = cAl (Z.map Prod.snd) j := by
  unfold rowOf cAl
  rw [List.filter_map, List.filter_filter, List.length_map, List.filter_map, List.length_map]
  congr 1
  refine List.filter_congr fun z hzm => ?_
  show (xI σ z.1 && z.2.2.2.2 == j) = (z.2.2.1 && z.2.2.2.2 == j)
  rw [(hz z hzm).2.2.1]
theorem cAl_seg (l : List En) (s : Nat) : (l.filter (fun e => e.2.1 && e.2.2.2 / 4 == s)).length = cAl l (4 * s) + cAl l (4 * s + 1) + cAl l (4 * s + 2) + cAl l (4 * s + 3) := by
  unfold cAl
  induction l with
  | nil => rfl
  | cons e l ih =>
    cases ha : e.2.1 with
    | false =>
      rw [List.filter_cons_of_neg (by simp [ha]), List.filter_cons_of_neg (by simp [ha]), List.filter_cons_of_neg (by simp [ha]), List.filter_cons_of_neg (by simp [ha]), List.filter_cons_of_neg (by simp [ha])]
      exact ih
    | true =>
      have hl : ∀ q : En → Bool, ((e :: l).filter q).length = (if q e = true then 1 else 0) + (l.filter q).length := fun q => by
        rw [List.filter_cons]
        split
        · rw [List.length_cons]; omega
        · omega
      rw [hl, hl, hl, hl, hl, ih]
      simp only [ha, Bool.true_and, beq_iff_eq]
      by_cases h0 : e.2.2.2 = 4 * s
      · rw [if_pos (by omega), if_pos h0, if_neg (by omega), if_neg (by omega), if_neg (by omega)]; omega
      · by_cases h1 : e.2.2.2 = 4 * s + 1
        · rw [if_pos (by omega), if_neg h0, if_pos h1, if_neg (by omega), if_neg (by omega)]; omega
        · by_cases h2 : e.2.2.2 = 4 * s + 2
          · rw [if_pos (by omega), if_neg h0, if_neg h1, if_pos h2, if_neg (by omega)]; omega
          · by_cases h3 : e.2.2.2 = 4 * s + 3
            · rw [if_pos (by omega), if_neg h0, if_neg h1, if_neg h2, if_pos h3]; omega
            · rw [if_neg (by omega), if_neg h0, if_neg h1, if_neg h2, if_neg h3]; omega
theorem cnG_al {Z : List ZE} (hz : ZOk kd it σ Z) (hr : RZ σ Z) {j : Nat} (hj : j < 32) : cntG σ j = cAl (Z.map Prod.snd) j := by
  unfold cntG
  rw [hr.1 j hj, row_al hz]
theorem Rel.alive (h : Rel ad kd it σ S) (hi : Inv S) (x : Int32) : aliveC σ x = aliveS S x := by
  have hx := h.x
  obtain ⟨Z, h1, h2, h3, h4, h5, h6⟩ := h
  unfold aliveC aliveS
  rw [hx]
  split
  · rfl
  · split
    · rfl
    · next hb =>
      by_cases h8 : x = 8
      · rw [if_pos h8, h4.2, row_al h3, h1]
        subst h8
        show nI (cAl (sL S) 32) = nI ((sL S).filter (fun e => e.2.1 && e.2.2.2 / 4 == 8)).length
        congr 1
        unfold cAl
        congr 1
        refine List.filter_congr fun e he => ?_
        have := (hi.1.1 e he).2.1
        have e1 : (e.2.2.2 == 32) = (e.2.2.2 / 4 == 8) := by
          by_cases q : e.2.2.2 = 32
          · rw [q]; rfl
          · have a1 : (e.2.2.2 == 32) = false := by simpa using q
            have a2 : (e.2.2.2 / 4 == 8) = false := by simp; omega
            rw [a1, a2]
        rw [e1]
      · rw [if_neg h8]
        have hx0 : ¬ x < 0 := fun z => hb (Or.inl z)
        have hx8 : ¬ (8 : Int32) < x := fun z => hb (Or.inr z)
        obtain ⟨j, hj, e3⟩ := nI_of hx0
        subst e3
        have hj8 : j < 8 := by
          have h9 : j ≤ 8 := (nI_leI (b := 8) hj (by decide)).mp (Int32.not_lt.mp hx8)
          rcases Nat.lt_or_ge j 8 with q | q
          · exact q
          · exact absurd (by rw [show j = 8 from by omega]; rfl) h8
        rw [nI_clamp hj]
        show nI (cnS σ (4 * j) 4) = nI ((sL S).filter (fun e => e.2.1 && e.2.2.2 / 4 == j)).length
        rw [cAl_seg]
        show nI (0 + cntG σ (4 * j + 0) + cntG σ (4 * j + 1) + cntG σ (4 * j + 2) + cntG σ (4 * j + 3)) = _
        rw [cnG_al h3 h4 (by omega), cnG_al h3 h4 (by omega), cnG_al h3 h4 (by omega), cnG_al h3 h4 (by omega), h1, Nat.zero_add, Nat.add_zero]
theorem Rel.count (h : Rel ad kd it σ S) (hi : Inv S) (x : Int32) : countC it σ x = countS S x := by
  obtain ⟨Z, h1, h2, h3, h4, h5, h6⟩ := h
  have hO : plR it (xR σ (xO σ)) = sO S := by
    rw [h4.2, plR_row h3, h1]
    exact hi.1.2.2.1
  obtain ⟨b1, b2, b3, b4, b5, b6, b7, b8, b9⟩ := h5
  unfold countC countS
  rw [b3, b4, b5, b6, b7 _ hi.2.2.2.1, b8, hO]
theorem Rel.zC (h : Rel ad kd it σ S) (b : Bool) : Rel ad kd it (zC σ b) (uX S b) := by
  obtain ⟨Z, h1, h2, h3, h4, h5, h6⟩ := h
  obtain ⟨b1, b2, b3, b4, b5, b6, b7, b8, b9⟩ := h5
  exact ⟨Z, h1, h2, h3, h4, ⟨b1, b2, b3, b4, b5, b6, b7, rfl, b9⟩, h6⟩
theorem Rel.close (h : Rel ad kd it σ S) (hi : Inv S) (hc : CWF ad kd σ) : (closeC σ).1 = (closeS S).1 ∧ Rel ad kd it (closeC σ).2 (closeS S).2 ∧ Inv (closeS S).2 ∧ CWF ad kd (closeC σ).2 := by
  have hx := h.x
  unfold closeC closeS
  rw [hx]
  split
  · exact ⟨rfl, h, hi, hc⟩
  · exact ⟨rfl, h.zC true, hi, hc⟩
theorem Rel.openR (h : Rel ad kd it σ S) (hi : Inv S) (hc : CWF ad kd σ) : (openC σ).1 = (openS S).1 ∧ Rel ad kd it (openC σ).2 (openS S).2 ∧ Inv (openS S).2 ∧ CWF ad kd (openC σ).2 := by
  have hx := h.x
  have hv : xV σ = livS S := by obtain ⟨Z, h1, h2, h3, h4, h5, h6⟩ := h; exact h5.2.2.1
  unfold openC openS
  rw [hx]
  split
  · exact ⟨hv, h.zC false, hi, hc⟩
  · exact ⟨rfl, h, hi, hc⟩
/-! get -/
theorem PI.upd {P : Nat → List Pe} (h : PI P) {s : Nat} {p : List Pe} (hp : p.map Prod.fst = (P s).map Prod.fst) : PI (va_up P s p) := h.up fun hs => by
  obtain ⟨h1, h2, h3⟩ := h s hs
  refine ⟨fun e he => ?_, ?_, ?_⟩
  · have : e.1 ∈ (P s).map Prod.fst := by rw [← hp]; exact List.mem_map_of_mem he
    obtain ⟨x, hx, e2⟩ := List.mem_map.mp this
    rw [← e2]
    exact h1 x hx
  · have e1 : ∀ l : List Pe, (l.map (fun e => plc e.1)).sum = ((l.map Prod.fst).map plc).sum := fun l => by rw [List.map_map]; rfl
    rw [e1, hp, ← e1]
    exact h2
  · have e1 : ((P s).map Prod.fst).Pairwise (fun x y => x.1 ≠ y.1) := by rw [List.pairwise_map]; exact h3
    rw [← hp, List.pairwise_map] at e1
    exact e1
theorem Rel.get (hst : CSt ad ar ow cap kd) (h : Rel ad kd it σ S) (hi : Inv S) (hc : CWF ad kd σ) (key : Int64) : (getC ad it σ key).1 = (getS S key).1 ∧ Rel ad kd it (getC ad it σ key).2 (getS S key).2 ∧ Inv (getS S key).2 ∧ CWF ad kd (getC ad it σ key).2 := by
  have hx := h.x
  have hp := h.pg key
  have h0 := h
  obtain ⟨Z, h1, h2, h3, h4, h5, h6⟩ := h
  unfold getC getS
  rw [hx]
  by_cases hsx : sX S = true
  · rw [if_pos hsx, if_pos hsx]
    exact ⟨rfl, h0, hi, hc⟩
  rw [if_neg hsx, if_neg hsx]
  rcases find_rel h1 h3 h4 hi key with ⟨f1, f2⟩ | ⟨a, k, e, f1, f2, f3, f4, f5⟩
  · rw [f1, f2]
    dsimp only
    unfold pageGet readC
    rw [h5.may key]
    by_cases hm : mayS (sP S (setN key)) key = true
    · rw [if_pos hm, if_pos hm]
      have r0 : Rel ad kd it (zT σ (inc (xT σ) 11)) (uC S (inc (sC S) 11)) := by
        obtain ⟨b1, b2, b3, b4, b5, b6⟩ := h5
        exact ⟨Z, h1, h2, h3, h4, ⟨b1, b2, b3, b4, by show inc (xT σ) 11 = inc (sC S) 11; rw [b5], b6⟩, h6⟩
      rcases hp with ⟨p1, p2⟩ | ⟨b, i, bs, p1, p2, p3, p4, p5⟩
      · rw [p1, p2]
        exact ⟨rfl, r0, hi, hc⟩
      · rw [p1, p2]
        dsimp only
        rw [p5]
        dsimp only
        refine ⟨rfl, ?_, ?_, hc⟩
        · have hbm : b ∈ bs := List.mem_of_getElem? p4
          have hbI := (p3.2.2 b hbm).2
          have hs := setN_lt key
          have hpk : ∀ c ∈ bs, setN (it c).1 = setN key := fun c hcm => ((hi.2.2.1 _ hs).1 (it c, xM σ c) (by rw [← p3.2.1]; exact List.mem_map_of_mem (f := fun b => (it b, xM σ b)) hcm)).2
          have hkeys : bs.Pairwise (fun x y => (it x).1 ≠ (it y).1) := by
            have := (hi.2.2.1 _ hs).2.2
            rw [← p3.2.1, List.pairwise_map] at this
            exact this
          have hmod : (sP S (setN key)).modify i markP = (sP S (setN key)).set i (it b, true) := modify_set markP p5
          refine ⟨Z, h1, h2, fun z hz => ?_, h4, ?_, h6⟩
          · obtain ⟨k1, k2, k3, k4⟩ := h3 z hz
            refine ⟨k1, k2, k3, fun hal => ?_⟩
            show va_up (xM σ) b true z.1 = _
            rw [va_up_ne _ _ (fun q => by rw [q, hbI] at k3; rw [← k3] at hal; cases hal)]
            exact k4 hal
          · refine RB.page (σ := σ) (S := S) (σ' := gotC it (zT σ (inc (xT σ) 11)) b) hst h5 hs (row := xR σ (ad (11 + setN key))) (pe := (sP S (setN key)).modify i markP) (bs := bs) (fun q hq hqs => rfl) rfl ⟨p3.1, ?_, p3.2.2⟩ (fun q hq hqs c hcm hcf => ⟨?_, hcf⟩) rfl ?_ h5.2.2.1 ?_ ?_
            · rw [hmod, ← p3.2.1]
              apply List.ext_getElem?
              intro j
              rw [List.getElem?_map, List.getElem?_set, List.getElem?_map]
              by_cases hij : i = j
              · subst hij
                rw [if_pos rfl, p4]
                have hlt : i < (bs.map (fun b => (it b, xM σ b))).length := by rw [List.length_map]; exact (List.getElem?_eq_some_iff.mp p4).1
                rw [if_pos hlt]
                show some (it b, va_up (xM σ) b true b) = _
                rw [va_up_self]
              · rw [if_neg hij]
                cases hj : bs[j]? with
                | none => rfl
                | some c =>
                  have hcb : c ≠ b := fun z => by
                    obtain ⟨li, ei⟩ := List.getElem?_eq_some_iff.mp p4
                    obtain ⟨lj, ej⟩ := List.getElem?_eq_some_iff.mp hj
                    have hpw := List.pairwise_iff_getElem.mp hkeys
                    rcases Nat.lt_or_gt_of_ne hij with q | q
                    · exact hpw i j li lj q (by rw [ei, ej, z])
                    · exact hpw j i lj li q (by rw [ei, ej, z])
                  show some (it c, va_up (xM σ) b true c) = some (it c, xM σ c)
                  rw [va_up_ne _ _ hcb]
            · obtain ⟨cs, c1, c2, c3⟩ := h5.1 q hq
              rw [c1] at hcm
              obtain ⟨c', hc', e2⟩ := List.mem_map.mp hcm
              cases e2
              have hcs := ((hi.2.2.1 _ hq).1 (it c, xM σ c) (by rw [← c2]; exact List.mem_map_of_mem (f := fun b => (it b, xM σ b)) hc')).2
              show va_up (xM σ) b true c = _
              rw [va_up_ne _ _ (fun z => hqs (by rw [← hcs, ← hpk b hbm, z]))]
            · show xF σ = va_up (xF σ) (setN key) (flR it (xR σ (ad (11 + setN key))))
              rw [p3.fl, ← h5.2.1 _ hs]
              funext q
              unfold va_up
              split
              · next e => rw [e]
              · rfl
            · show xS σ + nI (sP S (setN key)).length = xS σ + nI ((sP S (setN key)).modify i markP).length
              rw [hmod, List.length_set]
            · obtain ⟨-, -, -, -, b5, b6, b7, b8, -⟩ := h5
              exact ⟨by show inc (xT σ) 11 = inc (sC S) 11; rw [b5], b6, b7, b8, rfl⟩
        · obtain ⟨j1, j2, j3, j4⟩ := hi
          refine ⟨j1, j2, ?_, j4⟩
          refine j3.upd ?_
          rw [modify_set markP p5, List.map_set]
          exact set_self (by rw [List.getElem?_map, p5]; rfl)
    · rw [if_neg hm, if_neg hm]
      exact ⟨rfl, h0, hi, hc⟩
  · have he : (sL S)[k]? = some e := by rw [← h1, List.getElem?_map, f3]; rfl
    have hmem := List.mem_of_getElem? f3
    obtain ⟨a1, a2, a3, a4⟩ := h3 _ hmem
    rw [f1, f2]
    dsimp only
    rw [he]
    dsimp only
    have a2' : it a = e.1 := a2
    have hadp := set_adp (y := (a, mark1 e)) f3 rfl
    refine ⟨by rw [a2'], ?_, ?_, hc⟩
    · refine ⟨Z.set k (a, mark1 e), ?_, by rw [fst_adp hadp]; exact h2, fun z hz => ?_, ⟨fun j hj => ?_, ?_⟩, ?_, h6⟩
      · rw [List.map_set, h1]
        exact (modify_set mark1 he).symm
      · obtain ⟨i, hi2⟩ := List.getElem?_of_mem hz
        rcases set_at hi2 with ⟨-, rfl, -⟩ | ⟨hne, hi3⟩
        · exact ⟨a1, a2, a3, fun _ => va_up_self _ _ _⟩
        · obtain ⟨k1, k2, k3, k4⟩ := h3 _ (List.mem_of_getElem? hi3)
          refine ⟨k1, k2, k3, fun q => ?_⟩
          show va_up (xM σ) a true z.1 = _
          rw [va_up_ne _ _ (fun z1 => hne (nd_ix h2 hi3 f3 z1))]
          exact k4 q
      · rw [row_adp hadp]
        exact h4.1 j hj
      · rw [row_adp hadp]
        exact h4.2
      · obtain ⟨b1, b2, b3, b4, b5, b6, b7, b8, b9⟩ := h5
        refine ⟨fun s hs => ?_, b2, ?_, b4, b5, b6, b7, b8, ?_⟩
        · obtain ⟨bs, c1, c2, c3⟩ := b1 s hs
          refine ⟨bs, c1, ?_, c3⟩
          refine Eq.trans (List.map_congr_left fun b hb => ?_) c2
          show (it b, va_up (xM σ) a true b) = _
          rw [va_up_ne _ _ (fun z => by
            have h9 := (c3 b hb).2
            rw [z, show xI σ a = e.2.1 from a3, f4] at h9
            cases h9)]
        · show xV σ = nI (((sL S).modify k mark1).filter (fun e => e.2.1)).length
          rw [b3, modify_set mark1 he]
          show nI ((sL S).filter (fun e => e.2.1)).length = _
          congr 1
          have hcn : ∀ (l : List En) (k : Nat), l[k]? = some e → ((l.set k (mark1 e)).filter (fun e => e.2.1)).length = (l.filter (fun e => e.2.1)).length := by
            intro l
            induction l with
            | nil => intro k q; simp at q
            | cons y l ih =>
              intro k q
              cases k with
              | zero =>
                simp at q
                subst q
                simp [List.set, mark1, List.filter_cons, f4]
              | succ k =>
                simp at q
                rw [List.set_cons_succ, List.filter_cons, List.filter_cons]
                split
                · simp only [List.length_cons, ih k q]
                · exact ih k q
          exact (hcn _ _ he).symm
        · show (nI (it a).2.1, (it a).2.2.1, (it a).2.2.2) = _
          rw [a2']
          rfl
    · obtain ⟨j1, j2, j3⟩ := hi
      refine ⟨j1.cg ?_, j2.pw fun i e' hie => ?_, j3⟩
      · show ((sL S).modify k mark1).map dp = _
        rw [modify_set mark1 he, List.map_set]
        exact set_self (by rw [List.getElem?_map, he]; rfl)
      · have hie2 : ((sL S).set k (mark1 e))[i]? = some e' := by rw [← modify_set mark1 he]; exact hie
        rcases set_at hie2 with ⟨rfl, rfl, -⟩ | ⟨-, q⟩
        · exact ⟨e, he, rfl, id⟩
        · exact ⟨e', q, rfl, id⟩
end OPS
