theorem sorted_split {α : Type} (r : α → Nat) (n : Nat) : ∀ {l : List α}, l.Pairwise (fun x y => r x ≤ r y) → l.filter (fun x => decide (r x < n)) ++ l.filter (fun x => !decide (r x < n)) = l := by
  intro l
  induction l with
  | nil => intro _; rfl
  | cons x l ih =>
    intro hs
    obtain ⟨h1, h2⟩ := List.pairwise_cons.mp hs
    by_cases hx : r x < n
    · rw [List.filter_cons_of_pos (by simpa using hx), List.filter_cons_of_neg (by simpa using hx), List.cons_append, ih h2]
    · have e1 : (x :: l).filter (fun x => decide (r x < n)) = [] := List.filter_eq_nil_iff.mpr fun y hy => by
        rcases List.mem_cons.mp hy with rfl | hy
        · simpa using hx
        · have := h1 y hy; simp; omega
      have e2 : (x :: l).filter (fun x => !decide (r x < n)) = x :: l := List.filter_eq_self.mpr fun y hy => by
        rcases List.mem_cons.mp hy with rfl | hy
        · simpa using hx
        · have := h1 y hy; simp; omega
      rw [e1, e2]
      rfl
theorem rk_seg {h pg : Nat} (hh : h < 8) (hp : pg < 32) : rk h pg < 4 ↔ pg / 4 = (h + 1) % 8 := by
  unfold rk
  rw [if_neg (by omega)]
  omega
theorem rk_next {h x y : Nat} (hh : h < 8) (hx : x < 32) (hy : y < 32) (nx : ¬ x / 4 = (h + 1) % 8) (ny : ¬ y / 4 = (h + 1) % 8) (hxy : rk h x ≤ rk h y) : rk ((h + 1) % 8) x ≤ rk ((h + 1) % 8) y := by
  unfold rk at *
  rw [if_neg (by omega), if_neg (by omega)] at *
  omega
def outE (h : Nat) (e : En) : En := if e.2.2.2 / 4 = h then (e.1, e.2.1, e.2.2.1, 36 + e.2.2.2 % 4) else e
theorem outE_1 (h : Nat) (e : En) : (outE h e).1 = e.1 ∧ (outE h e).2.1 = e.2.1 ∧ (outE h e).2.2.1 = e.2.2.1 := by
  unfold outE
  split <;> exact ⟨rfl, rfl, rfl⟩
def outZ (h : Nat) (z : ZE) : ZE := (z.1, outE h z.2)
theorem va_up_id0 {f : Nat → Nat} {h : Nat} (e : f h = 0) : va_up f h 0 = f := by
  funext q
  unfold va_up
  split
  · next z => rw [z, e]
  · rfl
/-- the class's row of what was taken out -/
theorem eaC_row {ad ar ow cap kd : Nat → Nat} {σ : CS} {Z : List ZE} (hst : CSt ad ar ow cap kd) (hc : CWF ad kd σ) (hr : RZ σ Z) (h10 : cap (ad 10) = 32) (hb : ∀ j, j < 32 → (rowOf Z j).length ≤ 8) : ∀ k, k ≤ 4 →
    xR (eaC ad cap σ k) (ad 10) = (List.range k).flatMap (fun j => rowOf Z (4 * xH σ + j)) ∧ (xR (eaC ad cap σ k) (ad 10)).length ≤ 8 * k ∧ (∀ j, j < 32 → xR (eaC ad cap σ k) (xG σ j) = if 4 * xH σ ≤ j ∧ j < 4 * xH σ + k then [] else rowOf Z j) ∧ (∀ r, r ≠ ad 10 → (∀ j, j < 32 → r ≠ xG σ j) → xR (eaC ad cap σ k) r = xR σ r) := by
  have hh := hc.2.2.2.1
  intro k
  induction k with
  | zero =>
    intro _
    refine ⟨zRr_same, ?_, fun j hj => ?_, fun r h1 _ => zRr_ne h1⟩
    · show (xR (zRr σ (ad 10) []) (ad 10)).length ≤ _
      rw [zRr_same]
      exact Nat.zero_le _
    · rw [if_neg (by omega)]
      show xR (zRr σ (ad 10) []) (xG σ j) = _
      rw [zRr_ne (hc.2.2.2.2.2.1 j hj 10 (by decide) (by decide))]
      exact hr.1 j hj
  | succ k ih =>
    intro hk
    obtain ⟨i1, i2, i3, i4⟩ := ih (by omega)
    have hp : 4 * xH σ + k < 32 := by omega
    have hne : ad 10 ≠ xG σ (4 * xH σ + k) := Ne.symm (hc.2.2.2.2.2.1 _ hp 10 (by decide) (by decide))
    have hrow : xR (eaC ad cap σ k) (xG σ (4 * xH σ + k)) = rowOf Z (4 * xH σ + k) := by
      rw [i3 _ hp, if_neg (by omega)]
    have hT : xR (eaC ad cap σ (k + 1)) (ad 10) = xR (eaC ad cap σ k) (ad 10) ++ rowOf Z (4 * xH σ + k) := by
      show xR (zRr (zRr (eaC ad cap σ k) (ad 10) (addsR (cap (ad 10)) (xR (eaC ad cap σ k) (ad 10)) (xR (eaC ad cap σ k) (xG σ (4 * xH σ + k))))) (xG σ (4 * xH σ + k)) []) (ad 10) = _
      rw [zRr_ne hne, zRr_same, hrow, adds_id _ _ (by have := hb _ hp; omega)]
    refine ⟨?_, ?_, fun j hj => ?_, fun r h1 h2 => ?_⟩
    · rw [hT, i1, List.range_succ, List.flatMap_append]
      simp
    · rw [hT, List.length_append]
      have := hb _ hp
      omega
    · show xR (zRr (zRr (eaC ad cap σ k) (ad 10) _) (xG σ (4 * xH σ + k)) []) (xG σ j) = _
      by_cases hj2 : j = 4 * xH σ + k
      · subst hj2
        rw [zRr_same, if_pos (by omega)]
      · rw [zRr_ne (fun z => hj2 (hc.2.2.2.2.2.2.2.2 j _ hj hp z)), zRr_ne (hc.2.2.2.2.2.1 j hj 10 (by decide) (by decide)), i3 j hj]
        by_cases hc1 : 4 * xH σ ≤ j ∧ j < 4 * xH σ + k
        · rw [if_pos hc1, if_pos (by omega)]
        · rw [if_neg hc1, if_neg (by omega)]
    · show xR (zRr (zRr (eaC ad cap σ k) (ad 10) _) (xG σ (4 * xH σ + k)) []) r = _
      rw [zRr_ne (h2 _ hp), zRr_ne h1]
      exact i4 r h1 h2
theorem eaC_all (ad cap : Nat → Nat) (σ : CS) : ∀ k, xI (eaC ad cap σ k) = xI σ ∧ xM (eaC ad cap σ k) = xM σ ∧ xF (eaC ad cap σ k) = xF σ ∧ xV (eaC ad cap σ k) = xV σ ∧ xS (eaC ad cap σ k) = xS σ ∧ xT (eaC ad cap σ k) = xT σ ∧ xC (eaC ad cap σ k) = xC σ ∧ xQ (eaC ad cap σ k) = xQ σ ∧ xO (eaC ad cap σ k) = xO σ := by
  intro k
  induction k with
  | zero => exact ⟨rfl, rfl, rfl, rfl, rfl, rfl, rfl, rfl, rfl⟩
  | succ k ih => exact ih
/-- four pages in a row, in the order of the list -/
theorem seg_rows {Z : List ZE} {h : Nat} (hh : h < 8) (hp : ∀ z ∈ Z, z.2.2.2.2 < 32) (hs : Z.Pairwise (fun x y => rk h x.2.2.2.2 ≤ rk h y.2.2.2.2)) : ∀ k, k ≤ 4 → (List.range k).flatMap (fun j => rowOf Z (4 * ((h + 1) % 8) + j)) = (Z.filter (fun z => decide (rk h z.2.2.2.2 < k))).map (fun z => some z.1) := by
  intro k
  induction k with
  | zero =>
    intro _
    have : Z.filter (fun z => decide (rk h z.2.2.2.2 < 0)) = [] := List.filter_eq_nil_iff.mpr fun y hy => by simp
    rw [this]
    rfl
  | succ k ih =>
    intro hk
    rw [List.range_succ, List.flatMap_append, ih (by omega), filt_split (fun z : ZE => rk h z.2.2.2.2) k hs, List.map_append]
    congr 1
    simp only [List.flatMap_cons, List.flatMap_nil, List.append_nil]
    unfold rowOf
    rw [List.filter_congr (l := Z) (p := fun z => z.2.2.2.2 == 4 * ((h + 1) % 8) + k) (q := fun z => rk h z.2.2.2.2 == k) (fun z hz => by
      have h1 := hp z hz
      have h2 := rk_pg (h := h) (pg := z.2.2.2.2) (n := k) hh (by omega) (by omega)
      rw [← h2]
      congr 1
      omega)]
theorem forget_id {S : SS} (h : ∀ e ∈ sL S, isOut e = false) : forget S = S := by
  unfold forget
  rw [List.filter_eq_self.mpr (fun e he => by simp [h e he])]
  rfl
theorem empty_id {S : SS} {h : Nat} (hp : ∀ e ∈ sL S, e.2.2.2 < 33 ∧ ¬ e.2.2.2 / 4 = h) (hn : sN S h = 0) : emptyS S h = S := by
  have ho : outS S h = S := by
    have e1 : (sL S).map (fun e => if e.2.2.2 / 4 = h then (e.1, e.2.1, e.2.2.1, 36 + e.2.2.2 % 4) else e) = sL S := by
      have : (sL S).map (fun e => if e.2.2.2 / 4 = h then (e.1, e.2.1, e.2.2.1, 36 + e.2.2.2 % 4) else e) = (sL S).map id := List.map_congr_left fun e he => if_neg (hp e he).2
      rw [this, List.map_id]
    unfold outS
    rw [e1, va_up_id0 hn]
  have hno : ∀ e ∈ sL S, isOut e = false := fun e he => by
    have := (hp e he).1
    unfold isOut
    simp
    omega
  unfold emptyS
  rw [ho, forget_id hno, (loop_noop (sL S).length 0 S (fun j _ hj => by
    rw [Nat.zero_add] at hj
    refine ⟨(sL S)[j], List.getElem?_eq_getElem hj, fun q => ?_, ?_⟩
    · rw [hno _ (List.getElem_mem hj)] at q
      cases q.1
    · have := (hp _ (List.getElem_mem hj)).1
      omega)).1, forget_id hno]
theorem em1_all (ad cap : Nat → Nat) (σ : CS) : xI (em1 ad cap σ) = xI σ ∧ xM (em1 ad cap σ) = xM σ ∧ xF (em1 ad cap σ) = xF σ ∧ xV (em1 ad cap σ) = xV σ ∧ xS (em1 ad cap σ) = xS σ ∧ xT (em1 ad cap σ) = xT σ ∧ xC (em1 ad cap σ) = xC σ ∧ xQ (em1 ad cap σ) = xQ σ ∧ xO (em1 ad cap σ) = xO σ ∧ xG (em1 ad cap σ) = xG σ ∧ xH (em1 ad cap σ) = xH σ ∧ xW (em1 ad cap σ) = va_up (xW σ) (xH σ) 0 ∧ xR (em1 ad cap σ) = xR (eaC ad cap σ 4) := by
  obtain ⟨e1, e2, e3, e4, e5, e6, e7, e8, e9⟩ := eaC_all ad cap σ 4
  exact ⟨e1, e2, e3, e4, e5, e6, e7, e8, e9, eaC_G ad cap σ 4, eaC_H ad cap σ 4, rfl, rfl⟩
theorem cnt_app (l m : List En) : ((l ++ m).filter (fun e => e.2.1)).length = (l.filter (fun e => e.2.1)).length + (m.filter (fun e => e.2.1)).length := by rw [List.filter_append, List.length_append]
/-- the head is emptied: what it starts from -/
theorem E_start {ad ar ow cap kd : Nat → Nat} {it : Nat → Da} {σ : CS} {S : SS} {Z : List ZE} {h : Nat} (hst : CSt ad ar ow cap kd) (hc : CWF ad kd σ) (h10 : cap (ad 10) = 32) (hh : h < 8) (hH : sH S = (h + 1) % 8) (hs : Z.map Prod.snd = sL S) (hnd : (Z.map Prod.fst).Nodup) (hz : ZOk kd it σ Z) (hr : RZ σ Z) (hb : RB ad kd it σ S) (hl : LI (sL S) h (sN S) 0) (hO : sO S = 0) (hk : keyD (sL S)) (hp : PI (sP S)) (hn : ∀ j, sN S j ≤ 4) :
    ∃ ZO ZR, RelE ad kd it (em1 ad cap σ) (forget (outS S ((h + 1) % 8))) [] ZO ZR 0 ∧ InvE (forget (outS S ((h + 1) % 8))) ZO ZR (mkd (sL S)) ∧ Lb S ∧ Lb (outS S ((h + 1) % 8)) ∧ (∀ j, j < 32 → (rowOf Z j).length ≤ 8) := by
  obtain ⟨l1, l2, l3, l4, l5⟩ := hl
  have hxH : xH σ = (h + 1) % 8 := hb.2.2.2.2.2.1.trans hH
  have hh2 : (h + 1) % 8 < 8 := Nat.mod_lt _ (by decide)
  have hpg : ∀ e ∈ sL S, e.2.2.2 < 32 := fun e he => by
    have h1 := (l1 e he).2.1
    rcases Nat.lt_or_ge e.2.2.2 32 with q | q
    · exact q
    · have h2 : e ∈ onP 32 (sL S) := List.mem_filter.mpr ⟨he, by simp; omega⟩
      obtain ⟨a, b, hab⟩ := List.append_of_mem h2
      rw [hab, plS_app, plS_cons] at l3
      have := plc_ge (l1 e he).1
      omega
  have hpz : ∀ z ∈ Z, z.2.2.2.2 < 32 := fun z hzm => hpg z.2 (by rw [← hs]; exact List.mem_map_of_mem hzm)
  have hsz : Z.Pairwise (fun x y => rk h x.2.2.2.2 ≤ rk h y.2.2.2.2) := by
    rw [← hs, List.pairwise_map] at l5
    exact l5
  have hrow8 : ∀ j, j < 32 → (rowOf Z j).length ≤ 8 := fun j hj => by
    rw [row_len, hs]
    exact onP_len (fun e he => (l1 e he).1) (l2 j hj)
  have hAB := sorted_split (fun z : ZE => rk h z.2.2.2.2) 4 hsz
  generalize hA : Z.filter (fun z => decide (rk h z.2.2.2.2 < 4)) = ZA at hAB
  generalize hB : Z.filter (fun z => !decide (rk h z.2.2.2.2 < 4)) = ZB at hAB
  have hAm : ∀ z ∈ ZA, z ∈ Z ∧ z.2.2.2.2 / 4 = (h + 1) % 8 := fun z hzm => by
    rw [← hA] at hzm
    obtain ⟨z1, z2⟩ := List.mem_filter.mp hzm
    exact ⟨z1, (rk_seg hh (hpz z z1)).mp (by simpa using z2)⟩
  have hBm : ∀ z ∈ ZB, z ∈ Z ∧ ¬ z.2.2.2.2 / 4 = (h + 1) % 8 := fun z hzm => by
    rw [← hB] at hzm
    obtain ⟨z1, z2⟩ := List.mem_filter.mp hzm
    exact ⟨z1, fun q => by have := (rk_seg hh (hpz z z1)).mpr q; simp at z2; omega⟩
  obtain ⟨ea1, ea2, ea3, ea4⟩ := eaC_row (k := 4) hst hc hr h10 hrow8 (Nat.le_refl _)
  rw [hxH, seg_rows hh hpz hsz 4 (Nat.le_refl _), hA] at ea1
  have hLo : sL (outS S ((h + 1) % 8)) = (ZA.map (outZ ((h + 1) % 8))).map Prod.snd ++ ZB.map Prod.snd := by
    show (sL S).map (outE ((h + 1) % 8)) = _
    rw [← hs, ← hAB, List.map_append, List.map_append]
    congr 1
    · rw [List.map_map, List.map_map]
      rfl
    · rw [List.map_map]
      refine List.map_congr_left fun z hzm => ?_
      show outE ((h + 1) % 8) z.2 = z.2
      exact if_neg (hBm z hzm).2
  have hoA : ∀ z ∈ ZA.map (outZ ((h + 1) % 8)), isOut z.2 = true ∧ okD z.2.1 ∧ z.2.2.2.2 < 40 := fun z hzm => by
    obtain ⟨y, hy, rfl⟩ := List.mem_map.mp hzm
    obtain ⟨y1, y2⟩ := hAm y hy
    have e1 : (outZ ((h + 1) % 8) y).2.2.2.2 = 36 + y.2.2.2.2 % 4 := by
      show (outE ((h + 1) % 8) y.2).2.2.2 = _
      unfold outE
      rw [if_pos y2]
    refine ⟨?_, ?_, by omega⟩
    · unfold isOut
      rw [e1]
      simp
      omega
    · show okD (outE _ y.2).1
      rw [(outE_1 _ _).1]
      exact (l1 y.2 (by rw [← hs]; exact List.mem_map_of_mem y1)).1
  have hoB : ∀ z ∈ ZB, isOut z.2 = false := fun z hzm => by
    have := hpz z (hBm z hzm).1
    unfold isOut
    simp
    omega
  have hLf : sL (forget (outS S ((h + 1) % 8))) = (((ZA.filter (fun z => z.2.2.1)).map (outZ ((h + 1) % 8))) ++ ZB).map Prod.snd := by
    rw [forget_L, hLo, List.filter_append, List.map_append]
    congr 1
    · rw [List.filter_map, List.filter_map, List.map_map, List.map_map]
      congr 1
      refine List.filter_congr fun z hzm => ?_
      show (!(isOut (outE _ z.2) && !(outE _ z.2).2.1)) = z.2.2.1
      have := (hoA (outZ ((h + 1) % 8) z) (List.mem_map_of_mem hzm)).1
      rw [show isOut (outE ((h + 1) % 8) z.2) = true from this, (outE_1 _ _).2.1]
      cases z.2.2.1 <;> rfl
    · exact List.filter_eq_self.mpr fun e he => by
        obtain ⟨z, hzm, rfl⟩ := List.mem_map.mp he
        simp [hoB z hzm]
  have hsubZ : List.Sublist ((ZA.filter (fun z => z.2.2.1)) ++ ZB) Z := by
    rw [← hAB]
    exact List.Sublist.append List.filter_sublist (List.Sublist.refl _)
  have hfst : (((ZA.filter (fun z => z.2.2.1)).map (outZ ((h + 1) % 8))) ++ ZB).map Prod.fst = ((ZA.filter (fun z => z.2.2.1)) ++ ZB).map Prod.fst := by
    rw [List.map_append, List.map_append, List.map_map]
    rfl
  have hsnd : (((ZA.filter (fun z => z.2.2.1)).map (outZ ((h + 1) % 8))) ++ ZB).map Prod.snd = ((ZA.filter (fun z => z.2.2.1)).map Prod.snd).map (outE ((h + 1) % 8)) ++ ZB.map Prod.snd := by
    rw [List.map_append, List.map_map, List.map_map]
    rfl
  have halive : ((sL (forget (outS S ((h + 1) % 8)))).filter (fun e => e.2.1)).length = ((sL S).filter (fun e => e.2.1)).length := by
    rw [hLf, hsnd, cnt_app, cnt_map (fun e _ => (outE_1 _ e).2.1), ← hs, ← hAB, List.map_append, cnt_app]
    congr 1
    rw [List.filter_map, List.filter_map, List.length_map, List.length_map, List.filter_filter]
    congr 2
    funext z
    show (z.2.2.1 && z.2.2.1) = z.2.2.1
    cases z.2.2.1 <;> rfl
  obtain ⟨m1, m2, m3, m4, m5, m6, m7, m8, m9, m10, m11, m12, m13⟩ := em1_all ad cap σ
  have hrows : ∀ j, j < 32 → rowOf ZB j = if 4 * xH σ ≤ j ∧ j < 4 * xH σ + 4 then [] else rowOf Z j := fun j hj => by
    have hrow : ∀ Y : List ZE, rowOf Y j = (Y.filter (fun z => z.2.2.2.2 == j)).map (fun z => some z.1) := fun _ => rfl
    rw [hxH]
    split
    · next hcnd =>
      rw [hrow, List.filter_eq_nil_iff.mpr fun z hzm => by have := (hBm z hzm).2; simp; omega]
      rfl
    · next hcnd =>
      have hnA : ZA.filter (fun z => z.2.2.2.2 == j) = [] := List.filter_eq_nil_iff.mpr fun z hzm => by have := (hAm z hzm).2; simp; omega
      rw [hrow, hrow, ← hAB, List.filter_append, hnA]
      rfl
  refine ⟨(ZA.filter (fun z => z.2.2.1)).map (outZ ((h + 1) % 8)), ZB, ⟨hLf, (fun e he => (by cases he)), fun z hzm => ?_, ?_, fun z hzm => ?_, ⟨fun j hj => ?_, ?_⟩, ?_, ?_⟩, ⟨?_, ?_, hp, ?_, fun j => ?_, ?_, ?_, ?_, ?_, ?_, fun z => ?_⟩, ?_, ?_, hrow8⟩
  · obtain ⟨y, hy, rfl⟩ := List.mem_map.mp hzm
    have := hoA (outZ ((h + 1) % 8) y) (List.mem_map_of_mem (List.mem_filter.mp hy).1)
    exact ⟨this.1, this.2.1⟩
  · rw [hfst]
    exact hnd.sublist (hsubZ.map _)
  · rcases List.mem_append.mp hzm with hzm | hzm
    · obtain ⟨y, hy, rfl⟩ := List.mem_map.mp hzm
      obtain ⟨k1, k2, k3, k4⟩ := hz y (hAm y (List.mem_filter.mp hy).1).1
      obtain ⟨o1, o2, o3⟩ := outE_1 ((h + 1) % 8) y.2
      exact ⟨k1, by show it y.1 = (outE _ y.2).1; rw [o1]; exact k2, by rw [m1]; show xI σ y.1 = (outE _ y.2).2.1; rw [o2]; exact k3, by rw [m2]; show (outE _ y.2).2.1 = true → xM σ y.1 = (outE _ y.2).2.2.1; rw [o2, o3]; exact k4⟩
    · obtain ⟨k1, k2, k3, k4⟩ := hz z (hBm z hzm).1
      exact ⟨k1, k2, by rw [m1]; exact k3, by rw [m2]; exact k4⟩
  · rw [m10, m13, ea3 j hj, hrows j hj]
  · rw [m9, m13, ea4 _ (hc.2.2.2.2.2.2.1 10 (by decide) (by decide)) (fun j hj => Ne.symm (hc.2.2.2.2.2.2.2.1 j hj)), hr.2]
    have hrow : ∀ Y : List ZE, rowOf Y 32 = (Y.filter (fun z => z.2.2.2.2 == 32)).map (fun z => some z.1) := fun _ => rfl
    rw [hrow, hrow, List.filter_eq_nil_iff.mpr fun z hzm => by have := hpz z hzm; simp; omega, List.filter_eq_nil_iff.mpr fun z hzm => by have := hpz z (hBm z hzm).1; simp; omega]
  · obtain ⟨b1, b2, b3, b4, b5, b6, b7, b8, b9⟩ := hb
    refine ⟨fun s hs2 => ?_, fun s hs2 => by rw [m3]; exact b2 s hs2, ?_, by rw [m5]; exact b4, by rw [m6]; exact b5, by rw [m11]; exact b6, fun j hj => ?_, by rw [m7]; exact b8, by rw [m8]; exact b9⟩
    · rw [m13, ea4 _ (pgne hst hs2 (by decide) (by decide)) (fun j hj => Ne.symm (hc.2.2.2.2.2.1 j hj _ (by omega) (by omega))), m1, m2]
      exact b1 s hs2
    · rw [m4, b3]
      show nI ((sL S).filter (fun e => e.2.1)).length = nI ((sL (forget (outS S ((h + 1) % 8)))).filter (fun e => e.2.1)).length
      rw [halive]
    · rw [m12, hxH]
      show _ = va_up (sN S) ((h + 1) % 8) 0 j
      unfold va_up
      split
      · rfl
      · exact b7 j hj
  · rw [m13, m1, ea1, List.drop_zero, List.filter_map, List.filter_map, List.map_map, List.filter_filter]
    have e1 : ZA.filter (inL (xI σ) ∘ fun z : ZE => some z.1) = ZA.filter (fun z => ((fun z : ZE => z.2.2.1) ∘ outZ ((h + 1) % 8)) z && z.2.2.1) := List.filter_congr fun z hzm => by
      show xI σ z.1 = ((outE _ z.2).2.1 && z.2.2.1)
      rw [(outE_1 _ _).2.1, (hz z (hAm z hzm).1).2.2.1]
      cases z.2.2.1 <;> rfl
    rw [e1]
    rfl
  · have hle : ∀ j, plS (onP j (ZB.map Prod.snd)) ≤ plS (onP j (sL S)) := fun j => by
      rw [← hs, ← hAB, List.map_append]
      unfold onP
      rw [List.filter_append, plS_app]
      omega
    refine ⟨fun e he => ?_, fun j hj => Nat.le_trans (hle j) (l2 j hj), ?_, by show sO S ≤ 32; omega, ?_⟩
    · obtain ⟨z, hzm, rfl⟩ := List.mem_map.mp he
      obtain ⟨z1, z2⟩ := hBm z hzm
      obtain ⟨k1, k2, k3⟩ := l1 z.2 (by rw [← hs]; exact List.mem_map_of_mem z1)
      refine ⟨k1, k2, fun q => ?_⟩
      show _ < va_up (sN S) ((h + 1) % 8) 0 _
      rw [va_up_ne _ _ z2]
      exact k3 q
    · show _ = sO S
      rw [hO]
      have := hle 32
      omega
    · rw [List.pairwise_map]
      show ZB.Pairwise (fun x y => rk (sH S) x.2.2.2.2 ≤ rk (sH S) y.2.2.2.2)
      rw [hH]
      have hsB : ZB.Pairwise (fun x y => rk h x.2.2.2.2 ≤ rk h y.2.2.2.2) := by rw [← hB]; exact hsz.sublist List.filter_sublist
      exact hsB.imp_of_mem fun {x y} hx hy hxy => rk_next hh (hpz x (hBm x hx).1) (hpz y (hBm y hy).1) (hBm x hx).2 (hBm y hy).2 hxy
  · rw [hsnd]
    have h1 : keyD (((ZA.filter (fun z => z.2.2.1)) ++ ZB).map Prod.snd) := by
      rw [← hs] at hk
      exact List.Pairwise.sublist (hsubZ.map _) hk
    have h2 := keyD.map h1 (g := outE ((h + 1) % 8)) (fun e _ => ⟨(outE_1 _ e).1, fun q => by rw [← (outE_1 ((h + 1) % 8) e).2.1]; exact q⟩)
    rw [List.map_append, List.map_append] at h2
    have h3 : (ZB.map Prod.snd).map (outE ((h + 1) % 8)) = ZB.map Prod.snd := by
      rw [List.map_map]
      exact List.map_congr_left fun z hzm => if_neg (hBm z hzm).2
    rw [h3] at h2
    exact h2
  · show sH S < 8
    rw [hH]
    exact hh2
  · show va_up (sN S) ((h + 1) % 8) 0 j ≤ 4
    unfold va_up
    split
    · exact Nat.zero_le _
    · exact hn j
  · show va_up (sN S) ((h + 1) % 8) 0 (sH S) ≤ 3
    rw [hH, va_up_self]
    exact Nat.zero_le _
  · show safe (va_up (sN S) ((h + 1) % 8) 0 (sH S)) (sO S) _
    rw [hH, va_up_self, hO]
    have hpgE : ∀ z ∈ ZA, (outE ((h + 1) % 8) z.2).2.2.2 % 4 = z.2.2.2.2 % 4 := fun z hzm => by
      unfold outE
      rw [if_pos (hAm z hzm).2]
      show (36 + z.2.2.2.2 % 4) % 4 = _
      omega
    have hsum : ∀ j, j ≤ 3 → plS ((((ZA.filter (fun z => z.2.2.1)).map (outZ ((h + 1) % 8))).map Prod.snd).filter (fun e => e.2.2.2 % 4 == j)) ≤ 32 := fun j hj => by
      refine Nat.le_trans ?_ (l2 (4 * ((h + 1) % 8) + j) (by omega))
      rw [List.map_map, List.filter_map]
      show plS (((ZA.filter (fun z => z.2.2.1)).filter _).map (fun z => outE ((h + 1) % 8) z.2)) ≤ _
      have e2 : ((ZA.filter (fun z => z.2.2.1)).filter ((fun e : En => e.2.2.2 % 4 == j) ∘ (Prod.snd ∘ outZ ((h + 1) % 8)))).map (fun z => outE ((h + 1) % 8) z.2) = (((ZA.filter (fun z => z.2.2.1)).filter ((fun e : En => e.2.2.2 % 4 == j) ∘ (Prod.snd ∘ outZ ((h + 1) % 8)))).map Prod.snd).map (outE ((h + 1) % 8)) := by rw [List.map_map]; rfl
      rw [e2, plS_map (fun e _ => (outE_1 _ e).1)]
      have e3 : List.Sublist (((ZA.filter (fun z => z.2.2.1)).filter ((fun e : En => e.2.2.2 % 4 == j) ∘ (Prod.snd ∘ outZ ((h + 1) % 8)))).map Prod.snd) (onP (4 * ((h + 1) % 8) + j) (sL S)) := by
        rw [← hs, ← hAB, List.map_append]
        unfold onP
        rw [List.filter_append]
        refine List.Sublist.trans ?_ (List.sublist_append_left _ _)
        rw [List.filter_map]
        refine List.Sublist.map _ ?_
        rw [List.filter_filter]
        have e4 : ZA.filter (fun z => (((fun e : En => e.2.2.2 % 4 == j) ∘ (Prod.snd ∘ outZ ((h + 1) % 8))) z && z.2.2.1)) = (ZA.filter ((fun e : En => e.2.2.2 == 4 * ((h + 1) % 8) + j) ∘ Prod.snd)).filter (fun z => z.2.2.1) := by
          rw [List.filter_filter]
          refine List.filter_congr fun z hzm => ?_
          show ((outE ((h + 1) % 8) z.2).2.2.2 % 4 == j && z.2.2.1) = (z.2.2.1 && z.2.2.2.2 == 4 * ((h + 1) % 8) + j)
          rw [hpgE z hzm]
          have q1 := (hAm z hzm).2
          have q2 : (z.2.2.2.2 % 4 == j) = (z.2.2.2.2 == 4 * ((h + 1) % 8) + j) := by
            by_cases q3 : z.2.2.2.2 % 4 = j
            · have q4 : z.2.2.2.2 = 4 * ((h + 1) % 8) + j := by omega
              have e5 : (z.2.2.2.2 % 4 == j) = true := by simpa using q3
              have e6 : (z.2.2.2.2 == 4 * ((h + 1) % 8) + j) = true := by simpa using q4
              rw [e5, e6]
            · have q4 : ¬ z.2.2.2.2 = 4 * ((h + 1) % 8) + j := by omega
              have e5 : (z.2.2.2.2 % 4 == j) = false := by simpa using q3
              have e6 : (z.2.2.2.2 == 4 * ((h + 1) % 8) + j) = false := by simpa using q4
              rw [e5, e6]
          rw [q2, Bool.and_comm]
        rw [e4]
        exact List.filter_sublist
      exact sum_sub (e3.map _)
    refine safe_of _ 0 0 0 0 (Or.inr ⟨rfl, Nat.le_refl _⟩) (by decide) (Nat.zero_le _) (pgs_of _ 0 0 ?_ (fun e _ => Nat.zero_le _) (by rw [Nat.zero_add]; exact hsum 0 (by decide)) hsum)
    rw [List.map_map, List.pairwise_map]
    have hsA : (ZA.filter (fun z => z.2.2.1)).Pairwise (fun x y => rk h x.2.2.2.2 ≤ rk h y.2.2.2.2) := by
      rw [← hA]
      exact (hsz.sublist List.filter_sublist).sublist List.filter_sublist
    refine hsA.imp_of_mem fun {x y} hx hy hxy => ?_
    have hx1 := hAm x (List.mem_filter.mp hx).1
    have hy1 := hAm y (List.mem_filter.mp hy).1
    show (outE ((h + 1) % 8) x.2).2.2.2 % 4 ≤ (outE ((h + 1) % 8) y.2).2.2.2 % 4
    rw [hpgE x (List.mem_filter.mp hx).1, hpgE y (List.mem_filter.mp hy).1]
    have px := hpz x hx1.1
    have py := hpz y hy1.1
    have qx := hx1.2
    have qy := hy1.2
    unfold rk at hxy
    rw [if_neg (by omega), if_neg (by omega)] at hxy
    omega
  · rw [halive]
    have := LI.len ⟨l1, l2, l3, l4, l5⟩
    exact Nat.le_trans (List.length_filter_le _ _) this
  · have h1 : (sL S).length ≤ 264 := LI.len ⟨l1, l2, l3, l4, l5⟩
    have h2 : (((ZA.filter (fun z => z.2.2.1)) ++ ZB)).length ≤ Z.length := hsubZ.length_le
    have h3 : Z.length = (sL S).length := by rw [← hs, List.length_map]
    rw [hLf, List.length_map, List.length_append, List.length_map]
    rw [List.length_append] at h2
    omega
  · rw [hLf, hsnd, mkd_app]
    have h1 : mkd (((ZA.filter (fun z => z.2.2.1)).map Prod.snd).map (outE ((h + 1) % 8))) ≤ mkd ((ZA.filter (fun z => z.2.2.1)).map Prod.snd) := mkd_map fun e _ q => by rw [(outE_1 _ e).2.1, (outE_1 _ e).2.2] at q; exact q
    have h2 : mkd ((ZA.filter (fun z => z.2.2.1)).map Prod.snd) ≤ mkd (ZA.map Prod.snd) := by
      unfold mkd
      exact List.Sublist.length_le ((List.filter_sublist.map _).filter _)
    rw [← hs, ← hAB, List.map_append, mkd_app]
    omega
  · exact absurd z (by show ¬ 0 < sO S; omega)
  · intro e he
    have := hpg e he
    exact ⟨by omega, fun q => by omega⟩
  · intro e he
    rw [hLo] at he
    rcases List.mem_append.mp he with he | he
    · obtain ⟨z, hzm, rfl⟩ := List.mem_map.mp he
      have := hoA z hzm
      exact ⟨this.2.2, fun q => absurd q (out_lt this.1).2⟩
    · obtain ⟨z, hzm, rfl⟩ := List.mem_map.mp he
      have := hpz z (hBm z hzm).1
      exact ⟨by omega, fun q => by omega⟩
