def adp (z : ZE) : Nat × Da × Nat := (z.1, z.2.1, z.2.2.2.2)
def dp (e : En) : Da × Nat := (e.1, e.2.2.2)
theorem row_adp {Z Z' : List ZE} (h : Z'.map adp = Z.map adp) (j : Nat) : rowOf Z' j = rowOf Z j := by
  have main : ∀ Z : List ZE, rowOf Z j = ((Z.map adp).filter (fun y => y.2.2 == j)).map (fun y => some y.1) := by
    intro Z
    unfold rowOf
    rw [List.filter_map, List.map_map]
    rfl
  rw [main, main, h]
theorem fst_adp {Z Z' : List ZE} (h : Z'.map adp = Z.map adp) : Z'.map Prod.fst = Z.map Prod.fst := by
  have main : ∀ Z : List ZE, Z.map Prod.fst = (Z.map adp).map (fun y => y.1) := fun Z => by rw [List.map_map]; rfl
  rw [main, main, h]
theorem dp_adp {Z Z' : List ZE} (h : Z'.map adp = Z.map adp) : (Z'.map Prod.snd).map dp = (Z.map Prod.snd).map dp := by
  have main : ∀ Z : List ZE, (Z.map Prod.snd).map dp = (Z.map adp).map (fun y => y.2) := fun Z => by rw [List.map_map, List.map_map]; rfl
  rw [main, main, h]
theorem plS_dp (l : List En) (j : Nat) : plS (onP j l) = (((l.map dp).filter (fun y => y.2 == j)).map (fun y => plc y.1)).sum := by
  unfold plS onP
  rw [List.filter_map, List.map_map]
  rfl
theorem LI.cg {l l' : List En} {h : Nat} {np : Nat → Nat} {o : Nat} (hl : LI l h np o) (he : l'.map dp = l.map dp) : LI l' h np o := by
  obtain ⟨h1, h2, h3, h4, h5⟩ := hl
  have hp : ∀ j, plS (onP j l') = plS (onP j l) := fun j => by rw [plS_dp, plS_dp, he]
  refine ⟨fun e hm => ?_, fun j hj => by rw [hp]; exact h2 j hj, by rw [hp]; exact h3, h4, ?_⟩
  · have hm2 : dp e ∈ l.map dp := by rw [← he]; exact List.mem_map_of_mem hm
    obtain ⟨x, hx, e2⟩ := List.mem_map.mp hm2
    have e3 := h1 x hx
    have e4 : x.1 = e.1 := congrArg (fun y : Da × Nat => y.1) e2
    have e5 : x.2.2.2 = e.2.2.2 := congrArg (fun y : Da × Nat => y.2) e2
    rw [e4, e5] at e3
    exact e3
  · have k1 : (l.map dp).Pairwise (fun x y => rk h x.2 ≤ rk h y.2) := by rw [List.pairwise_map]; exact h5
    rw [← he, List.pairwise_map] at k1
    exact k1
theorem keyD.pw {l l' : List En} (h : keyD l) (hp : ∀ (i : Nat) (e' : En), l'[i]? = some e' → ∃ e : En, l[i]? = some e ∧ e'.1 = e.1 ∧ (e'.2.1 = true → e.2.1 = true)) : keyD l' := by
  unfold keyD at *
  rw [List.pairwise_iff_getElem] at *
  intro i j hi hj hij a1 a2
  obtain ⟨x, hx, x1, x2⟩ := hp i _ (List.getElem?_eq_getElem hi)
  obtain ⟨y, hy, y1, y2⟩ := hp j _ (List.getElem?_eq_getElem hj)
  obtain ⟨li, ei⟩ := List.getElem?_eq_some_iff.mp hx
  obtain ⟨lj, ej⟩ := List.getElem?_eq_some_iff.mp hy
  have := h i j li lj hij
  rw [ei, ej] at this
  rw [x1, y1]
  exact this (x2 a1) (y2 a2)
theorem set_self {α : Type} {l : List α} {k : Nat} {x : α} (h : l[k]? = some x) : l.set k x = l := by
  obtain ⟨hk, e⟩ := List.getElem?_eq_some_iff.mp h
  rw [← e]
  exact List.set_getElem_self hk
theorem set_adp {Z : List ZE} {k : Nat} {z y : ZE} (h : Z[k]? = some z) (hy : adp y = adp z) : (Z.set k y).map adp = Z.map adp := by
  rw [List.map_set, hy]
  exact set_self (by rw [List.getElem?_map, h]; rfl)
theorem set_at {α : Type} {l : List α} {k i : Nat} {y x : α} (h : (l.set k y)[i]? = some x) : (i = k ∧ x = y ∧ k < l.length) ∨ (i ≠ k ∧ l[i]? = some x) := by
  rw [List.getElem?_set] at h
  split at h
  · next e =>
    split at h
    · next hl => cases h; exact Or.inl ⟨e.symm, rfl, by omega⟩
    · cases h
  · next e => exact Or.inr ⟨fun z => e z.symm, h⟩
theorem nd_ix {Z : List ZE} (h : (Z.map Prod.fst).Nodup) {i j : Nat} {x y : ZE} (hx : Z[i]? = some x) (hy : Z[j]? = some y) (he : x.1 = y.1) : i = j := by
  obtain ⟨hi, e1⟩ := List.getElem?_eq_some_iff.mp hx
  obtain ⟨hj, e2⟩ := List.getElem?_eq_some_iff.mp hy
  have e3 : (Z.map Prod.fst)[i]'(by simpa using hi) = (Z.map Prod.fst)[j]'(by simpa using hj) := by simp [e1, e2, he]
  exact (List.getElem_inj h).mp e3
theorem modify_set {α : Type} {l : List α} {k : Nat} {x : α} (f : α → α) (h : l[k]? = some x) : l.modify k f = l.set k (f x) := by
  apply List.ext_getElem?
  intro i
  rw [List.getElem?_modify, List.getElem?_set]
  split
  · next e =>
    subst e
    rw [h]
    simp [(List.getElem?_eq_some_iff.mp h).1]
  · simp
theorem cnt_kill {l : List En} : ∀ {k : Nat} {e : En}, l[k]? = some e → e.2.1 = true → ((l.set k (kill1 e)).filter (fun x => x.2.1)).length + 1 = (l.filter (fun x => x.2.1)).length := by
  induction l with
  | nil => intro k e h; simp at h
  | cons x l ih =>
    intro k e h ha
    cases k with
    | zero =>
      simp at h
      subst h
      simp [List.set, kill1, List.filter_cons, ha]
    | succ k =>
      simp at h
      have := ih h ha
      rw [List.set_cons_succ, List.filter_cons, List.filter_cons]
      split
      · simp only [List.length_cons]; omega
      · exact this
def RelZ (ad kd : Nat → Nat) (it : Nat → Da) (Z : List ZE) (σ : CS) (S : SS) : Prop := Z.map Prod.snd = sL S ∧ (Z.map Prod.fst).Nodup ∧ ZOk kd it σ Z ∧ RZ σ Z ∧ RB ad kd it σ S ∧ xR σ (ad 10) = []
theorem killAt_set {l : List En} {k : Nat} {e : En} (h : l[k]? = some e) : killAt l k = l.set k (kill1 e) := modify_set kill1 h
theorem Inv.kill {S : SS} (hi : Inv S) {k : Nat} {e : En} (he : (sL S)[k]? = some e) : Inv (uL S (killAt (sL S) k)) := by
  obtain ⟨h1, h2, h3⟩ := hi
  have hk := killAt_set he
  refine ⟨h1.cg ?_, h2.pw fun i e' hi => ?_, h3⟩
  · show (killAt (sL S) k).map dp = _
    rw [hk, List.map_set]
    exact set_self (by rw [List.getElem?_map, he]; rfl)
  · have hi2 : ((sL S).set k (kill1 e))[i]? = some e' := by rw [← hk]; exact hi
    rcases set_at hi2 with ⟨rfl, rfl, -⟩ | ⟨-, h⟩
    · exact ⟨e, he, rfl, fun z => by cases z⟩
    · exact ⟨e', h, rfl, id⟩
theorem RB.kill {ad kd : Nat → Nat} {it : Nat → Da} {σ : CS} {S : SS} (h : RB ad kd it σ S) {a k : Nat} {e : En} (he : (sL S)[k]? = some e) (hal : e.2.1 = true) : RB ad kd it (zV (zI σ (va_up (xI σ) a false)) (xV σ - 1)) (uL S (killAt (sL S) k)) := by
  obtain ⟨h1, h2, h3, h4⟩ := h
  refine ⟨fun s hs => ?_, h2, ?_, h4⟩
  · obtain ⟨bs, b1, b2, b3⟩ := h1 s hs
    refine ⟨bs, b1, b2, fun b hb => ⟨(b3 b hb).1, ?_⟩⟩
    show va_up (xI σ) a false b = false
    unfold va_up
    split
    · rfl
    · exact (b3 b hb).2
  · show xV σ - 1 = nI ((killAt (sL S) k).filter (fun e => e.2.1)).length
    have hc := cnt_kill he hal
    rw [killAt_set he, h3]
    show nI ((sL S).filter (fun e => e.2.1)).length - 1 = _
    rw [← hc, nI_dec (by omega)]
    rfl
theorem RelZ.kill {ad kd : Nat → Nat} {it : Nat → Da} {σ : CS} {S : SS} {Z : List ZE} (h : RelZ ad kd it Z σ S) {a k : Nat} {e : En} (hk : Z[k]? = some (a, e)) (hal : e.2.1 = true) : RelZ ad kd it (Z.set k (a, kill1 e)) (killC σ (some a)).1 (uL S (killAt (sL S) k)) ∧ (killC σ (some a)).2 = true := by
  obtain ⟨h1, h2, h3, h4, h5, h6⟩ := h
  have he : (sL S)[k]? = some e := by rw [← h1, List.getElem?_map, hk]; rfl
  have hxI : xI σ a = true := by rw [(h3 _ (List.mem_of_getElem? hk)).2.2.1]; exact hal
  have hkc : killC σ (some a) = (zV (zI σ (va_up (xI σ) a false)) (xV σ - 1), true) := by simp [killC, hxI]
  rw [hkc]
  have hadp := set_adp (y := (a, kill1 e)) hk rfl
  refine ⟨⟨?_, by rw [fst_adp hadp]; exact h2, fun z hz => ?_, ⟨fun j hj => ?_, ?_⟩, h5.kill he hal, h6⟩, rfl⟩
  · rw [List.map_set, h1]
    exact (killAt_set he).symm
  · obtain ⟨i, hi⟩ := List.getElem?_of_mem hz
    rcases set_at hi with ⟨-, rfl, -⟩ | ⟨hne, hi2⟩
    · obtain ⟨k1, k2, k3, k4⟩ := h3 _ (List.mem_of_getElem? hk)
      exact ⟨k1, k2, va_up_self _ _ _, fun z => by cases z⟩
    · obtain ⟨k1, k2, k3, k4⟩ := h3 _ (List.mem_of_getElem? hi2)
      have hza : z.1 ≠ a := fun z1 => hne (nd_ix h2 hi2 hk z1)
      exact ⟨k1, k2, by rw [← k3]; exact va_up_ne _ _ hza, k4⟩
  · rw [row_adp hadp]
    exact h4.1 j hj
  · rw [row_adp hadp]
    exact h4.2
theorem Rel.kk {ad kd : Nat → Nat} {it : Nat → Da} {σ : CS} {S : SS} (h : Rel ad kd it σ S) (hi : Inv S) (key : Int64) : Rel ad kd it (killC σ (findC it σ key)).1 (killKey S key) ∧ Inv (killKey S key) ∧ (killC σ (findC it σ key)).2 = (lastIx (sL S) key (sL S).length).isSome := by
  obtain ⟨Z, hZ⟩ := h
  have hZ' : RelZ ad kd it Z σ S := hZ
  unfold killKey
  rcases find_rel hZ.1 hZ.2.2.1 hZ.2.2.2.1 hi key with ⟨f1, f2⟩ | ⟨a, k, e, f1, f2, f3, f4, f5⟩
  · rw [f1, f2]
    exact ⟨⟨Z, hZ⟩, hi, rfl⟩
  · rw [f1, f2]
    obtain ⟨r1, r2⟩ := hZ'.kill f3 f4
    exact ⟨⟨_, r1⟩, hi.kill (by rw [← hZ.1, List.getElem?_map, f3]; rfl), r2⟩
/-- after killKey nothing alive has the key -/
theorem killKey_none {S : SS} (hi : Inv S) (key : Int64) : ∀ e ∈ sL (killKey S key), ¬ (e.2.1 = true ∧ e.1.1 = key) := by
  intro e he hl
  unfold killKey at he
  split at he
  · next k hk =>
    obtain ⟨e0, g1, g2, g3⟩ := lastIx_at hk
    have he2 : e ∈ (sL S).set k (kill1 e0) := by rw [← killAt_set g1]; exact he
    obtain ⟨i, hi2⟩ := List.getElem?_of_mem he2
    rcases set_at hi2 with ⟨-, rfl, -⟩ | ⟨hne, hi3⟩
    · cases hl.1
    · exact hne (hi.2.1.uniq hi3 g1 hl.1 g2 (hl.2.trans g3.symm))
  · next hk =>
    obtain ⟨i, hi2⟩ := List.getElem?_of_mem he
    exact lastIx_none hk i (List.getElem?_eq_some_iff.mp hi2).1 e hi2 hl
