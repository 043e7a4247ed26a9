abbrev ZE : Type := Nat × En
def rowOf (Z : List ZE) (j : Nat) : List (Option Nat) := (Z.filter (fun z => z.2.2.2.2 == j)).map (fun z => some z.1)
def ZOk (kd : Nat → Nat) (it : Nat → Da) (σ : CS) (Z : List ZE) : Prop := ∀ z ∈ Z, kd z.1 = 1 ∧ it z.1 = z.2.1 ∧ xI σ z.1 = z.2.2.1 ∧ (z.2.2.1 = true → xM σ z.1 = z.2.2.2.1)
def plS (l : List En) : Nat := (l.map (fun e => plc e.1)).sum
def onP (j : Nat) (l : List En) : List En := l.filter (fun e => e.2.2.2 == j)
def rk (h pg : Nat) : Nat := if pg = 32 then 32 else (pg + 28 - 4 * h) % 32
def okD (d : Da) : Prop := 1 ≤ d.2.1 ∧ d.2.1 ≤ 12
def keyD (l : List En) : Prop := l.Pairwise (fun x y => x.2.1 = true → y.2.1 = true → x.1.1 ≠ y.1.1)
def LI (l : List En) (h : Nat) (np : Nat → Nat) (o : Nat) : Prop := (∀ e ∈ l, okD e.1 ∧ e.2.2.2 ≤ 32 ∧ (e.2.2.2 < 32 → e.2.2.2 % 4 < np (e.2.2.2 / 4))) ∧ (∀ j, j < 32 → plS (onP j l) ≤ 32) ∧ plS (onP 32 l) = o ∧ o ≤ 32 ∧ l.Pairwise (fun x y => rk h x.2.2.2 ≤ rk h y.2.2.2)
def PI (P : Nat → List Pe) : Prop := ∀ s, s < 64 → (∀ e ∈ P s, okD e.1 ∧ setN e.1.1 = s) ∧ ((P s).map (fun e => plc e.1)).sum ≤ 32 ∧ (P s).Pairwise (fun x y => x.1.1 ≠ y.1.1)
def Inv (S : SS) : Prop := LI (sL S) (sH S) (sN S) (sO S) ∧ keyD (sL S) ∧ PI (sP S) ∧ sH S < 8 ∧ (∀ j, sN S j ≤ 4) ∧ sN S (sH S) ≤ 3
/-- what both sides hold beside the log's rows -/
def RB (ad kd : Nat → Nat) (it : Nat → Da) (σ : CS) (S : SS) : Prop :=
  (∀ s, s < 64 → ∃ bs : List Nat, xR σ (ad (11 + s)) = bs.map some ∧ bs.map (fun b => (it b, xM σ b)) = sP S s ∧ ∀ b ∈ bs, kd b = 1 ∧ xI σ b = false) ∧
  (∀ s, s < 64 → xF σ s = filS (sP S s)) ∧ xV σ = livS S ∧ xS σ = nI (sumP S 64) ∧ xT σ = sC S ∧ xH σ = sH S ∧ (∀ j, j < 8 → xW σ j = sN S j) ∧ xC σ = sX S ∧ xQ σ = sG S
/-- the log's rows -/
def RZ (σ : CS) (Z : List ZE) : Prop := (∀ j, j < 32 → xR σ (xG σ j) = rowOf Z j) ∧ xR σ (xO σ) = rowOf Z 32
def Rel (ad kd : Nat → Nat) (it : Nat → Da) (σ : CS) (S : SS) : Prop := ∃ Z : List ZE, Z.map Prod.snd = sL S ∧ (Z.map Prod.fst).Nodup ∧ ZOk kd it σ Z ∧ RZ σ Z ∧ RB ad kd it σ S ∧ xR σ (ad 10) = []
theorem plS_nil : plS [] = 0 := rfl
theorem plS_cons (e : En) (l : List En) : plS (e :: l) = plc e.1 + plS l := by simp [plS]
theorem plS_app (l m : List En) : plS (l ++ m) = plS l + plS m := by simp [plS]
theorem plc_ge {d : Da} (h : okD d) : 4 ≤ plc d := by unfold plc; have := h.1; omega
theorem plc_le {d : Da} (h : okD d) : plc d ≤ 15 := by unfold plc; have := h.2; omega
theorem plS_len {l : List En} (h : ∀ e ∈ l, okD e.1) : 4 * l.length ≤ plS l := by
  induction l with
  | nil => simp [plS]
  | cons e l ih =>
    rw [plS_cons, List.length_cons]
    have := ih (fun x hx => h x (List.mem_cons_of_mem _ hx))
    have := plc_ge (h e List.mem_cons_self)
    omega
theorem plS_filter_le (l : List En) (q : En → Bool) : plS (l.filter q) ≤ plS l := by
  induction l with
  | nil => simp
  | cons e l ih =>
    rw [List.filter_cons]
    split
    · rw [plS_cons, plS_cons]; omega
    · rw [plS_cons]; omega
theorem row_snd (Z : List ZE) (j : Nat) : (Z.filter (fun z => z.2.2.2.2 == j)).map Prod.snd = onP j (Z.map Prod.snd) := by
  unfold onP
  rw [List.filter_map]
  rfl
theorem plR_row {kd : Nat → Nat} {it : Nat → Da} {σ : CS} {Z : List ZE} (h : ZOk kd it σ Z) (j : Nat) : plR it (rowOf Z j) = plS (onP j (Z.map Prod.snd)) := by
  rw [← row_snd]
  unfold plR rowOf plS
  rw [List.map_map, List.map_map]
  congr 1
  refine List.map_congr_left fun z hz => ?_
  have h1 := h z (List.mem_filter.mp hz).1
  show plc (it z.1) = plc z.2.1
  rw [h1.2.1]
theorem row_len (Z : List ZE) (j : Nat) : (rowOf Z j).length = (onP j (Z.map Prod.snd)).length := by
  rw [← row_snd]
  unfold rowOf
  rw [List.length_map, List.length_map]
theorem row_mem {Z : List ZE} {j a : Nat} : some a ∈ rowOf Z j ↔ ∃ z ∈ Z, z.1 = a ∧ z.2.2.2.2 = j := by
  unfold rowOf
  rw [List.mem_map]
  constructor
  · rintro ⟨z, hz, e⟩
    obtain ⟨h1, h2⟩ := List.mem_filter.mp hz
    exact ⟨z, h1, Option.some.inj e, by simpa using h2⟩
  · rintro ⟨z, hz, e, hj⟩
    exact ⟨z, List.mem_filter.mpr ⟨hz, by simpa using hj⟩, by rw [e]⟩
theorem rowOf_map {Z : List ZE} {g : ZE → ZE} (hg : ∀ z ∈ Z, (g z).1 = z.1 ∧ (g z).2.2.2.2 = z.2.2.2.2) (j : Nat) : rowOf (Z.map g) j = rowOf Z j := by
  unfold rowOf
  rw [List.filter_map, List.map_map]
  have h1 : Z.filter ((fun z : ZE => z.2.2.2.2 == j) ∘ g) = Z.filter (fun z => z.2.2.2.2 == j) := List.filter_congr fun z hz => by
    show ((g z).2.2.2.2 == j) = _
    rw [(hg z hz).2]
  rw [h1]
  refine List.map_congr_left fun z hz => ?_
  show some (g z).1 = some z.1
  rw [(hg z (List.mem_filter.mp hz).1).1]
theorem onP_map {l : List En} {g : En → En} (hg : ∀ e ∈ l, (g e).2.2.2 = e.2.2.2) (j : Nat) : onP j (l.map g) = (onP j l).map g := by
  unfold onP
  rw [List.filter_map]
  congr 1
  exact List.filter_congr fun e he => by show ((g e).2.2.2 == j) = _; rw [hg e he]
theorem plS_map {l : List En} {g : En → En} (hg : ∀ e ∈ l, (g e).1 = e.1) : plS (l.map g) = plS l := by
  unfold plS
  rw [List.map_map]
  congr 1
  exact List.map_congr_left fun e he => by show plc (g e).1 = plc e.1; rw [hg e he]
/-- a change that leaves data and page of each entry keeps the list's invariant -/
theorem LI.map {l : List En} {h : Nat} {np : Nat → Nat} {o : Nat} (hl : LI l h np o) {g : En → En} (hg : ∀ e ∈ l, (g e).1 = e.1 ∧ (g e).2.2.2 = e.2.2.2) : LI (l.map g) h np o := by
  obtain ⟨h1, h2, h3, h4, h5⟩ := hl
  have hp : ∀ j, plS (onP j (l.map g)) = plS (onP j l) := fun j => by
    rw [onP_map (fun e he => (hg e he).2), plS_map (l := onP j l) (fun e he => (hg e (List.mem_filter.mp he).1).1)]
  refine ⟨fun e he => ?_, fun j hj => by rw [hp]; exact h2 j hj, by rw [hp]; exact h3, h4, ?_⟩
  · obtain ⟨x, hx, rfl⟩ := List.mem_map.mp he
    rw [(hg x hx).1, (hg x hx).2]
    exact h1 x hx
  · rw [List.pairwise_map]
    refine h5.imp_of_mem fun ha hb hab => ?_
    rw [(hg _ ha).2, (hg _ hb).2]
    exact hab
theorem keyD.map {l : List En} (h : keyD l) {g : En → En} (hg : ∀ e ∈ l, (g e).1 = e.1 ∧ ((g e).2.1 = true → e.2.1 = true)) : keyD (l.map g) := by
  unfold keyD at *
  rw [List.pairwise_map]
  refine h.imp_of_mem fun ha hb hab h1 h2 => ?_
  rw [(hg _ ha).1, (hg _ hb).1]
  exact hab ((hg _ ha).2 h1) ((hg _ hb).2 h2)
theorem keyD.uniq {l : List En} (h : keyD l) {i j : Nat} {x y : En} (hx : l[i]? = some x) (hy : l[j]? = some y) (ax : x.2.1 = true) (ay : y.2.1 = true) (hk : x.1.1 = y.1.1) : i = j := by
  obtain ⟨hi, e1⟩ := List.getElem?_eq_some_iff.mp hx
  obtain ⟨hj, e2⟩ := List.getElem?_eq_some_iff.mp hy
  have hp := List.pairwise_iff_getElem.mp h
  rcases Nat.lt_trichotomy i j with hlt | heq | hgt
  · exact absurd hk (by have := hp i j hi hj hlt; rw [e1, e2] at this; exact this ax ay)
  · exact heq
  · exact absurd hk.symm (by have := hp j i hj hi hgt; rw [e1, e2] at this; exact this ay ax)
theorem lastIx_none {l : List En} {key : Int64} : ∀ {n : Nat}, lastIx l key n = none → ∀ k, k < n → ∀ e, l[k]? = some e → ¬ (e.2.1 = true ∧ e.1.1 = key) := by
  intro n
  induction n with
  | zero => intro _ k hk; omega
  | succ n ih =>
    intro h k hk e he
    simp only [lastIx] at h
    split at h
    · next e0 h0 =>
      split at h
      · cases h
      · next hn =>
        rcases Nat.lt_or_ge k n with hkn | hkn
        · exact ih h k hkn e he
        · have : k = n := by omega
          subst this
          rw [h0] at he
          cases he
          exact hn
    · next h0 =>
      rcases Nat.lt_or_ge k n with hkn | hkn
      · exact ih h k hkn e he
      · have : k = n := by omega
        subst this
        rw [h0] at he
        cases he
theorem lastIx_some {l : List En} {key : Int64} (hd : keyD l) {k : Nat} {e : En} (he : l[k]? = some e) (ha : e.2.1 = true) (hk : e.1.1 = key) : lastIx l key l.length = some k := by
  cases h : lastIx l key l.length with
  | none => exact absurd ⟨ha, hk⟩ (lastIx_none h k (List.getElem?_eq_some_iff.mp he).1 e he)
  | some q =>
    obtain ⟨e2, h1, h2, h3⟩ := lastIx_at h
    rw [hd.uniq he h1 ha h2 (hk.trans h3.symm)]
/-! find -/
theorem liveF_none {it : Nat → Da} {σ : CS} {r : Nat} {key : Int64} (h : liveF it σ r key = none) : ∀ a, some a ∈ xR σ r → ¬ ((it a).1 = key ∧ xI σ a = true) := by
  intro a ha hl
  unfold liveF at h
  cases hf : (xR σ r).find? (liveIs it (xI σ) key) with
  | none =>
    have := List.find?_eq_none.mp hf (some a) ha
    simp [liveIs, hl.1, hl.2] at this
  | some o =>
    rw [hf] at h
    have h1 := List.find?_some hf
    have h2 : o = none := h
    subst h2
    simp [liveIs] at h1
theorem findL_none {it : Nat → Da} {σ : CS} {key : Int64} : ∀ (n i : Nat) (o : Option Nat), findL it σ key n i o = none → o = none ∧ ∀ j, i ≤ j → j < i + n → liveF it σ (xG σ j) key = none := by
  intro n
  induction n with
  | zero => intro i o h; exact ⟨h, fun j h1 h2 => by omega⟩
  | succ n ih =>
    intro i o h
    cases o with
    | some a => cases h
    | none =>
      obtain ⟨h1, h2⟩ := ih (i + 1) _ h
      refine ⟨rfl, fun j hj1 hj2 => ?_⟩
      rcases Nat.lt_or_ge i j with hij | hij
      · exact h2 j hij (by omega)
      · have : j = i := by omega
        subst this
        exact h1
theorem findL_mem {it : Nat → Da} {σ : CS} {key : Int64} : ∀ (n i : Nat) (o : Option Nat) (a : Nat), i + n ≤ 32 → findL it σ key n i o = some a → o = some a ∨ ∃ j, j < 32 ∧ liveF it σ (xG σ j) key = some a := by
  intro n
  induction n with
  | zero => intro i o a _ h; exact Or.inl h
  | succ n ih =>
    intro i o a hi h
    cases o with
    | some b => exact Or.inl h
    | none =>
      rcases ih (i + 1) _ a (by omega) h with h1 | h1
      · exact Or.inr ⟨i, by omega, h1⟩
      · exact Or.inr h1
theorem findC_some {kd : Nat → Nat} {it : Nat → Da} {σ : CS} {Z : List ZE} (hz : ZOk kd it σ Z) (hr : RZ σ Z) {key : Int64} {a : Nat} (h : findC it σ key = some a) : ∃ z ∈ Z, z.1 = a ∧ z.2.1.1 = key ∧ z.2.2.1 = true := by
  have main : ∀ r j, xR σ r = rowOf Z j → liveF it σ r key = some a → ∃ z ∈ Z, z.1 = a ∧ z.2.1.1 = key ∧ z.2.2.1 = true := by
    intro r j hrow hl
    obtain ⟨h1, h2, h3⟩ := liveF_mem hl
    rw [hrow] at h1
    obtain ⟨z, hz1, hz2, -⟩ := row_mem.mp h1
    obtain ⟨k1, k2, k3, k4⟩ := hz z hz1
    subst hz2
    exact ⟨z, hz1, rfl, by rw [← k2]; exact h2, by rw [← k3]; exact h3⟩
  rcases findL_mem 32 0 _ a (by omega) h with h1 | ⟨j, hj, h1⟩
  · exact main _ 32 hr.2 h1
  · exact main _ j (hr.1 j hj) h1
theorem findC_none {kd : Nat → Nat} {it : Nat → Da} {σ : CS} {Z : List ZE} (hz : ZOk kd it σ Z) (hr : RZ σ Z) (hp : ∀ z ∈ Z, z.2.2.2.2 ≤ 32) {key : Int64} (h : findC it σ key = none) : ∀ z ∈ Z, ¬ (z.2.1.1 = key ∧ z.2.2.1 = true) := by
  obtain ⟨h1, h2⟩ := findL_none 32 0 _ h
  intro z hzm hl
  obtain ⟨k1, k2, k3, k4⟩ := hz z hzm
  have hrow : some z.1 ∈ rowOf Z z.2.2.2.2 := row_mem.mpr ⟨z, hzm, rfl, rfl⟩
  have hl2 : (it z.1).1 = key ∧ xI σ z.1 = true := ⟨by rw [k2]; exact hl.1, by rw [k3]; exact hl.2⟩
  rcases Nat.lt_or_ge z.2.2.2.2 32 with hj | hj
  · exact liveF_none (h2 _ (Nat.zero_le _) (by omega)) z.1 (by rw [hr.1 _ hj]; exact hrow) hl2
  · have : z.2.2.2.2 = 32 := by have := hp z hzm; omega
    rw [this] at hrow
    exact liveF_none h1 z.1 (by rw [hr.2]; exact hrow) hl2
theorem Z_nth {Z : List ZE} {l : List En} (h : Z.map Prod.snd = l) {k : Nat} {e : En} (he : l[k]? = some e) : ∃ a, Z[k]? = some (a, e) := by
  rw [← h, List.getElem?_map] at he
  obtain ⟨z, hz, rfl⟩ := Option.map_eq_some_iff.mp he
  exact ⟨z.1, hz⟩
/-- both sides find the same -/
theorem find_rel {kd : Nat → Nat} {it : Nat → Da} {σ : CS} {S : SS} {Z : List ZE} (hs : Z.map Prod.snd = sL S) (hz : ZOk kd it σ Z) (hr : RZ σ Z) (hi : Inv S) (key : Int64) : (findC it σ key = none ∧ lastIx (sL S) key (sL S).length = none) ∨ ∃ a k e, findC it σ key = some a ∧ lastIx (sL S) key (sL S).length = some k ∧ Z[k]? = some (a, e) ∧ e.2.1 = true ∧ e.1.1 = key := by
  have hp : ∀ z ∈ Z, z.2.2.2.2 ≤ 32 := fun z hz1 => (hi.1.1 z.2 (by rw [← hs]; exact List.mem_map_of_mem hz1)).2.1
  cases hf : findC it σ key with
  | none =>
    left
    refine ⟨rfl, ?_⟩
    cases hl : lastIx (sL S) key (sL S).length with
    | none => rfl
    | some k =>
      obtain ⟨e, h1, h2, h3⟩ := lastIx_at hl
      obtain ⟨a, ha⟩ := Z_nth hs h1
      exact absurd ⟨h3, h2⟩ (findC_none hz hr hp hf (a, e) (List.mem_of_getElem? ha))
  | some a =>
    right
    obtain ⟨z, hzm, h1, h2, h3⟩ := findC_some hz hr hf
    obtain ⟨k, hk⟩ := List.getElem?_of_mem hzm
    have hsk : (sL S)[k]? = some z.2 := by rw [← hs, List.getElem?_map, hk]; rfl
    exact ⟨a, k, z.2, rfl, lastIx_some hi.2.1 hsk h3 h2, by rw [hk, ← h1], h3, h2⟩
