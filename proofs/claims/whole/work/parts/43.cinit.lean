theorem arrV_ext (cI : ClassId) {N : Nat} {f g : Nat → Value} (h : ∀ j, j < N → f j = g j) : arrV cI N f = arrV cI N g := by
  unfold arrV
  have : (fun j : Fin N => f j.val) = fun j : Fin N => g j.val := funext fun j => h j.val j.isLt
  rw [this]
def CeE (x y : Ce) : Prop := x = y ∨ ∃ t N f g, x = .inl (t, N, f) ∧ y = .inl (t, N, g) ∧ ∀ j, j < N → f j = g j
theorem ce_ext {G : Gd} {a : Nat} {x y : Ce} {H : Heap} (h : CeE x y) (hx : ce_at G a x H) : ce_at G a y H := by
  rcases h with rfl | ⟨t, N, f, g, rfl, rfl, hfg⟩
  · exact hx
  · show H[a]? = some (arrV (G.2 t) N g)
    rw [← arrV_ext _ hfg]
    exact hx
theorem Hd.ext {G : Gd} {A : Nat → Prop} {w w2 : Wd} {H : Heap} (h : Hd G A w H) (hs : ∀ a y, w2 a = some y → ∃ x, w a = some x ∧ CeE x y) : Hd G A w2 H := ⟨fun a y hy => by
  obtain ⟨x, hx, he⟩ := hs a y hy
  exact ⟨ce_ext he (h.1 a x hx).1, (h.1 a x hx).2⟩, h.2⟩
def kdL (rs : Rs) (ad : Nat → Nat) (a : Nat) : Nat := if a ∈ rs.map (fun y => y.1) then 2 else if a ∈ rs.map (fun y => y.2.1) then 3 else match (List.range 8).find? (fun j => ad j == a) with
  | some j => 4 + j
  | none => 0
def arL (rs : Rs) (a : Nat) : Nat := ((rs.find? (fun y => y.1 == a)).map (fun y => y.2.1)).getD 0
def capL (rs : Rs) (a : Nat) : Nat := ((rs.find? (fun y => y.1 == a)).map (fun y => y.2.2)).getD 0
def owL (rs : Rs) (a : Nat) : Nat := ((rs.find? (fun y => y.2.1 == a)).map (fun y => y.1)).getD 0
theorem nd_inj {α : Type} {β : Type} {f : α → β} {rs : List α} (h : (rs.map f).Nodup) {y z : α} (hy : y ∈ rs) (hz : z ∈ rs) (he : f y = f z) : y = z := by
  obtain ⟨i, hi, e1⟩ := List.getElem_of_mem hy
  obtain ⟨j, hj, e2⟩ := List.getElem_of_mem hz
  have e3 : (rs.map f)[i]'(by simpa using hi) = (rs.map f)[j]'(by simpa using hj) := by simp [e1, e2, he]
  have e4 : i = j := (List.getElem_inj h).mp e3
  subst e4
  rw [← e1, ← e2]
theorem find_row {rs : Rs} (h : (rs.map (fun y => y.1)).Nodup) {y : Nat × Nat × Nat} (hy : y ∈ rs) : rs.find? (fun z => z.1 == y.1) = some y := by
  cases hf : rs.find? (fun z => z.1 == y.1) with
  | none => have := List.find?_eq_none.mp hf y hy; simp at this
  | some z =>
    have h1 := List.find?_some hf
    have h2 := List.mem_of_find?_eq_some hf
    rw [nd_inj h h2 hy (by simpa using h1)]
theorem find_arr {rs : Rs} (h : (rs.map (fun y => y.2.1)).Nodup) {y : Nat × Nat × Nat} (hy : y ∈ rs) : rs.find? (fun z => z.2.1 == y.2.1) = some y := by
  cases hf : rs.find? (fun z => z.2.1 == y.2.1) with
  | none => have := List.find?_eq_none.mp hf y hy; simp at this
  | some z =>
    have h1 := List.find?_some hf
    have h2 := List.mem_of_find?_eq_some hf
    rw [nd_inj h h2 hy (by simpa using h1)]
def tgC (x : Ce) : Nat := match x with
  | .inl (t, N, _) => 1000 * (t + 1) + N
  | .inr (c, _) => c
def tg8 (j : Nat) : Nat := [4, 3, 1, 1012, 5064, 2064, 5032, 1008].getD j 0
def ixR (j : Nat) : Nat := if j = 8 then 64 else if j = 9 then 99 else if j = 10 then 98 else j - 11
theorem ixR_ad (s : Nat) : ixR (11 + s) = s := by
  unfold ixR
  rw [if_neg (by omega), if_neg (by omega), if_neg (by omega)]
  omega
/-- the layout of what the constructor has made -/
def LAy (w : Wd) (rs : Rs) (ad : Nat → Nat) : Prop := RO rs w ∧ rs.length = 100 ∧ (∀ y ∈ rs, y.2.2 ≤ 900) ∧ (∀ j, j < 8 → ∃ x, w (ad j) = some x ∧ tgC x = tg8 j) ∧ ∀ j, 8 ≤ j → j < 75 → ad j = rwA rs (ixR j)
section LAYS
variable {w : Wd} {rs : Rs} {ad : Nat → Nat}
theorem RO.rows (h : RO rs w) : (rs.map (fun y => y.1)).Nodup := (List.nodup_append.mp h.1).1
theorem RO.arrs (h : RO rs w) : (rs.map (fun y => y.2.1)).Nodup := (List.nodup_append.mp h.1).2.1
theorem RO.dis (h : RO rs w) {y z : Nat × Nat × Nat} (hy : y ∈ rs) (hz : z ∈ rs) : y.1 ≠ z.2.1 := (List.nodup_append.mp h.1).2.2 _ (List.mem_map_of_mem hy) _ (List.mem_map_of_mem hz)
theorem rwA_mem {i : Nat} (h : i < rs.length) : rs[i] ∈ rs ∧ rwA rs i = rs[i].1 := by
  refine ⟨List.getElem_mem h, ?_⟩
  unfold rwA
  rw [List.getElem?_eq_getElem h]
  rfl
theorem rwA_inj (h : RO rs w) {i j : Nat} (hi : i < rs.length) (hj : j < rs.length) (he : rwA rs i = rwA rs j) : i = j := by
  rw [(rwA_mem hi).2, (rwA_mem hj).2] at he
  have h2 : (rs.map (fun y => y.1))[i]'(by simpa using hi) = (rs.map (fun y => y.1))[j]'(by simpa using hj) := by simpa using he
  exact (List.getElem_inj h.rows).mp h2
theorem tg8_ne {j : Nat} (hj : j < 8) : tg8 j ≠ 2 ∧ ∀ b, b ≤ 900 → tg8 j ≠ 4000 + b := by
  have : j = 0 ∨ j = 1 ∨ j = 2 ∨ j = 3 ∨ j = 4 ∨ j = 5 ∨ j = 6 ∨ j = 7 := by omega
  rcases this with rfl | rfl | rfl | rfl | rfl | rfl | rfl | rfl <;> refine ⟨by decide, fun b hb => ?_⟩ <;> simp [tg8] <;> omega
theorem tg8_inj : ∀ i, i < 8 → ∀ j, j < 8 → tg8 i = tg8 j → i = j := by decide
theorem LAy.sp (h : LAy w rs ad) {j : Nat} (hj : j < 8) : ad j ∉ rs.map (fun y => y.1) ∧ ad j ∉ rs.map (fun y => y.2.1) := by
  obtain ⟨x, hx, ht⟩ := h.2.2.2.1 j hj
  obtain ⟨k1, k2⟩ := tg8_ne hj
  refine ⟨fun z => ?_, fun z => ?_⟩
  · obtain ⟨y, hy, e⟩ := List.mem_map.mp z
    have h1 := (h.1.2 y hy).1
    rw [e, hx] at h1
    cases h1
    exact k1 ht.symm
  · obtain ⟨y, hy, e⟩ := List.mem_map.mp z
    have h1 := (h.1.2 y hy).2
    rw [e, hx] at h1
    cases h1
    exact k2 y.2.2 (h.2.2.1 y hy) ht.symm
theorem LAy.i8 (h : LAy w rs ad) {i j : Nat} (hi : i < 8) (hj : j < 8) (he : ad i = ad j) : i = j := by
  obtain ⟨x, hx, ht⟩ := h.2.2.2.1 i hi
  obtain ⟨y, hy, hu⟩ := h.2.2.2.1 j hj
  rw [he, hy] at hx
  cases hx
  exact tg8_inj i hi j hj (ht.symm.trans hu)
theorem LAy.kd8 (h : LAy w rs ad) {j : Nat} (hj : j < 8) (a : Nat) : kdL rs ad a = 4 + j ↔ a = ad j := by
  constructor
  · intro hk
    unfold kdL at hk
    split at hk
    · omega
    · split at hk
      · omega
      · split at hk
        · next i hf =>
          have h1 := List.find?_some hf
          have : i = j := by omega
          subst this
          exact (by simpa using h1 : ad i = a).symm
        · omega
  · rintro rfl
    unfold kdL
    rw [if_neg (h.sp hj).1, if_neg (h.sp hj).2]
    cases hf : (List.range 8).find? (fun i => ad i == ad j) with
    | none => have := List.find?_eq_none.mp hf j (List.mem_range.mpr hj); simp at this
    | some i =>
      have h1 := List.find?_some hf
      have h2 := List.mem_of_find?_eq_some hf
      have : i = j := h.i8 (List.mem_range.mp h2) hj (by simpa using h1)
      rw [this]
theorem LAy.kd2 {a : Nat} : kdL rs ad a = 2 ↔ a ∈ rs.map (fun y => y.1) := by
  constructor
  · intro hk
    unfold kdL at hk
    split at hk
    · assumption
    · split at hk
      · omega
      · split at hk
        · omega
        · omega
  · intro hm
    unfold kdL
    rw [if_pos hm]
theorem LAy.kd3 (h : LAy w rs ad) {a : Nat} : kdL rs ad a = 3 ↔ a ∈ rs.map (fun y => y.2.1) := by
  constructor
  · intro hk
    unfold kdL at hk
    split at hk
    · omega
    · split at hk
      · assumption
      · split at hk
        · omega
        · omega
  · intro hm
    unfold kdL
    rw [if_neg (fun z => by
      obtain ⟨y, hy, e1⟩ := List.mem_map.mp hm
      obtain ⟨z, hz, e2⟩ := List.mem_map.mp z
      exact h.1.dis hz hy (e2.trans e1.symm)), if_pos hm]
theorem LAy.ix {j : Nat} (h8 : 8 ≤ j) (hj : j < 75) : ixR j < 100 := by
  unfold ixR
  split
  · omega
  · split
    · omega
    · split
      · omega
      · omega
theorem LAy.cst (h : LAy w rs ad) : CSt ad (arL rs) (owL rs) (capL rs) (kdL rs ad) := by
  have hrow : ∀ j, 8 ≤ j → j < 75 → ad j ∈ rs.map (fun y => y.1) := fun j h8 hj => by
    obtain ⟨k1, k2⟩ := rwA_mem (rs := rs) (i := ixR j) (by rw [h.2.1]; exact LAy.ix h8 hj)
    rw [h.2.2.2.2 j h8 hj, k2]
    exact List.mem_map_of_mem k1
  refine ⟨fun j hj a => h.kd8 hj a, fun j h8 hj => LAy.kd2.mpr (hrow j h8 hj), fun r hr => ?_, fun a ha => ?_, fun i j hi hj he => ?_⟩
  · obtain ⟨y, hy, rfl⟩ := List.mem_map.mp (LAy.kd2.mp hr)
    have ea : arL rs y.1 = y.2.1 := by unfold arL; rw [find_row h.1.rows hy]; rfl
    have ec : capL rs y.1 = y.2.2 := by unfold capL; rw [find_row h.1.rows hy]; rfl
    have eo : owL rs y.2.1 = y.1 := by unfold owL; rw [find_arr h.1.arrs hy]; rfl
    rw [ea, ec]
    exact ⟨h.kd3.mpr (List.mem_map_of_mem hy), eo, Nat.le_trans (h.2.2.1 y hy) (by decide)⟩
  · obtain ⟨y, hy, rfl⟩ := List.mem_map.mp (h.kd3.mp ha)
    have ea : arL rs y.1 = y.2.1 := by unfold arL; rw [find_row h.1.rows hy]; rfl
    have eo : owL rs y.2.1 = y.1 := by unfold owL; rw [find_arr h.1.arrs hy]; rfl
    rw [eo, ea]
    exact ⟨LAy.kd2.mpr (List.mem_map_of_mem hy), rfl⟩
  · by_cases h8 : i < 8
    · by_cases g8 : j < 8
      · exact h.i8 h8 g8 he
      · exact absurd (he ▸ hrow j (by omega) hj) (h.sp h8).1
    · by_cases g8 : j < 8
      · exact absurd (he.symm ▸ hrow i (by omega) hi) (h.sp g8).1
      · rw [h.2.2.2.2 i (by omega) hi, h.2.2.2.2 j (by omega) hj] at he
        have e2 := rwA_inj h.1 (by rw [h.2.1]; exact LAy.ix (by omega) hi) (by rw [h.2.1]; exact LAy.ix (by omega) hj) he
        unfold ixR at e2
        (repeat' split at e2) <;> omega
end LAYS
