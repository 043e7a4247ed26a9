theorem filt_split {α : Type} (r : α → Nat) (n : Nat) : ∀ {l : List α}, l.Pairwise (fun x y => r x ≤ r y) → l.filter (fun x => decide (r x < n + 1)) = l.filter (fun x => decide (r x < n)) ++ l.filter (fun x => r x == n) := by
  intro l
  induction l with
  | nil => intro _; rfl
  | cons x l ih =>
    intro hs
    obtain ⟨h1, h2⟩ := List.pairwise_cons.mp hs
    have ih2 := ih h2
    rcases Nat.lt_trichotomy (r x) n with hx | hx | hx
    · rw [List.filter_cons_of_pos (by simp; omega), List.filter_cons_of_pos (by simpa using hx), List.filter_cons_of_neg (by simp; omega), ih2]
      rfl
    · have hn : l.filter (fun x => decide (r x < n)) = [] := List.filter_eq_nil_iff.mpr fun y hy => by have := h1 y hy; simp; omega
      rw [List.filter_cons_of_pos (by simp; omega), List.filter_cons_of_neg (by simp; omega), List.filter_cons_of_pos (by simp; omega), ih2, hn]
      rfl
    · have hn : ∀ m, m ≤ n + 1 → (x :: l).filter (fun x => decide (r x < m)) = [] := fun m hm => List.filter_eq_nil_iff.mpr fun y hy => by
        rcases List.mem_cons.mp hy with rfl | hy
        · simp; omega
        · have := h1 y hy; simp; omega
      have hn2 : (x :: l).filter (fun x => r x == n) = [] := List.filter_eq_nil_iff.mpr fun y hy => by
        rcases List.mem_cons.mp hy with rfl | hy
        · simp; omega
        · have := h1 y hy; simp; omega
      rw [hn _ (Nat.le_refl _), hn n (by omega), hn2]
      rfl
theorem rk_pg {h pg n : Nat} (hh : h < 8) (hp : pg ≤ 32) (hn : n < 32) : (pg == (4 * (h + 1) + n) % 32) = (rk h pg == n) := by
  unfold rk
  by_cases h32 : pg = 32
  · rw [if_pos h32]
    have e1 : (pg == (4 * (h + 1) + n) % 32) = false := by simp; omega
    have e2 : ((32 : Nat) == n) = false := by simp; omega
    rw [e1, e2]
  · rw [if_neg h32]
    by_cases he : pg = (4 * (h + 1) + n) % 32
    · have e1 : (pg == (4 * (h + 1) + n) % 32) = true := by simpa using he
      have e2 : ((pg + 28 - 4 * h) % 32 == n) = true := by simp; omega
      rw [e1, e2]
    · have e1 : (pg == (4 * (h + 1) + n) % 32) = false := by simpa using he
      have e2 : ((pg + 28 - 4 * h) % 32 == n) = false := by simp; omega
      rw [e1, e2]
theorem rk_32 {h pg : Nat} (hp : pg ≤ 32) : (pg == 32) = (rk h pg == 32) := by
  unfold rk
  by_cases h32 : pg = 32
  · rw [if_pos h32]; subst h32; rfl
  · rw [if_neg h32]
    have e1 : (pg == 32) = false := by simpa using h32
    have e2 : ((pg + 28 - 4 * h) % 32 == 32) = false := by simp; omega
    rw [e1, e2]
theorem ringL_Z {σ : CS} {ZR : List ZE} (hr : RZ σ ZR) (hp : ∀ z ∈ ZR, z.2.2.2.2 ≤ 32) (hh : xH σ < 8) (hs : ZR.Pairwise (fun x y => rk (xH σ) x.2.2.2.2 ≤ rk (xH σ) y.2.2.2.2)) (q : Option Nat → Bool) : ∀ n, n ≤ 32 → ringL σ q n = ((ZR.filter (fun z => decide (rk (xH σ) z.2.2.2.2 < n))).map (fun z => some z.1)).filter q := by
  intro n
  induction n with
  | zero =>
    intro _
    have : ZR.filter (fun z => decide (rk (xH σ) z.2.2.2.2 < 0)) = [] := List.filter_eq_nil_iff.mpr fun y hy => by simp
    rw [this]
    rfl
  | succ n ih =>
    intro hn
    show ringL σ q n ++ (xR σ (xG σ ((4 * (xH σ + 1) + n) % 32))).filter q = _
    rw [ih (by omega), hr.1 _ (Nat.mod_lt _ (by decide)), filt_split (fun z : ZE => rk (xH σ) z.2.2.2.2) n hs, List.map_append, List.filter_append]
    congr 1
    unfold rowOf
    rw [List.filter_congr (l := ZR) (p := fun z => z.2.2.2.2 == (4 * (xH σ + 1) + n) % 32) (q := fun z => rk (xH σ) z.2.2.2.2 == n) (fun z hz => rk_pg hh (hp z hz) (by omega))]
theorem ring_all {σ : CS} {ZR : List ZE} (hr : RZ σ ZR) (hp : ∀ z ∈ ZR, z.2.2.2.2 ≤ 32) (hh : xH σ < 8) (hs : ZR.Pairwise (fun x y => rk (xH σ) x.2.2.2.2 ≤ rk (xH σ) y.2.2.2.2)) (q : Option Nat → Bool) : ringL σ q 32 ++ (xR σ (xO σ)).filter q = (ZR.map (fun z => some z.1)).filter q := by
  have hall : ZR.filter (fun z => decide (rk (xH σ) z.2.2.2.2 < 32 + 1)) = ZR := List.filter_eq_self.mpr fun z hz => by
    have := hp z hz
    unfold rk
    split
    · simp
    · simp; omega
  rw [ringL_Z hr hp hh hs q 32 (Nat.le_refl _), hr.2]
  have h2 := filt_split (fun z : ZE => rk (xH σ) z.2.2.2.2) 32 hs
  rw [hall] at h2
  have h3 : rowOf ZR 32 = (ZR.filter (fun z => rk (xH σ) z.2.2.2.2 == 32)).map (fun z => some z.1) := by
    unfold rowOf
    rw [List.filter_congr (l := ZR) (p := fun z => z.2.2.2.2 == 32) (q := fun z => rk (xH σ) z.2.2.2.2 == 32) (fun z hz => rk_32 (hp z hz))]
  rw [h3, ← List.filter_append, ← List.map_append, ← h2]
theorem sel_Z {kd : Nat → Nat} {it : Nat → Da} {σ : CS} {Z : List ZE} (hz : ZOk kd it σ Z) (s : Nat) : (Z.map (fun z => some z.1)).filter (selO it (xI σ) s) = (Z.filter (fun z => inSet s z.2)).map (fun z => some z.1) := by
  rw [List.filter_map]
  congr 1
  refine List.filter_congr fun z hzm => ?_
  obtain ⟨-, k2, k3, -⟩ := hz z hzm
  show (xI σ z.1 && setN (it z.1).1 == s) = (z.2.2.1 && setN z.2.1.1 == s)
  rw [k2, k3]
theorem adds_id {cp : Nat} : ∀ (ys xs : List (Option Nat)), xs.length + ys.length ≤ cp → addsR cp xs ys = xs ++ ys := by
  intro ys
  induction ys with
  | nil => intro xs _; simp [addsR]
  | cons y ys ih =>
    intro xs h
    rw [List.length_cons] at h
    have h1 : addsR cp xs (y :: ys) = addsR cp (addR cp xs y) ys := rfl
    have h2 : addR cp xs y = xs ++ [y] := if_pos (by omega)
    rw [h1, h2, ih _ (by rw [List.length_append, List.length_singleton]; omega), List.append_assoc]
    rfl
/-- how many entries there are -/
theorem len_lab {l : List En} : ∀ (n : Nat), (∀ e ∈ l, e.2.2.2 < n) → (∀ j, j < n → (onP j l).length ≤ 8) → l.length ≤ 8 * n := by
  have main : ∀ (n : Nat) (l : List En), (∀ j, j < n → (onP j l).length ≤ 8) → (l.filter (fun e => decide (e.2.2.2 < n))).length ≤ 8 * n := by
    intro n l hj
    induction n with
    | zero =>
      have : l.filter (fun e => decide (e.2.2.2 < 0)) = [] := List.filter_eq_nil_iff.mpr fun y hy => by simp
      rw [this]
      simp
    | succ n ih =>
      have h1 := ih (fun j hjn => hj j (by omega))
      have h2 := hj n (by omega)
      have h3 : ∀ l : List En, (l.filter (fun e => decide (e.2.2.2 < n + 1))).length = (l.filter (fun e => decide (e.2.2.2 < n))).length + (onP n l).length := by
        intro l
        induction l with
        | nil => rfl
        | cons e l ih2 =>
          unfold onP at *
          rcases Nat.lt_trichotomy e.2.2.2 n with hx | hx | hx
          · rw [List.filter_cons_of_pos (by simp; omega), List.filter_cons_of_pos (by simpa using hx), List.filter_cons_of_neg (by simp; omega), List.length_cons, List.length_cons, ih2]
            omega
          · rw [List.filter_cons_of_pos (by simp; omega), List.filter_cons_of_neg (by simp; omega), List.filter_cons_of_pos (by simpa using hx), List.length_cons, List.length_cons, ih2]
            omega
          · rw [List.filter_cons_of_neg (by simp; omega), List.filter_cons_of_neg (by simp; omega), List.filter_cons_of_neg (by simp; omega), ih2]
      rw [h3]
      omega
  intro n h1 h2
  have h3 := main n l h2
  rwa [List.filter_eq_self.mpr (fun e he => by simpa using h1 e he)] at h3
theorem onP_len {l : List En} (h : ∀ e ∈ l, okD e.1) {j : Nat} (hp : plS (onP j l) ≤ 32) : (onP j l).length ≤ 8 := by
  have := plS_len (l := onP j l) (fun e he => h e (List.mem_filter.mp he).1)
  omega
theorem LI.len {l : List En} {h : Nat} {np : Nat → Nat} {o : Nat} (hl : LI l h np o) : l.length ≤ 264 := by
  obtain ⟨h1, h2, h3, h4, -⟩ := hl
  refine len_lab 33 (fun e he => by have := (h1 e he).2.1; omega) (fun j hj => onP_len (fun e he => (h1 e he).1) ?_)
  rcases Nat.lt_or_ge j 32 with hj2 | hj2
  · exact h2 j hj2
  · have : j = 32 := by omega
    subst this
    rw [h3]
    exact h4
