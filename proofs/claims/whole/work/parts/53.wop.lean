def relb (p : Nat) (e : En) : En := if e.2.2.2 = 32 then (e.1, e.2.1, e.2.2.1, p) else e
theorem wr0_relb (S : SS) : sL (wr0 S) = (sL S).map (relb (4 * sH S + sN S (sH S))) := rfl
theorem relb_1 (p : Nat) (e : En) : (relb p e).1 = e.1 ∧ (relb p e).2.1 = e.2.1 ∧ (relb p e).2.2.1 = e.2.2.1 := by
  unfold relb
  split <;> exact ⟨rfl, rfl, rfl⟩
theorem relb_32 {p : Nat} {e : En} (h : e.2.2.2 = 32) : (relb p e).2.2.2 = p := by
  unfold relb
  rw [if_pos h]
theorem relb_n {p : Nat} {e : En} (h : e.2.2.2 ≠ 32) : relb p e = e := if_neg h
def relz (p : Nat) (z : ZE) : ZE := (z.1, relb p z.2)
theorem relz_snd (p : Nat) (Z : List ZE) : (Z.map (relz p)).map Prod.snd = (Z.map Prod.snd).map (relb p) := by
  rw [List.map_map, List.map_map]
  rfl
theorem relz_fst (p : Nat) (Z : List ZE) : (Z.map (relz p)).map Prod.fst = Z.map Prod.fst := by
  rw [List.map_map]
  rfl
theorem row_relz {Z : List ZE} {p j : Nat} (hp : p < 32) (hno : ∀ z ∈ Z, z.2.2.2.2 ≠ p) (hj : j ≤ 32) : rowOf (Z.map (relz p)) j = if j = p then rowOf Z 32 else if j = 32 then [] else rowOf Z j := by
  unfold rowOf
  rw [List.filter_map, List.map_map]
  have hmap : ∀ q : ZE → Bool, (Z.filter q).map ((fun z : ZE => some z.1) ∘ relz p) = (Z.filter q).map (fun z => some z.1) := fun q => rfl
  rw [hmap]
  by_cases hjp : j = p
  · rw [if_pos hjp]
    rw [List.filter_congr (l := Z) (q := fun z => z.2.2.2.2 == 32) (fun z hz => by
      show ((relb p z.2).2.2.2 == j) = _
      by_cases h32 : z.2.2.2.2 = 32
      · rw [relb_32 h32, hjp, h32]; simp
      · rw [relb_n h32, hjp]
        have e1 : (z.2.2.2.2 == p) = false := by simpa using hno z hz
        have e2 : (z.2.2.2.2 == 32) = false := by simpa using h32
        exact e1.trans e2.symm)]
  · rw [if_neg hjp]
    by_cases hj32 : j = 32
    · rw [if_pos hj32]
      have : Z.filter ((fun z : ZE => z.2.2.2.2 == j) ∘ relz p) = [] := List.filter_eq_nil_iff.mpr fun z hz => by
        show ¬ ((relb p z.2).2.2.2 == j) = true
        by_cases h32 : z.2.2.2.2 = 32
        · rw [relb_32 h32]; simp; omega
        · rw [relb_n h32]; simp; omega
      rw [this]
      rfl
    · rw [if_neg hj32]
      rw [List.filter_congr (l := Z) (q := fun z => z.2.2.2.2 == j) (fun z hz => by
        show ((relb p z.2).2.2.2 == j) = _
        by_cases h32 : z.2.2.2.2 = 32
        · rw [relb_32 h32, h32]
          have e1 : (p == j) = false := by simp; omega
          have e2 : ((32 : Nat) == j) = false := by simp; omega
          rw [e1, e2]
        · rw [relb_n h32])]
theorem RZ.wop {ad kd : Nat → Nat} {σ : CS} {Z : List ZE} (hc : CWF ad kd σ) (h : RZ σ Z) (hw : xW σ (xH σ) < 4) (hno : ∀ z ∈ Z, z.2.2.2.2 ≠ 4 * xH σ + xW σ (xH σ)) : RZ (wopC σ) (Z.map (relz (4 * xH σ + xW σ (xH σ)))) := by
  have hh := hc.2.2.2.1
  have hp : 4 * xH σ + xW σ (xH σ) < 32 := by omega
  have hwp : wopC σ = zRr (zT (zW (zO (zG σ (va_up (xG σ) (4 * xH σ + xW σ (xH σ)) (xO σ))) (xG σ (4 * xH σ + xW σ (xH σ)))) (va_up (xW σ) (xH σ) (xW σ (xH σ) + 1))) (inc (xT σ) 1)) (xG σ (4 * xH σ + xW σ (xH σ))) [] := if_pos hw
  rw [hwp]
  generalize 4 * xH σ + xW σ (xH σ) = p at hp hno ⊢
  refine ⟨fun j hj => ?_, ?_⟩
  · rw [row_relz hp hno (by omega)]
    show xR (zRr _ (xG σ p) []) (va_up (xG σ) p (xO σ) j) = _
    by_cases hjp : j = p
    · subst hjp
      rw [if_pos rfl, va_up_self, zRr_ne (Ne.symm (hc.2.2.2.2.2.2.2.1 j hj))]
      exact h.2
    · rw [if_neg hjp, if_neg (by omega), va_up_ne _ _ hjp, zRr_ne (fun z => hjp (hc.2.2.2.2.2.2.2.2 j p hj hp z))]
      exact h.1 j hj
  · rw [row_relz hp hno (Nat.le_refl _), if_neg (by omega), if_pos rfl]
    show xR (zRr _ (xG σ p) []) (xG σ p) = []
    rw [zRr_same]
theorem cnt_map {l : List En} {g : En → En} (hg : ∀ e ∈ l, (g e).2.1 = e.2.1) : ((l.map g).filter (fun e => e.2.1)).length = (l.filter (fun e => e.2.1)).length := by
  rw [List.filter_map, List.length_map]
  exact congrArg List.length (List.filter_congr fun e he => hg e he)
theorem RB.wop {ad kd : Nat → Nat} {it : Nat → Da} {σ : CS} {S : SS} (hc : CWF ad kd σ) (h : RB ad kd it σ S) (hw : xW σ (xH σ) < 4) : RB ad kd it (wopC σ) (wr0 S) := by
  obtain ⟨h1, h2, h3, h4, h5, h6, h7, h8, h9⟩ := h
  have hh := hc.2.2.2.1
  have hwp : wopC σ = zRr (zT (zW (zO (zG σ (va_up (xG σ) (4 * xH σ + xW σ (xH σ)) (xO σ))) (xG σ (4 * xH σ + xW σ (xH σ)))) (va_up (xW σ) (xH σ) (xW σ (xH σ) + 1))) (inc (xT σ) 1)) (xG σ (4 * xH σ + xW σ (xH σ))) [] := if_pos hw
  have hI : xI (wopC σ) = xI σ ∧ xM (wopC σ) = xM σ ∧ xF (wopC σ) = xF σ ∧ xV (wopC σ) = xV σ ∧ xS (wopC σ) = xS σ ∧ xT (wopC σ) = inc (xT σ) 1 ∧ xH (wopC σ) = xH σ ∧ xW (wopC σ) = va_up (xW σ) (xH σ) (xW σ (xH σ) + 1) ∧ xC (wopC σ) = xC σ ∧ xQ (wopC σ) = xQ σ := by
    rw [hwp]
    exact ⟨rfl, rfl, rfl, rfl, rfl, rfl, rfl, rfl, rfl, rfl⟩
  obtain ⟨i1, i2, i3, i4, i5, i6, i7, i8, i9, i10⟩ := hI
  refine ⟨fun s hs => ?_, fun s hs => by rw [i3]; exact h2 s hs, ?_, by rw [i5]; exact h4, by rw [i6, h5]; rfl, by rw [i7]; exact h6, fun j hj => ?_, by rw [i9]; exact h8, by rw [i10]; exact h9⟩
  · rw [wopC_ad hc (by omega) (by omega), i1, i2]
    exact h1 s hs
  · rw [i4, h3]
    show nI _ = nI ((sL (wr0 S)).filter (fun e => e.2.1)).length
    rw [wr0_relb, cnt_map (fun e _ => (relb_1 _ e).2.1)]
    rfl
  · rw [i8]
    show _ = va_up (sN S) (sH S) (sN S (sH S) + 1) j
    rw [h6, h7 (sH S) (by omega)]
    by_cases hj2 : j = sH S
    · subst hj2
      rw [va_up_self, va_up_self]
    · rw [va_up_ne _ _ hj2, va_up_ne _ _ hj2]
      exact h7 j hj
theorem wopC_I {σ : CS} (hw : xW σ (xH σ) < 4) : xI (wopC σ) = xI σ ∧ xM (wopC σ) = xM σ ∧ xH (wopC σ) = xH σ ∧ xW (wopC σ) = va_up (xW σ) (xH σ) (xW σ (xH σ) + 1) := by
  have hwp : wopC σ = zRr (zT (zW (zO (zG σ (va_up (xG σ) (4 * xH σ + xW σ (xH σ)) (xO σ))) (xG σ (4 * xH σ + xW σ (xH σ)))) (va_up (xW σ) (xH σ) (xW σ (xH σ) + 1))) (inc (xT σ) 1)) (xG σ (4 * xH σ + xW σ (xH σ))) [] := if_pos hw
  rw [hwp]
  exact ⟨rfl, rfl, rfl, rfl⟩
theorem ZOk.relz {kd : Nat → Nat} {it : Nat → Da} {σ : CS} {Z : List ZE} (h : ZOk kd it σ Z) (p : Nat) : ZOk kd it σ (Z.map (relz p)) := by
  intro z hz
  obtain ⟨y, hy, rfl⟩ := List.mem_map.mp hz
  obtain ⟨k1, k2, k3, k4⟩ := h y hy
  obtain ⟨r1, r2, r3⟩ := relb_1 p y.2
  exact ⟨k1, by show it y.1 = (relb p y.2).1; rw [r1]; exact k2, by show xI σ y.1 = (relb p y.2).2.1; rw [r2]; exact k3, by show (relb p y.2).2.1 = true → xM σ y.1 = (relb p y.2).2.2.1; rw [r2, r3]; exact k4⟩
theorem LI.no {l : List En} {h : Nat} {np : Nat → Nat} {o : Nat} (hl : LI l h np o) (hh : h < 8) (hn : np h ≤ 3) : ∀ e ∈ l, e.2.2.2 ≠ 4 * h + np h := by
  intro e he z
  have := (hl.1 e he).2.2 (by omega)
  rw [z, show (4 * h + np h) / 4 = h from by omega] at this
  omega
theorem rk_le {h pg : Nat} {np : Nat → Nat} (hh : h < 8) (hn : np h ≤ 3) (hp : pg < 32) (hm : pg % 4 < np (pg / 4)) : rk h pg ≤ rk h (4 * h + np h) := by
  have hr : rk h (4 * h + np h) = 28 + np h := by unfold rk; rw [if_neg (by omega)]; omega
  rw [hr]
  unfold rk
  rw [if_neg (by omega)]
  by_cases hq : pg / 4 = h
  · rw [hq] at hm
    omega
  · omega
theorem LI.wop {l : List En} {h : Nat} {np : Nat → Nat} {o : Nat} (hl : LI l h np o) (hh : h < 8) (hn : np h ≤ 3) : LI (l.map (relb (4 * h + np h))) h (va_up np h (np h + 1)) 0 := by
  have hno := hl.no hh hn
  obtain ⟨h1, h2, h3, h4, h5⟩ := hl
  have hpl : ∀ j, j ≤ 32 → plS (onP j (l.map (relb (4 * h + np h)))) = if j = 4 * h + np h then plS (onP 32 l) else if j = 32 then 0 else plS (onP j l) := by
    intro j hj
    unfold onP
    rw [List.filter_map, plS_map (fun e _ => (relb_1 _ e).1)]
    by_cases hjp : j = 4 * h + np h
    · rw [if_pos hjp]
      rw [List.filter_congr (l := l) (q := fun e => e.2.2.2 == 32) (fun e he => by
        show ((relb (4 * h + np h) e).2.2.2 == j) = _
        by_cases h32 : e.2.2.2 = 32
        · rw [relb_32 h32, hjp, h32]; simp
        · rw [relb_n h32, hjp]
          have e1 : (e.2.2.2 == 4 * h + np h) = false := by simpa using hno e he
          have e2 : (e.2.2.2 == 32) = false := by simpa using h32
          exact e1.trans e2.symm)]
    · rw [if_neg hjp]
      by_cases hj32 : j = 32
      · rw [if_pos hj32]
        have : l.filter ((fun e : En => e.2.2.2 == j) ∘ relb (4 * h + np h)) = [] := List.filter_eq_nil_iff.mpr fun e he => by
          show ¬ ((relb (4 * h + np h) e).2.2.2 == j) = true
          by_cases h32 : e.2.2.2 = 32
          · rw [relb_32 h32]; simp; omega
          · rw [relb_n h32]; simp; omega
        rw [this]
        rfl
      · rw [if_neg hj32]
        rw [List.filter_congr (l := l) (q := fun e => e.2.2.2 == j) (fun e he => by
          show ((relb (4 * h + np h) e).2.2.2 == j) = _
          by_cases h32 : e.2.2.2 = 32
          · rw [relb_32 h32, h32]
            have e1 : (4 * h + np h == j) = false := by simp; omega
            have e2 : ((32 : Nat) == j) = false := by simp; omega
            rw [e1, e2]
          · rw [relb_n h32])]
  refine ⟨fun e he => ?_, fun j hj => ?_, ?_, Nat.zero_le _, ?_⟩
  · obtain ⟨x, hx, rfl⟩ := List.mem_map.mp he
    obtain ⟨k1, k2, k3⟩ := h1 x hx
    rw [(relb_1 _ x).1]
    by_cases h32 : x.2.2.2 = 32
    · rw [relb_32 h32]
      refine ⟨k1, by omega, fun _ => ?_⟩
      rw [show (4 * h + np h) / 4 = h from by omega, va_up_self]
      omega
    · rw [relb_n h32]
      refine ⟨k1, k2, fun hlt => ?_⟩
      have := k3 hlt
      unfold va_up
      split
      · next e => rw [e] at this; omega
      · exact this
  · rw [hpl j (by omega)]
    split
    · rw [h3]; exact h4
    · rw [if_neg (by omega)]
      exact h2 j hj
  · rw [hpl 32 (Nat.le_refl _), if_neg (by omega), if_pos rfl]
  · rw [List.pairwise_map]
    refine h5.imp_of_mem fun {x y} hx hy hxy => ?_
    obtain ⟨-, x2, x3⟩ := h1 x hx
    obtain ⟨-, y2, y3⟩ := h1 y hy
    by_cases hx32 : x.2.2.2 = 32
    · by_cases hy32 : y.2.2.2 = 32
      · rw [relb_32 hx32, relb_32 hy32]; exact Nat.le_refl _
      · rw [hx32] at hxy
        unfold rk at hxy
        rw [if_pos rfl, if_neg hy32] at hxy
        omega
    · rw [relb_n hx32]
      by_cases hy32 : y.2.2.2 = 32
      · rw [relb_32 hy32]
        exact rk_le hh hn (by omega) (x3 (by omega))
      · rw [relb_n hy32]
        exact hxy
theorem LI.push {l : List En} {h : Nat} {np : Nat → Nat} {o : Nat} (hl : LI l h np o) {d : Da} (hd : okD d) (ho : o + plc d ≤ 32) : LI (l ++ [(d, true, false, 32)]) h np (o + plc d) := by
  obtain ⟨h1, h2, h3, h4, h5⟩ := hl
  refine ⟨fun e he => ?_, fun j hj => ?_, ?_, ho, ?_⟩
  · rcases List.mem_append.mp he with he | he
    · exact h1 e he
    · simp at he
      subst he
      exact ⟨hd, Nat.le_refl _, fun z => absurd z (show ¬ 32 < 32 by decide)⟩
  · unfold onP
    rw [List.filter_append, List.filter_cons_of_neg (by simp; omega), List.filter_nil, List.append_nil]
    exact h2 j hj
  · unfold onP
    rw [List.filter_append, List.filter_cons_of_pos (by simp), List.filter_nil, plS_app]
    have : plS (l.filter (fun e => e.2.2.2 == 32)) = o := h3
    rw [this, plS_cons, plS_nil]
    rfl
  · rw [List.pairwise_append]
    refine ⟨h5, by simp, fun x hx y hy => ?_⟩
    simp at hy
    subst hy
    have := (h1 x hx).2.1
    unfold rk
    rw [if_pos (rfl : (32 : Nat) = 32)]
    split
    · exact Nat.le_refl _
    · omega
theorem row_push {Z : List ZE} {a j : Nat} {d : Da} : rowOf (Z ++ [(a, (d, true, false, 32))]) j = if j = 32 then rowOf Z j ++ [some a] else rowOf Z j := by
  unfold rowOf
  rw [List.filter_append]
  by_cases hj : j = 32
  · rw [if_pos hj, List.filter_cons_of_pos (by simp [hj]), List.filter_nil, List.map_append]
    rfl
  · rw [if_neg hj, List.filter_cons_of_neg (by simp; omega), List.filter_nil, List.append_nil]
/-- the open page takes one more -/
theorem RZ.add {ad kd cap : Nat → Nat} {σ : CS} {Z : List ZE} (hc : CWF ad kd σ) (h : RZ σ Z) {a : Nat} {d : Da} (hcap : (rowOf Z 32).length < cap (xO σ)) : RZ (addO cap σ a) (Z ++ [(a, (d, true, false, 32))]) := by
  refine ⟨fun j hj => ?_, ?_⟩
  · rw [row_push, if_neg (by omega)]
    show xR (zRr σ (xO σ) _) (xG σ j) = _
    rw [zRr_ne (hc.2.2.2.2.2.2.2.1 j hj)]
    exact h.1 j hj
  · rw [row_push, if_pos rfl]
    show xR (zRr σ (xO σ) (addR (cap (xO σ)) (xR σ (xO σ)) (some a))) (xO σ) = _
    rw [zRr_same]
    unfold addR
    rw [h.2, if_pos hcap]
theorem cnt_push (l : List En) (d : Da) : ((l ++ [((d, true, false, 32) : En)]).filter (fun e => e.2.1)).length = (l.filter (fun e => e.2.1)).length + 1 := by
  rw [List.filter_append, List.length_append]
  rfl
/-- no put anew overflows the third page of the head -/
def safe : Nat → Nat → List En → Prop
  | _, _, [] => True
  | p, f, e :: O => (p ≤ 3 ∧ f ≤ 32 ∧ (f + plc e.1 > 32 → p ≤ 2)) ∧ safe p f O ∧ safe (if f + plc e.1 > 32 then p + 1 else p) (if f + plc e.1 > 32 then plc e.1 else f + plc e.1) O
/-- the pages that the entries come from -/
def Pgs : Nat → Nat → List En → Prop
  | _, _, [] => True
  | q, g, e :: O => (e.2.2.2 % 4 = q ∧ g + plc e.1 ≤ 32 ∧ Pgs q (g + plc e.1) O) ∨ (q < e.2.2.2 % 4 ∧ plc e.1 ≤ 32 ∧ Pgs (e.2.2.2 % 4) (plc e.1) O)
theorem safe_of : ∀ (O : List En) (q g p f : Nat), (p < q ∨ (p = q ∧ f ≤ g)) → q ≤ 3 → f ≤ 32 → Pgs q g O → safe p f O := by
  intro O
  induction O with
  | nil => intro q g p f _ _ _ _; trivial
  | cons e O ih =>
    intro q g p f hl hq hf hP
    rcases hP with ⟨h1, h2, h3⟩ | ⟨h1, h2, h3⟩
    · refine ⟨⟨by omega, hf, fun z => by omega⟩, ih q (g + plc e.1) p f (by omega) hq hf h3, ?_⟩
      split
      · exact ih q (g + plc e.1) _ _ (by omega) hq (by omega) h3
      · exact ih q (g + plc e.1) _ _ (by omega) hq (by omega) h3
    · have h4 : e.2.2.2 % 4 ≤ 3 := by omega
      refine ⟨⟨by omega, hf, fun z => by omega⟩, ih _ (plc e.1) p f (by omega) h4 hf h3, ?_⟩
      split
      · exact ih _ (plc e.1) _ _ (by omega) h4 (by omega) h3
      · exact ih _ (plc e.1) _ _ (by omega) h4 (by omega) h3
theorem safe_map {g : En → En} (hg : ∀ e, (g e).1 = e.1) : ∀ (O : List En) (p f : Nat), safe p f O → safe p f (O.map g) := by
  intro O
  induction O with
  | nil => intro p f _; trivial
  | cons e O ih =>
    intro p f h
    obtain ⟨h1, h2, h3⟩ := h
    rw [List.map_cons]
    unfold safe
    rw [hg]
    exact ⟨h1, ih _ _ h2, ih _ _ h3⟩
theorem pgs_of : ∀ (O : List En) (q g : Nat), O.Pairwise (fun x y => x.2.2.2 % 4 ≤ y.2.2.2 % 4) → (∀ e ∈ O, q ≤ e.2.2.2 % 4) → g + plS (O.filter (fun e => e.2.2.2 % 4 == q)) ≤ 32 → (∀ j, j ≤ 3 → plS (O.filter (fun e => e.2.2.2 % 4 == j)) ≤ 32) → Pgs q g O := by
  intro O
  induction O with
  | nil => intro q g _ _ _ _; trivial
  | cons e O ih =>
    intro q g hs hq hg hj
    obtain ⟨s1, s2⟩ := List.pairwise_cons.mp hs
    have hj2 : ∀ j, j ≤ 3 → plS (O.filter (fun e => e.2.2.2 % 4 == j)) ≤ 32 := fun j hj3 => by
      have := hj j hj3
      rw [List.filter_cons] at this
      split at this
      · rw [plS_cons] at this; omega
      · exact this
    have he := hq e List.mem_cons_self
    by_cases heq : e.2.2.2 % 4 = q
    · left
      rw [List.filter_cons_of_pos (by simpa using heq), plS_cons] at hg
      exact ⟨heq, by omega, ih q _ s2 (fun x hx => hq x (List.mem_cons_of_mem _ hx)) (by omega) hj2⟩
    · right
      have h5 := hj (e.2.2.2 % 4) (by omega)
      rw [List.filter_cons_of_pos (by simp), plS_cons] at h5
      exact ⟨by omega, by omega, ih _ _ s2 (fun x hx => s1 x hx) h5 hj2⟩
