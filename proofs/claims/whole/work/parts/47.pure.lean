theorem erase_map {α : Type} {β : Type} (f : α → β) : ∀ (l : List α) (i : Nat), (l.map f).eraseIdx i = (l.eraseIdx i).map f := by
  intro l
  induction l with
  | nil => intro i; rfl
  | cons x l ih =>
    intro i
    cases i with
    | zero => rfl
    | succ i => simp only [List.map_cons, List.eraseIdx_cons_succ, ih]
/-- the page's list of addresses -/
def PgB (kd : Nat → Nat) (it : Nat → Da) (σ : CS) (row : List (Option Nat)) (pe : List Pe) (bs : List Nat) : Prop := row = bs.map some ∧ bs.map (fun b => (it b, xM σ b)) = pe ∧ ∀ b ∈ bs, kd b = 1 ∧ xI σ b = false
theorem PgB.ix {kd : Nat → Nat} {it : Nat → Da} {σ : CS} {row : List (Option Nat)} {pe : List Pe} {bs : List Nat} (h : PgB kd it σ row pe bs) (key : Int64) : row.findIdx? (keyIs it key) = ixS pe key := by
  obtain ⟨h1, h2, -⟩ := h
  unfold ixS
  rw [h1, ← h2, List.findIdx?_map, List.findIdx?_map]
  rfl
theorem PgB.fl {kd : Nat → Nat} {it : Nat → Da} {σ : CS} {row : List (Option Nat)} {pe : List Pe} {bs : List Nat} (h : PgB kd it σ row pe bs) : flR it row = filS pe := by
  obtain ⟨h1, h2, -⟩ := h
  unfold flR filS
  rw [h1, ← h2, List.foldl_map, List.foldl_map]
  rfl
theorem PgB.len {kd : Nat → Nat} {it : Nat → Da} {σ : CS} {row : List (Option Nat)} {pe : List Pe} {bs : List Nat} (h : PgB kd it σ row pe bs) : row.length = pe.length := by
  obtain ⟨h1, h2, -⟩ := h
  rw [h1, ← h2, List.length_map, List.length_map]
theorem PgB.pl {kd : Nat → Nat} {it : Nat → Da} {σ : CS} {row : List (Option Nat)} {pe : List Pe} {bs : List Nat} (h : PgB kd it σ row pe bs) : plR it row = (pe.map (fun e => plc e.1)).sum := by
  obtain ⟨h1, h2, -⟩ := h
  unfold plR
  rw [h1, ← h2, List.map_map, List.map_map]
  rfl
theorem PgB.erase {kd : Nat → Nat} {it : Nat → Da} {σ : CS} {row : List (Option Nat)} {pe : List Pe} {bs : List Nat} (h : PgB kd it σ row pe bs) (i : Nat) : PgB kd it σ (row.eraseIdx i) (pe.eraseIdx i) (bs.eraseIdx i) := by
  obtain ⟨h1, h2, h3⟩ := h
  exact ⟨by rw [h1, erase_map], by rw [← h2, erase_map], fun b hb => h3 b (List.mem_of_mem_eraseIdx hb)⟩
theorem sumP_up {S S' : SS} {s : Nat} {p : List Pe} (h : sP S' = va_up (sP S) s p) : ∀ n, s < n → sumP S' n + (sP S s).length = sumP S n + p.length := by
  have low : ∀ n, n ≤ s → sumP S' n = sumP S n := by
    intro n
    induction n with
    | zero => intro _; rfl
    | succ n ih =>
      intro hn
      show sumP S' n + (sP S' n).length = sumP S n + (sP S n).length
      rw [ih (by omega), h, va_up_ne _ _ (by omega)]
  intro n
  induction n with
  | zero => intro hn; omega
  | succ n ih =>
    intro hn
    show sumP S' n + (sP S' n).length + (sP S s).length = sumP S n + (sP S n).length + p.length
    by_cases hs : s = n
    · subst hs
      rw [low s (Nat.le_refl _), h, va_up_self]
      omega
    · have := ih (by omega)
      rw [h, va_up_ne _ _ (fun z => hs z.symm)]
      omega
theorem PI.up {P : Nat → List Pe} (h : PI P) {s : Nat} {p : List Pe} (hp : s < 64 → (∀ e ∈ p, okD e.1 ∧ setN e.1.1 = s) ∧ (p.map (fun e => plc e.1)).sum ≤ 32 ∧ p.Pairwise (fun x y => x.1.1 ≠ y.1.1)) : PI (va_up P s p) := by
  intro q hq
  by_cases hqs : q = s
  · subst hqs
    rw [va_up_self]
    exact hp hq
  · rw [va_up_ne _ _ hqs]
    exact h q hq
theorem sum_sub {l m : List Nat} (h : List.Sublist l m) : l.sum ≤ m.sum := by
  induction h with
  | slnil => exact Nat.le_refl _
  | cons a _ ih => simp only [List.sum_cons]; omega
  | cons_cons a _ ih => simp only [List.sum_cons]; omega
theorem PI.sub {P : Nat → List Pe} (h : PI P) {s : Nat} {p : List Pe} (hp : List.Sublist p (P s)) : PI (va_up P s p) := h.up fun hs => by
  obtain ⟨h1, h2, h3⟩ := h s hs
  exact ⟨fun e he => h1 e (hp.subset he), Nat.le_trans (sum_sub (hp.map _)) h2, h3.sublist hp⟩
/-- RB after one page has changed -/
theorem RB.page {ad ar ow cap kd : Nat → Nat} {it : Nat → Da} {σ σ' : CS} {S S' : SS} (hst : CSt ad ar ow cap kd) (h : RB ad kd it σ S) {s : Nat} (hs : s < 64) {row : List (Option Nat)} {pe : List Pe} {bs : List Nat}
    (hR : ∀ q, q < 64 → q ≠ s → xR σ' (ad (11 + q)) = xR σ (ad (11 + q))) (hRs : xR σ' (ad (11 + s)) = row) (hb : PgB kd it σ' row pe bs)
    (hM : ∀ q, q < 64 → q ≠ s → ∀ b, some b ∈ xR σ (ad (11 + q)) → xI σ b = false → xM σ' b = xM σ b ∧ xI σ' b = false)
    (hP : sP S' = va_up (sP S) s pe) (hF : xF σ' = va_up (xF σ) s (flR it row)) (hV : xV σ' = livS S') (hS : xS σ' + nI (sP S s).length = xS σ + nI pe.length)
    (hrest : xT σ' = sC S' ∧ xH σ' = sH S' ∧ (∀ j, j < 8 → xW σ' j = sN S' j) ∧ xC σ' = sX S' ∧ xQ σ' = sG S') : RB ad kd it σ' S' := by
  obtain ⟨h1, h2, h3, h4, -⟩ := h
  refine ⟨fun q hq => ?_, fun q hq => ?_, hV, ?_, hrest⟩
  · by_cases hqs : q = s
    · subst hqs
      rw [hP, va_up_self]
      exact ⟨bs, hRs.trans hb.1, hb.2⟩
    · obtain ⟨cs, c1, c2, c3⟩ := h1 q hq
      rw [hP, va_up_ne _ _ hqs, hR q hq hqs]
      have hmem : ∀ b ∈ cs, xM σ' b = xM σ b ∧ xI σ' b = false := fun b hb => hM q hq hqs b (by rw [c1]; exact List.mem_map_of_mem hb) (c3 b hb).2
      exact ⟨cs, c1, by rw [← c2]; exact List.map_congr_left fun b hb => by rw [(hmem b hb).1], fun b hb => ⟨(c3 b hb).1, (hmem b hb).2⟩⟩
  · rw [hF, hP]
    by_cases hqs : q = s
    · subst hqs
      rw [va_up_self, va_up_self]
      exact hb.fl
    · rw [va_up_ne _ _ hqs, va_up_ne _ _ hqs]
      exact h2 q hq
  · have hsum := sumP_up hP 64 hs
    rw [h4] at hS
    have e1 : xS σ' = nI (sumP S 64) + nI pe.length - nI (sP S s).length := by rw [← hS, Int32.add_sub_cancel]
    rw [e1]
    have e2 : nI (sumP S 64) + nI pe.length = nI (sumP S' 64) + nI (sP S s).length := by
      show Int32.ofNat _ + Int32.ofNat _ = Int32.ofNat _ + Int32.ofNat _
      rw [← Int32.ofNat_add, ← Int32.ofNat_add, hsum]
    rw [e2, Int32.add_sub_cancel]
theorem pg_ne {ad ar ow cap kd : Nat → Nat} (hst : CSt ad ar ow cap kd) {q s : Nat} (hq : q < 64) (hs : s < 64) (h : q ≠ s) : ad (11 + q) ≠ ad (11 + s) := adne hst (by omega) (by omega) (by omega)
theorem RB.may {ad kd : Nat → Nat} {it : Nat → Da} {σ : CS} {S : SS} (h : RB ad kd it σ S) (key : Int64) : mayC σ key = mayS (sP S (setN key)) key := by
  unfold mayC mayS
  rw [h.2.1 _ (setN_lt key)]
/-- the taking out -/
theorem RB.take {ad ar ow cap kd : Nat → Nat} {it : Nat → Da} {σ : CS} {S : SS} (hst : CSt ad ar ow cap kd) (h : RB ad kd it σ S) (hp : PI (sP S)) (key : Int64) (wf : Nat) : RB ad kd it (takeC ad it σ key wf).1 (takeS S key wf).1 ∧ PI (sP (takeS S key wf).1) ∧ (takeC ad it σ key wf).2 = (takeS S key wf).2 := by
  have hs := setN_lt key
  obtain ⟨bs, hb⟩ := h.1 _ hs
  have hb' : PgB kd it σ (xR σ (ad (11 + setN key))) (sP S (setN key)) bs := hb
  have hmay := h.may key
  unfold takeC takeS
  rw [hmay, hb'.ix key]
  split
  · cases hi : ixS (sP S (setN key)) key with
    | none =>
      refine ⟨?_, hp, rfl⟩
      obtain ⟨h1, h2, h3, h4, h5, h6⟩ := h
      exact ⟨h1, h2, h3, h4, by show inc (xT σ) 11 = inc (sC S) 11; rw [h5], h6⟩
    | some i =>
      have hil : i < (sP S (setN key)).length := by
        unfold ixS at hi
        exact findIdx?_ltl hi
      refine ⟨?_, hp.sub (List.eraseIdx_sublist _ _), rfl⟩
      refine RB.page hst h hs (row := (xR σ (ad (11 + setN key))).eraseIdx i) (pe := (sP S (setN key)).eraseIdx i) (bs := bs.eraseIdx i) (fun q hq hqs => zRr_ne (pg_ne hst hq hs hqs)) zRr_same (hb'.erase i) (fun q hq hqs b hbm hbi => ⟨rfl, hbi⟩) rfl rfl h.2.2.1 ?_ ?_
      · show xS σ - 1 + nI (sP S (setN key)).length = xS σ + nI ((sP S (setN key)).eraseIdx i).length
        rw [List.length_eraseIdx_of_lt hil]
        have e1 : nI (sP S (setN key)).length = nI ((sP S (setN key)).length - 1) + 1 := by
          rw [nI_1]
          congr 1
          omega
        rw [e1, Int32.add_comm (nI ((sP S (setN key)).length - 1)) 1, ← Int32.add_assoc, Int32.sub_add_cancel]
      · obtain ⟨-, -, -, -, h5, h6⟩ := h
        exact ⟨by show inc (inc (xT σ) 11) wf = inc (inc (sC S) 11) wf; rw [h5], h6⟩
  · exact ⟨h, hp, rfl⟩
theorem takeC_log {ad : Nat → Nat} {it : Nat → Da} {σ : CS} {key : Int64} {wf : Nat} : xI (takeC ad it σ key wf).1 = xI σ ∧ xM (takeC ad it σ key wf).1 = xM σ ∧ xG (takeC ad it σ key wf).1 = xG σ ∧ xO (takeC ad it σ key wf).1 = xO σ := by
  unfold takeC
  split
  · split
    · exact ⟨rfl, rfl, rfl, rfl⟩
    · exact ⟨rfl, rfl, rfl, rfl⟩
  · exact ⟨rfl, rfl, rfl, rfl⟩
theorem takeS_log {S : SS} {key : Int64} {wf : Nat} : sL (takeS S key wf).1 = sL S ∧ sH (takeS S key wf).1 = sH S ∧ sN (takeS S key wf).1 = sN S ∧ sO (takeS S key wf).1 = sO S := by
  unfold takeS
  split
  · split
    · exact ⟨rfl, rfl, rfl, rfl⟩
    · exact ⟨rfl, rfl, rfl, rfl⟩
  · exact ⟨rfl, rfl, rfl, rfl⟩
theorem ZOk.same {kd : Nat → Nat} {it : Nat → Da} {σ σ' : CS} {Z : List ZE} (h : ZOk kd it σ Z) (hI : xI σ' = xI σ) (hM : xM σ' = xM σ) : ZOk kd it σ' Z := fun z hz => by
  rw [hI, hM]
  exact h z hz
theorem Rel.take {ad ar ow cap kd : Nat → Nat} {it : Nat → Da} {σ : CS} {S : SS} (hst : CSt ad ar ow cap kd) (hc : CWF ad kd σ) (h : Rel ad kd it σ S) (hi : Inv S) (key : Int64) (wf : Nat) : Rel ad kd it (takeC ad it σ key wf).1 (takeS S key wf).1 ∧ Inv (takeS S key wf).1 ∧ (takeC ad it σ key wf).2 = (takeS S key wf).2 := by
  obtain ⟨Z, h1, h2, h3, h4, h5, h6⟩ := h
  obtain ⟨r1, r2, r3⟩ := h5.take hst hi.2.2.1 key wf
  obtain ⟨t1, t2, t3, t4⟩ := takeC_log (ad := ad) (it := it) (σ := σ) (key := key) (wf := wf)
  obtain ⟨s1, s2, s3, s4⟩ := takeS_log (S := S) (key := key) (wf := wf)
  have hs := setN_lt key
  refine ⟨⟨Z, by rw [s1]; exact h1, h2, h3.same t1 t2, ⟨fun j hj => ?_, ?_⟩, r1, (takeC_ne (Ne.symm (pgne hst hs (by decide) (by decide)))).trans h6⟩, ?_, r3⟩
  · rw [t3, takeC_ne (hc.2.2.2.2.2.1 j hj _ (by omega) (by omega))]
    exact h4.1 j hj
  · rw [t4, takeC_ne (hc.2.2.2.2.2.2.1 _ (by omega) (by omega))]
    exact h4.2
  · obtain ⟨i1, i2, i3, i4, i5, i6⟩ := hi
    exact ⟨by rw [s1, s2, s3, s4]; exact i1, by rw [s1]; exact i2, r2, by rw [s2]; exact i4, by rw [s3]; exact i5, by rw [s2, s3]; exact i6⟩
theorem Rel.remove {ad ar ow cap kd : Nat → Nat} {it : Nat → Da} {σ : CS} {S : SS} (hst : CSt ad ar ow cap kd) (hc : CWF ad kd σ) (h : Rel ad kd it σ S) (hi : Inv S) (key : Int64) : (removeC ad it σ key).1 = (removeS S key).1 ∧ Rel ad kd it (removeC ad it σ key).2 (removeS S key).2 ∧ Inv (removeS S key).2 ∧ CWF ad kd (removeC ad it σ key).2 := by
  have hX : xC σ = sX S := by obtain ⟨Z, h1, h2, h3, h4, h5, -⟩ := h; exact h5.2.2.2.2.2.2.2.1
  unfold removeC removeS
  rw [hX]
  split
  · exact ⟨rfl, h, hi, hc⟩
  · obtain ⟨r1, r2, r3⟩ := h.kk hi key
    obtain ⟨t1, t2, t3⟩ := r1.take hst (hc.kill _) r2 key 4
    exact ⟨by dsimp only; rw [r3, t3], t1, t2, (hc.kill _).take hst key 4⟩
