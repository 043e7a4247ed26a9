section OPT
variable {ad ar ow cap kd : Nat → Nat} {it : Nat → Da} {σ : CS} {S : SS}
theorem lwR_in (σ : CS) : ∀ (n i : Nat), i < n → lwR σ n (xG σ i) = [] := by
  intro n
  induction n with
  | zero => intro i h; omega
  | succ n ih =>
    intro i h
    show va_up (lwR σ n) (xG σ n) [] (xG σ i) = []
    unfold va_up
    split
    · rfl
    · next hne =>
      rcases Nat.lt_or_ge i n with q | q
      · exact ih i q
      · exact absurd (by rw [show i = n from by omega]) hne
theorem lwR_or (σ : CS) : ∀ (n r : Nat), lwR σ n r = [] ∨ lwR σ n r = xR σ r := by
  intro n
  induction n with
  | zero => intro r; exact Or.inr rfl
  | succ n ih =>
    intro r
    show va_up (lwR σ n) (xG σ n) [] r = [] ∨ va_up (lwR σ n) (xG σ n) [] r = _
    unfold va_up
    split
    · exact Or.inl rfl
    · exact ih r
theorem wpR_in (ad : Nat → Nat) (rl : Nat → List (Option Nat)) : ∀ (n i : Nat), i < n → wpR ad rl n (ad (11 + i)) = [] := by
  intro n
  induction n with
  | zero => intro i h; omega
  | succ n ih =>
    intro i h
    show va_up (wpR ad rl n) (ad (11 + n)) [] (ad (11 + i)) = []
    unfold va_up
    split
    · rfl
    · next hne =>
      rcases Nat.lt_or_ge i n with q | q
      · exact ih i q
      · exact absurd (by rw [show i = n from by omega]) hne
theorem wpR_or (ad : Nat → Nat) (rl : Nat → List (Option Nat)) : ∀ (n r : Nat), wpR ad rl n r = [] ∨ wpR ad rl n r = rl r := by
  intro n
  induction n with
  | zero => intro r; exact Or.inr rfl
  | succ n ih =>
    intro r
    show va_up (wpR ad rl n) (ad (11 + n)) [] r = [] ∨ va_up (wpR ad rl n) (ad (11 + n)) [] r = _
    unfold va_up
    split
    · exact Or.inl rfl
    · exact ih r
theorem lwW_in (w : Nat → Nat) : ∀ (n i : Nat), (i < n → lwW w n i = 0) ∧ (lwW w n i = 0 ∨ lwW w n i = w i) := by
  intro n
  induction n with
  | zero => intro i; exact ⟨fun h => by omega, Or.inr rfl⟩
  | succ n ih =>
    intro i
    show (i < n + 1 → va_up (lwW w n) n 0 i = 0) ∧ (va_up (lwW w n) n 0 i = 0 ∨ va_up (lwW w n) n 0 i = w i)
    unfold va_up
    split
    · exact ⟨fun _ => rfl, Or.inl rfl⟩
    · next hne => exact ⟨fun h => (ih i).1 (by omega), (ih i).2⟩
theorem wpF_in (f : Nat → Int64) : ∀ (n i : Nat), i < n → wpF f n i = 0 := by
  intro n
  induction n with
  | zero => intro i h; omega
  | succ n ih =>
    intro i h
    show va_up (wpF f n) n 0 i = 0
    unfold va_up
    split
    · rfl
    · next hne => exact ih i (by omega)
theorem crash_R (ad : Nat → Nat) (σ : CS) (r : Nat) : xR (crashC ad σ) r = [] ∨ xR (crashC ad σ) r = xR σ r := by
  show wpR ad (xR (lwipeC σ)) 64 r = [] ∨ wpR ad (xR (lwipeC σ)) 64 r = _
  rcases wpR_or ad (xR (lwipeC σ)) 64 r with h | h
  · exact Or.inl h
  · rw [h]
    show va_up (lwR σ 32) (xO σ) [] r = [] ∨ va_up (lwR σ 32) (xO σ) [] r = _
    unfold va_up
    split
    · exact Or.inl rfl
    · exact lwR_or σ 32 r
theorem CWF.crash (h : CWF ad kd σ) : CWF ad kd (crashC ad σ) := by
  obtain ⟨⟨h1, h2⟩, h3, h4, h5, h6, h7⟩ := h
  refine ⟨⟨fun r hr a ha => ?_, fun r hr hne hn => ?_⟩, h3, h4, (show 0 < 8 by decide), fun j => ?_, h7⟩
  · rcases crash_R ad σ r with q | q
    · rw [q] at ha; cases ha
    · rw [q] at ha; exact h1 r hr a ha
  · rcases crash_R ad σ r with q | q
    · rw [q] at hn; cases hn
    · rw [q] at hn; exact h2 r hr hne hn
  · show lwW (xW σ) 8 j ≤ 4
    rcases (lwW_in (xW σ) 8 j).2 with q | q
    · rw [q]; decide
    · rw [q]; exact h6 j
theorem Rel.crash (h : Rel ad kd it σ S) : Rel ad kd it (crashC ad σ) (crashS S) ∧ Inv (crashS S) ∧ xV σ = livS S := by
  obtain ⟨Z, h1, h2, h3, h4, h5, h6⟩ := h
  obtain ⟨b1, b2, b3, b4, b5, b6, b7, b8, b9⟩ := h5
  have hsum : ∀ n, sumP (crashS S) n = 0 := by
    intro n
    induction n with
    | zero => rfl
    | succ n ih => show sumP (crashS S) n + 0 = 0; omega
  refine ⟨⟨[], rfl, List.nodup_nil, (fun z hz => (by cases hz)), ⟨fun j hj => ?_, ?_⟩, ⟨fun s hs => ?_, fun s hs => ?_, rfl, ?_, b5, rfl, fun j hj => ?_, rfl, b9⟩, ?_⟩, ⟨⟨fun e he => (by cases he), fun j _ => (by show (0 : Nat) ≤ 32; decide), rfl, (by show (0 : Nat) ≤ 32; decide), List.Pairwise.nil⟩, List.Pairwise.nil, fun s _ => ⟨fun e he => (by cases he), (by show (0 : Nat) ≤ 32; decide), List.Pairwise.nil⟩, (by show (0 : Nat) < 8; decide), fun _ => Nat.zero_le _, (by show (0 : Nat) ≤ 3; decide)⟩, b3⟩
  · show wpR ad (xR (lwipeC σ)) 64 (xG σ j) = []
    rcases wpR_or ad (xR (lwipeC σ)) 64 (xG σ j) with q | q
    · exact q
    · rw [q]
      show va_up (lwR σ 32) (xO σ) [] (xG σ j) = []
      unfold va_up
      split
      · rfl
      · exact lwR_in σ 32 j hj
  · show wpR ad (xR (lwipeC σ)) 64 (xO σ) = []
    rcases wpR_or ad (xR (lwipeC σ)) 64 (xO σ) with q | q
    · exact q
    · rw [q]
      show va_up (lwR σ 32) (xO σ) [] (xO σ) = []
      rw [va_up_self]
  · exact ⟨[], wpR_in ad _ 64 s hs, rfl, fun b hb => by cases hb⟩
  · show wpF (xF (lwipeC σ)) 64 s = 0
    exact wpF_in _ 64 s hs
  · show (0 : Int32) = nI (sumP (crashS S) 64)
    rw [hsum]
    rfl
  · exact (lwW_in (xW σ) 8 j).1 hj
  · rcases crash_R ad σ (ad 10) with q | q
    · exact q
    · rw [q]; exact h6
/-! check -/
theorem Inv.ck (hi : Inv S) : CkS S := by
  obtain ⟨i1, i2, i3, i4⟩ := hi
  refine ⟨fun k e he ha => lastIx_some i2 he ha rfl, fun s hs => (i3 s hs).2.1, fun s k e hs he => ⟨((i3 s hs).1 e (List.mem_of_getElem? he)).2, ?_⟩⟩
  obtain ⟨hk, e1⟩ := List.getElem?_eq_some_iff.mp he
  unfold ixS
  rw [List.findIdx?_eq_some_iff_getElem]
  refine ⟨hk, by simp [e1], fun j hj => ?_⟩
  have := List.pairwise_iff_getElem.mp (i3 s hs).2.2 j k (by omega) hk hj
  rw [e1] at this
  simpa using this
theorem cnS_al {Z : List ZE} (hz : ZOk kd it σ Z) (hr : RZ σ Z) : ∀ n, n ≤ 32 → cnS σ 0 n = ((Z.map Prod.snd).filter (fun e => e.2.1 && decide (e.2.2.2 < n))).length := by
  intro n
  induction n with
  | zero =>
    intro _
    have : (Z.map Prod.snd).filter (fun e => e.2.1 && decide (e.2.2.2 < 0)) = [] := List.filter_eq_nil_iff.mpr fun e _ => by simp
    rw [this]
    rfl
  | succ n ih =>
    intro hn
    show cnS σ 0 n + cntG σ (0 + n) = _
    rw [ih (by omega), Nat.zero_add, cnG_al hz hr (by omega)]
    unfold cAl
    generalize Z.map Prod.snd = l
    induction l with
    | nil => rfl
    | cons e l ih2 =>
      have hl : ∀ q : En → Bool, ((e :: l).filter q).length = (if q e = true then 1 else 0) + (l.filter q).length := fun q => by
        rw [List.filter_cons]
        split
        · rw [List.length_cons]; omega
        · omega
      rw [hl, hl, hl, ← ih2]
      cases ha : e.2.1 with
      | false => simp
      | true =>
        simp only [Bool.true_and, decide_eq_true_eq, beq_iff_eq]
        by_cases h1 : e.2.2.2 < n
        · rw [if_pos h1, if_neg (by omega), if_pos (by omega)]; omega
        · by_cases h2 : e.2.2.2 = n
          · rw [if_neg h1, if_pos h2, if_pos (by omega)]; omega
          · rw [if_neg h1, if_neg h2, if_neg (by omega)]; omega
theorem Rel.ck (hst : CSt ad ar ow cap kd) (hcap : CPa ad cap) (h : Rel ad kd it σ S) (hi : Inv S) : CkC ad cap it σ := by
  obtain ⟨Z, h1, h2, h3, h4, h5, h6⟩ := h
  obtain ⟨b1, b2, b3, b4, b5, b6, b7, b8, b9⟩ := h5
  have hok : ∀ e ∈ sL S, okD e.1 := fun e he => (hi.1.1 e he).1
  have hpz : ∀ z ∈ Z, z.2.2.2.2 ≤ 32 := fun z hz => (hi.1.1 z.2 (by rw [← h1]; exact List.mem_map_of_mem hz)).2.1
  have hsz : Z.Pairwise (fun x y => rk (xH σ) x.2.2.2.2 ≤ rk (xH σ) y.2.2.2.2) := by
    have := hi.1.2.2.2.2
    rw [← h1, List.pairwise_map] at this
    rw [b6]
    exact this
  have hga : ∀ s, gaL ad it σ s 0 = ((Z.filter (fun z => inSet s z.2)).map Prod.fst).map some := fun s => by
    unfold gaL
    rw [h6, List.append_assoc, ring_all h4 hpz (by rw [b6]; exact hi.2.2.2.1) hsz, sel_Z h3, List.map_map]
    rfl
  have hlen : ∀ s, ((Z.filter (fun z => inSet s z.2)).map Prod.fst).length ≤ 264 := fun s => by
    rw [List.length_map]
    refine Nat.le_trans (List.length_filter_le _ _) ?_
    have := hi.1.len
    rw [← h1, List.length_map] at this
    exact this
  have hgl : ∀ s, addsR (cap (ad 9)) [] (gaL ad it σ s 0) = ((Z.filter (fun z => inSet s z.2)).map Prod.fst).map some := fun s => by
    rw [hga, adds_id _ _ (by rw [List.length_map, hcap.2.2.1]; simp only [List.length_nil]; have := hlen s; omega)]
    rfl
  refine ⟨fun s hs i o ho => ?_, fun j hj => ?_, ?_, fun s hs => ?_, fun s hs i o ho => ?_, fun s hs => ?_, ?_, ?_⟩
  · rw [hgl s] at ho ⊢
    rw [List.map_map] at ho ⊢
    rw [List.getElem?_map] at ho
    obtain ⟨z, hz, rfl⟩ := Option.map_eq_some_iff.mp ho
    obtain ⟨z1, z2⟩ := List.mem_filter.mp (List.mem_of_getElem? hz)
    have hza := inSet_al z2
    have hit := (h3 z z1).2.1
    refine ⟨z.1, rfl, by rw [hit]; exact hza.2, ?_⟩
    have hkd : ((Z.filter (fun z => inSet s z.2))).Pairwise (fun x y => x.2.1.1 ≠ y.2.1.1) := by
      have hk := hi.2.1
      rw [← h1] at hk
      unfold keyD at hk
      rw [List.pairwise_map] at hk
      refine (hk.sublist List.filter_sublist).imp_of_mem fun {x y} hx hy hxy => ?_
      exact hxy (inSet_al (List.mem_filter.mp hx).2).1 (inSet_al (List.mem_filter.mp hy).2).1
    rw [List.findIdx?_map, List.findIdx?_eq_some_iff_getElem]
    obtain ⟨hlt, e1⟩ := List.getElem?_eq_some_iff.mp hz
    refine ⟨hlt, ?_, fun j hj => ?_⟩
    · rw [e1]
      show ((it z.1).1 == (it z.1).1) = true
      simp
    · have hjl : j < (Z.filter (fun z => inSet s z.2)).length := by omega
      have := List.pairwise_iff_getElem.mp hkd j i hjl hlt hj
      rw [e1] at this
      have hjm := (List.mem_filter.mp (List.getElem_mem hjl)).1
      show ¬ ((it (Z.filter (fun z => inSet s z.2))[j].1).1 == (it z.1).1) = true
      rw [(h3 _ hjm).2.1, hit]
      simpa using this
  · rw [h4.1 j hj, plR_row h3, h1]
    exact hi.1.2.1 j hj
  · rw [h4.2, plR_row h3, h1, hi.1.2.2.1]
    exact hi.1.2.2.2.1
  · obtain ⟨bs, hb⟩ := b1 s hs
    rw [PgB.pl (show PgB kd it σ _ _ bs from hb)]
    exact (hi.2.2.1 s hs).2.1
  · obtain ⟨bs, c1, c2, c3⟩ := b1 s hs
    have hb : PgB kd it σ (xR σ (ad (11 + s))) (sP S s) bs := ⟨c1, c2, c3⟩
    rw [c1, List.getElem?_map] at ho
    obtain ⟨b, hbm, rfl⟩ := Option.map_eq_some_iff.mp ho
    have hpe : (sP S s)[i]? = some (it b, xM σ b) := by rw [← c2, List.getElem?_map, hbm]; rfl
    have hk := hi.ck.2.2 s i _ hs hpe
    exact ⟨b, rfl, hk.1, by rw [hb.ix]; exact hk.2⟩
  · obtain ⟨bs, hb⟩ := b1 s hs
    rw [PgB.fl (show PgB kd it σ _ _ bs from hb)]
    exact b2 s hs
  · rw [b3, h4.2, row_al h3, cnS_al h3 h4 32 (Nat.le_refl _), h1]
    show nI ((sL S).filter (fun e => e.2.1)).length = _
    congr 1
    have hp32 : ∀ e ∈ sL S, e.2.2.2 ≤ 32 := fun e he => (hi.1.1 e he).2.1
    unfold cAl
    generalize sL S = l at hp32
    induction l with
    | nil => rfl
    | cons e l ih2 =>
      have hl : ∀ q : En → Bool, ((e :: l).filter q).length = (if q e = true then 1 else 0) + (l.filter q).length := fun q => by
        rw [List.filter_cons]
        split
        · rw [List.length_cons]; omega
        · omega
      have ih3 := ih2 (fun x hx => hp32 x (List.mem_cons_of_mem _ hx))
      have := hp32 e List.mem_cons_self
      rw [hl, hl, hl, ih3]
      cases ha : e.2.1 with
      | false => simp
      | true =>
        simp only [Bool.true_and, decide_eq_true_eq, beq_iff_eq, if_true]
        by_cases h1 : e.2.2.2 = 32
        · rw [if_pos h1, if_neg (by omega)]; omega
        · rw [if_neg h1, if_pos (by omega)]; omega
  · rw [b4]
    congr 1
    have : ∀ n, n ≤ 64 → sumP S n = sumR ad (xR σ) n := by
      intro n
      induction n with
      | zero => intro _; rfl
      | succ n ih =>
        intro hn
        obtain ⟨bs, hb⟩ := b1 n (by omega)
        show sumP S n + (sP S n).length = sumR ad (xR σ) n + (xR σ (ad (11 + n))).length
        rw [ih (by omega), PgB.len (show PgB kd it σ _ _ bs from hb)]
    exact this 64 (Nat.le_refl _)
/-- check changes nothing that counts -/
theorem Rel.row9 (hst : CSt ad ar ow cap kd) (hc : CWF ad kd σ) (h : Rel ad kd it σ S) (L : List (Option Nat)) : Rel ad kd it (zRr σ (ad 9) L) S := by
  obtain ⟨Z, h1, h2, h3, h4, h5, h6⟩ := h
  refine ⟨Z, h1, h2, h3, ⟨fun j hj => ?_, ?_⟩, ⟨fun s hs => ?_, h5.2⟩, ?_⟩
  · show xR (zRr σ (ad 9) L) (xG σ j) = _
    rw [zRr_ne (hc.2.2.2.2.2.1 j hj 9 (by decide) (by decide))]
    exact h4.1 j hj
  · show xR (zRr σ (ad 9) L) (xO σ) = _
    rw [zRr_ne (hc.2.2.2.2.2.2.1 9 (by decide) (by decide))]
    exact h4.2
  · show ∃ bs : List Nat, xR (zRr σ (ad 9) L) (ad (11 + s)) = _ ∧ _
    rw [zRr_ne (pgne hst hs (by decide) (by decide))]
    exact h5.1 s hs
  · rw [zRr_ne (adne hst (by decide) (by decide) (by decide))]
    exact h6
/-- the beginning -/
theorem Rel.start {g : Nat → Nat} {o : Nat} : Rel ad kd it (sg0 g o) S00 ∧ Inv S00 := by
  refine ⟨⟨[], rfl, List.nodup_nil, fun z hz => (by cases hz), ⟨fun j hj => rfl, rfl⟩, ⟨fun s hs => ⟨[], rfl, rfl, fun b hb => (by cases hb)⟩, fun s hs => rfl, rfl, ?_, rfl, rfl, fun j hj => rfl, rfl, rfl⟩, rfl⟩, ⟨⟨fun e he => (by cases he), fun j _ => (by show (0 : Nat) ≤ 32; decide), rfl, (by show (0 : Nat) ≤ 32; decide), List.Pairwise.nil⟩, List.Pairwise.nil, fun s _ => ⟨fun e he => (by cases he), (by show (0 : Nat) ≤ 32; decide), List.Pairwise.nil⟩, (by show (0 : Nat) < 8; decide), fun _ => Nat.zero_le _, (by show (0 : Nat) ≤ 3; decide)⟩⟩
  have hsum : ∀ n, sumP S00 n = 0 := by
    intro n
    induction n with
    | zero => rfl
    | succ n ih => show sumP S00 n + 0 = 0; omega
  show (0 : Int32) = nI (sumP S00 64)
  rw [hsum]
  rfl
end OPT
