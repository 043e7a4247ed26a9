def mkd (l : List En) : Nat := (l.filter (fun e => e.2.1 && e.2.2.1)).length
def RelE (ad kd : Nat → Nat) (it : Nat → Da) (σ : CS) (S : SS) (D : List En) (ZO ZR : List ZE) (i : Nat) : Prop :=
  sL S = D ++ (ZO ++ ZR).map Prod.snd ∧ (∀ e ∈ D, isOut e = true ∧ e.2.1 = false ∧ okD e.1) ∧ (∀ z ∈ ZO, isOut z.2 = true ∧ okD z.2.1) ∧ ((ZO ++ ZR).map Prod.fst).Nodup ∧ ZOk kd it σ (ZO ++ ZR) ∧ RZ σ ZR ∧ RB ad kd it σ S ∧ ((xR σ (ad 10)).drop i).filter (inL (xI σ)) = (ZO.filter (fun z => z.2.2.1)).map (fun z => some z.1)
def InvE (S : SS) (ZO ZR : List ZE) (M0 : Nat) : Prop := LI (ZR.map Prod.snd) (sH S) (sN S) (sO S) ∧ keyD ((ZO ++ ZR).map Prod.snd) ∧ PI (sP S) ∧ sH S < 8 ∧ (∀ j, sN S j ≤ 4) ∧ sN S (sH S) ≤ 3 ∧ safe (sN S (sH S)) (sO S) (ZO.map Prod.snd) ∧ ((sL S).filter (fun e => e.2.1)).length ≤ 264 ∧ (sL S).length + ZO.length ≤ 528 ∧ mkd (sL S) ≤ M0 ∧ (0 < sO S → mkd (sL S) < M0)
def killF (s : Nat) (e : En) : En := if inSet s e then kill1 e else e
theorem killF_1 (s : Nat) (e : En) : (killF s e).1 = e.1 ∧ (killF s e).2.2.2 = e.2.2.2 ∧ ((killF s e).2.1 = true → e.2.1 = true) ∧ (killF s e).2.2.1 = e.2.2.1 := by
  unfold killF
  split
  · exact ⟨rfl, rfl, (fun z => (by cases z)), rfl⟩
  · exact ⟨rfl, rfl, id, rfl⟩
def killZ (s : Nat) (z : ZE) : ZE := (z.1, killF s z.2)
theorem killF_out (s : Nat) (e : En) : isOut (killF s e) = isOut e := by
  unfold isOut
  rw [(killF_1 s e).2.1]
theorem safe_skip : ∀ (l1 : List En) {l2 : List En} {p f : Nat}, safe p f (l1 ++ l2) → safe p f l2 := by
  intro l1
  induction l1 with
  | nil => intro l2 p f h; exact h
  | cons e l1 ih => intro l2 p f h; exact ih h.2.1
theorem mkd_map {l : List En} {g : En → En} (hg : ∀ e ∈ l, ((g e).2.1 && (g e).2.2.1) = true → (e.2.1 && e.2.2.1) = true) : mkd (l.map g) ≤ mkd l := by
  unfold mkd
  rw [List.filter_map, List.length_map]
  induction l with
  | nil => exact Nat.le_refl _
  | cons e l ih =>
    have h1 := ih (fun x hx => hg x (List.mem_cons_of_mem _ hx))
    rw [List.filter_cons, List.filter_cons]
    split
    · next h2 =>
      rw [if_pos (hg e List.mem_cons_self h2)]
      simp only [List.length_cons]
      omega
    · split
      · simp only [List.length_cons]; omega
      · exact h1
theorem drop_dead {D : List En} (h : ∀ e ∈ D, e.2.1 = false) (s : Nat) : D.filter (inSet s) = [] := List.filter_eq_nil_iff.mpr fun e he => by unfold inSet; simp [h e he]
theorem inL_sel {it : Nat → Da} {il : Nat → Bool} {s : Nat} (l : List (Option Nat)) : l.filter (selO it il s) = (l.filter (inL il)).filter (selO it il s) := by
  rw [List.filter_filter]
  refine List.filter_congr fun o _ => ?_
  cases o with
  | none => rfl
  | some a =>
    show (il a && setN (it a).1 == s) = (((il a && setN (it a).1 == s)) && il a)
    cases il a <;> simp
theorem moveC_G (ad cap : Nat → Nat) (it : Nat → Da) (σ : CS) (s rg : Nat) : xG (moveC ad cap it σ s rg) = xG σ := rfl
theorem moveC_O (ad cap : Nat → Nat) (it : Nat → Da) (σ : CS) (s rg : Nat) : xO (moveC ad cap it σ s rg) = xO σ := rfl
theorem killC_G (σ : CS) (o : Option Nat) : xG (killC σ o).1 = xG σ ∧ xO (killC σ o).1 = xO σ := by
  unfold killC
  split
  · split <;> exact ⟨rfl, rfl⟩
  · exact ⟨rfl, rfl⟩
theorem killsC_G : ∀ (os : List (Option Nat)) (σ : CS), xG (killsC os σ) = xG σ := by
  intro os
  induction os with
  | nil => intro σ; rfl
  | cons o os ih => intro σ; exact (ih _).trans (killC_G σ o).1
theorem killsC_O : ∀ (os : List (Option Nat)) (σ : CS), xO (killsC os σ) = xO σ := by
  intro os
  induction os with
  | nil => intro σ; rfl
  | cons o os ih => intro σ; exact (ih _).trans (killC_G σ o).2
section ESTEP
variable {ad ar ow cap kd : Nat → Nat} {it : Nat → Da} {σ : CS} {S : SS} {D : List En} {ZO ZR : List ZE} {i M0 : Nat}
theorem RelE.live (h : RelE ad kd it σ S D ZO ZR i) (s : Nat) : (sL S).filter (inSet s) = ((ZO ++ ZR).filter (fun z => inSet s z.2)).map Prod.snd := by
  rw [h.1, List.filter_append, drop_dead (fun e he => (h.2.1 e he).2.1), List.nil_append, List.filter_map]
  rfl
theorem RelE.gather (h : RelE ad kd it σ S D ZO ZR i) (hI : InvE S ZO ZR M0) (s : Nat) : gaL ad it σ s i = (((ZO ++ ZR).filter (fun z => inSet s z.2)).map Prod.fst).map some := by
  obtain ⟨h1, h2, h3, h4, h5, h6, h7, h8⟩ := h
  have hH : xH σ = sH S := h7.2.2.2.2.2.1
  have zR : ZOk kd it σ ZR := fun z hz => h5 z (List.mem_append_right _ hz)
  have zO : ZOk kd it σ ZO := fun z hz => h5 z (List.mem_append_left _ hz)
  unfold gaL
  rw [List.append_assoc, ring_all h6 (fun z hz => (hI.1.1 z.2 (List.mem_map_of_mem hz)).2.1) (by rw [hH]; exact hI.2.2.2.1) (by
    have := hI.1.2.2.2.2
    rw [List.pairwise_map] at this
    rw [hH]
    exact this), sel_Z zR, inL_sel, h8, sel_Z (Z := ZO.filter (fun z => z.2.2.1)) (fun z hz => zO z (List.mem_filter.mp hz).1), List.filter_filter, List.filter_append, List.map_append, List.map_append, List.map_map, List.map_map]
  congr 1
  have : ZO.filter (fun z => inSet s z.2 && z.2.2.1) = ZO.filter (fun z => inSet s z.2) := List.filter_congr fun z _ => by
    unfold inSet
    cases z.2.2.1 <;> simp
  rw [this]
  rfl
theorem RelE.row9 (hst : CSt ad ar ow cap kd) (hc : CWF ad kd σ) (h : RelE ad kd it σ S D ZO ZR i) (L : List (Option Nat)) : RelE ad kd it (zRr σ (ad 9) L) S D ZO ZR i := by
  obtain ⟨h1, h2, h3, h4, h5, h6, h7, h8⟩ := h
  refine ⟨h1, h2, h3, h4, h5, ⟨fun j hj => ?_, ?_⟩, ⟨fun s hs => ?_, h7.2⟩, ?_⟩
  · show xR (zRr σ (ad 9) L) (xG σ j) = _
    rw [zRr_ne (hc.2.2.2.2.2.1 j hj 9 (by decide) (by decide))]
    exact h6.1 j hj
  · show xR (zRr σ (ad 9) L) (xO σ) = _
    rw [zRr_ne (hc.2.2.2.2.2.2.1 9 (by decide) (by decide))]
    exact h6.2
  · show ∃ bs : List Nat, xR (zRr σ (ad 9) L) (ad (11 + s)) = _ ∧ _
    rw [zRr_ne (pgne hst hs (by decide) (by decide))]
    exact h7.1 s hs
  · show ((xR (zRr σ (ad 9) L) (ad 10)).drop i).filter (inL (xI σ)) = _
    rw [zRr_ne (adne hst (by decide) (by decide) (by decide))]
    exact h8
/-- what is left of takenOut -/
theorem T_step {T : List (Option Nat)} {il il' : Nat → Bool} {ZO1 ZO2 : List ZE} {a : Nat} {e : En} (hT : (T.drop i).filter (inL il) = ((ZO1 ++ (a, e) :: ZO2).filter (fun z => z.2.2.1)).map (fun z => some z.1)) (hd : ∀ z ∈ ZO1, z.2.2.1 = false) (hal : e.2.1 = true) (hi : T[i]? = some (some a)) (hia : il a = true) (hle : ∀ b, il' b = true → il b = true) {g : ZE → ZE} (hg : ∀ z ∈ ZO2, (g z).1 = z.1 ∧ (g z).2.2.1 = il' z.1 ∧ ((g z).2.2.1 = true → z.2.2.1 = true)) :
    (T.drop (i + 1)).filter (inL il') = ((ZO2.map g).filter (fun z => z.2.2.1)).map (fun z => some z.1) := by
  have h1 : T.drop i = some a :: T.drop (i + 1) := by
    obtain ⟨hlt, e1⟩ := List.getElem?_eq_some_iff.mp hi
    rw [List.drop_eq_getElem_cons hlt, e1]
  have h0 : ZO1.filter (fun z => z.2.2.1) = [] := List.filter_eq_nil_iff.mpr fun z hz => by simp [hd z hz]
  rw [h1, List.filter_cons_of_pos (by exact hia), List.filter_append, h0, List.nil_append, List.filter_cons_of_pos (by exact hal), List.map_cons] at hT
  have hT2 : (T.drop (i + 1)).filter (inL il) = (ZO2.filter (fun z => z.2.2.1)).map (fun z => some z.1) := (List.cons.inj hT).2
  have h2 : (T.drop (i + 1)).filter (inL il') = ((T.drop (i + 1)).filter (inL il)).filter (inL il') := by
    rw [List.filter_filter]
    refine List.filter_congr fun o _ => ?_
    cases o with
    | none => rfl
    | some b =>
      show il' b = (il' b && il b)
      cases hb : il' b with
      | false => rfl
      | true => rw [hle b hb]; rfl
  rw [h2, hT2, List.filter_map, List.filter_map, List.filter_filter, List.map_map]
  have h3 : ZO2.filter (fun z => ((inL il') ∘ fun z : ZE => some z.1) z && z.2.2.1) = ZO2.filter ((fun z : ZE => z.2.2.1) ∘ g) := List.filter_congr fun z hz => by
    obtain ⟨g1, g2, g3⟩ := hg z hz
    show (il' z.1 && z.2.2.1) = (g z).2.2.1
    rw [g2] at g3 ⊢
    cases hb : il' z.1 with
    | false => rfl
    | true => rw [g3 hb]; rfl
  rw [h3]
  refine List.map_congr_left fun z hz => ?_
  show some z.1 = some (g z).1
  rw [(hg z (List.mem_filter.mp hz).1).1]
theorem gs_mem {Z : List ZE} (hn : (Z.map Prod.fst).Nodup) {s : Nat} {z : ZE} (hz : z ∈ Z) : z.1 ∈ (Z.filter (fun z => inSet s z.2)).map Prod.fst ↔ inSet s z.2 = true := by
  constructor
  · intro h
    obtain ⟨y, hy, e⟩ := List.mem_map.mp h
    obtain ⟨y1, y2⟩ := List.mem_filter.mp hy
    rw [← nd_inj hn y1 hz e]
    exact y2
  · intro h
    exact List.mem_map_of_mem (f := Prod.fst) (List.mem_filter.mpr ⟨hz, h⟩)
/-- the case of two or more -/
theorem E_move (hst : CSt ad ar ow cap kd) (hcap : cap (ad 8) = 272 ∧ ∀ q, q < 64 → cap (ad (11 + q)) = 8) (hc : CWF ad kd σ) {ZO1 ZO2 : List ZE} {a : Nat} {e : En} (h : RelE ad kd it σ S D (ZO1 ++ (a, e) :: ZO2) ZR i) (hI : InvE S (ZO1 ++ (a, e) :: ZO2) ZR M0) (hd : ∀ z ∈ ZO1, z.2.2.1 = false) (hal : e.2.1 = true) (hTi : (xR σ (ad 10))[i]? = some (some a))
    (hgs : xR σ (ad 9) = ((((ZO1 ++ (a, e) :: ZO2) ++ ZR).filter (fun z => inSet (setN e.1.1) z.2)).map Prod.fst).map some) :
    RelE ad kd it (moveC ad cap it (killsC (xR σ (ad 9)) σ) (setN e.1.1) (ad 9)) (moveS S (setN e.1.1)) (D ++ ZO1.map Prod.snd ++ [kill1 e]) (ZO2.map (killZ (setN e.1.1))) (ZR.map (killZ (setN e.1.1))) (i + 1) ∧ InvE (moveS S (setN e.1.1)) (ZO2.map (killZ (setN e.1.1))) (ZR.map (killZ (setN e.1.1))) M0 := by
  have hlive := h.live (setN e.1.1)
  obtain ⟨h1, h2, h3, h4, h5, h6, h7, h8⟩ := h
  obtain ⟨i1, i2, i3, i4, i5, i6, i7, i8, i9, i10, i11⟩ := hI
  have hs := setN_lt e.1.1
  generalize hsd : setN e.1.1 = s at *
  generalize hZ : (ZO1 ++ (a, e) :: ZO2) ++ ZR = Z at *
  have hsub2 : List.Sublist (ZO2 ++ ZR) Z := by
    rw [← hZ, List.append_assoc]
    exact (List.sublist_cons_self (a, e) (ZO2 ++ ZR)).trans (List.sublist_append_right ZO1 _)
  have hae : (a, e) ∈ Z := by rw [← hZ]; simp
  have hes : inSet s e = true := by unfold inSet; simp [hal, hsd]
  have hokZ : ∀ z ∈ Z, okD z.2.1 := fun z hz => by
    rw [← hZ] at hz
    rcases List.mem_append.mp hz with hz | hz
    · exact (h3 z hz).2
    · exact (i1.1 z.2 (List.mem_map_of_mem hz)).1
  have hgmem : ∀ b ∈ (Z.filter (fun z => inSet s z.2)).map Prod.fst, ∃ z ∈ Z, z.1 = b ∧ inSet s z.2 = true := fun b hb => by
    obtain ⟨z, hz, rfl⟩ := List.mem_map.mp hb
    obtain ⟨z1, z2⟩ := List.mem_filter.mp hz
    exact ⟨z, z1, rfl, z2⟩
  rw [hgs]
  obtain ⟨bs', r1, r2, r3, r4, r5⟩ := RB.move hst hcap h7 i3 hs hgs (h4.sublist (List.filter_sublist.map _)) (fun b hb => by
      obtain ⟨z, z1, rfl, z2⟩ := hgmem b hb
      obtain ⟨k1, k2, k3, k4⟩ := h5 z z1
      exact ⟨by rw [k3]; exact (inSet_al z2).1, k1⟩) (by
      rw [List.length_map]
      have h9 := congrArg List.length hlive
      rw [List.length_map] at h9
      rw [← h9]
      refine Nat.le_trans ?_ i8
      refine List.Sublist.length_le ?_
      rw [show (sL S).filter (inSet s) = ((sL S).filter (fun e => e.2.1)).filter (inSet s) from by
        rw [List.filter_filter]
        refine List.filter_congr fun x _ => ?_
        unfold inSet
        cases x.2.1 <;> simp]
      exact List.filter_sublist) (by
      rw [hlive, List.map_map, List.map_map]
      refine List.map_congr_left fun z hz => ?_
      obtain ⟨z1, z2⟩ := List.mem_filter.mp hz
      obtain ⟨k1, k2, k3, k4⟩ := h5 z z1
      show (it z.1, xM σ z.1) = (z.2.1, z.2.2.2.1)
      rw [k2, k4 (inSet_al z2).1]) (fun b hb => by
      obtain ⟨z, z1, rfl, z2⟩ := hgmem b hb
      rw [(h5 z z1).2.1]
      exact hokZ z z1) (by
      rw [hlive]
      exact List.Pairwise.sublist (List.filter_sublist.map _) i2)
  have hF : ∀ l : List En, (∀ x ∈ l, x.2.1 = false) → l.map (fun e => if inSet s e then kill1 e else e) = l := fun l hl => by
    have : l.map (fun e => if inSet s e then kill1 e else e) = l.map id := List.map_congr_left fun x hx => by
      rw [if_neg (by unfold inSet; simp [hl x hx])]
      rfl
    rw [this, List.map_id]
  have hL : sL (moveS S s) = (D ++ ZO1.map Prod.snd ++ [kill1 e]) ++ ((ZO2.map (killZ s)) ++ (ZR.map (killZ s))).map Prod.snd := by
    show (sL S).map (fun e => if inSet s e then kill1 e else e) = _
    rw [h1, ← hZ]
    simp only [List.map_append, List.map_cons]
    rw [hF D (fun x hx => (h2 x hx).2.1), hF (ZO1.map Prod.snd) (fun x hx => by obtain ⟨z, hz, rfl⟩ := List.mem_map.mp hx; exact hd z hz)]
    simp only [hes, if_true, List.map_map]
    simp only [List.append_assoc, List.cons_append, List.nil_append]
    rfl
  have hmm : ∀ l : List ZE, (l.map (killZ s)).map Prod.snd = (l.map Prod.snd).map (killF s) := fun l => by rw [List.map_map, List.map_map]; rfl
  have hmf : ∀ l : List ZE, (l.map (killZ s)).map Prod.fst = l.map Prod.fst := fun l => by rw [List.map_map]; rfl
  have hadp : (ZR.map (killZ s)).map adp = ZR.map adp := by
    rw [List.map_map]
    refine List.map_congr_left fun z _ => ?_
    show (z.1, (killF s z.2).1, (killF s z.2).2.2.2) = _
    rw [(killF_1 s z.2).1, (killF_1 s z.2).2.1]
    rfl
  have hxI2 : ∀ z ∈ Z, xI (moveC ad cap it (killsC (((Z.filter (fun z => inSet s z.2)).map Prod.fst).map some) σ) s (ad 9)) z.1 = (killF s z.2).2.1 := fun z hz => by
    rw [r3]
    show (if z.1 ∈ (Z.filter (fun z => inSet s z.2)).map Prod.fst then false else xI σ z.1) = _
    by_cases hzs : inSet s z.2 = true
    · rw [if_pos ((gs_mem h4 hz).mpr hzs)]
      unfold killF
      rw [if_pos hzs]
      rfl
    · rw [if_neg (fun q => hzs ((gs_mem h4 hz).mp q)), (h5 z hz).2.2.1]
      unfold killF
      rw [if_neg hzs]
  refine ⟨⟨hL, ?_, ?_, ?_, ?_, ⟨fun j hj => ?_, ?_⟩, r1, ?_⟩, ?_, ?_, r2, i4, i5, i6, ?_, ?_, ?_, ?_, ?_⟩
  · intro x hx
    rcases List.mem_append.mp hx with hx | hx
    · rcases List.mem_append.mp hx with hx | hx
      · exact h2 x hx
      · obtain ⟨z, hz, rfl⟩ := List.mem_map.mp hx
        exact ⟨(h3 z (by simp [hz])).1, hd z hz, (h3 z (by simp [hz])).2⟩
    · simp at hx
      subst hx
      have := h3 (a, e) (by simp)
      exact ⟨this.1, rfl, this.2⟩
  · intro z hz
    obtain ⟨y, hy, rfl⟩ := List.mem_map.mp hz
    have := h3 y (by simp [hy])
    exact ⟨by rw [show (killZ s y).2 = killF s y.2 from rfl, killF_out]; exact this.1, by rw [show (killZ s y).2 = killF s y.2 from rfl, (killF_1 s y.2).1]; exact this.2⟩
  · rw [← List.map_append, hmf]
    exact h4.sublist (hsub2.map _)
  · intro z hz
    rw [← List.map_append] at hz
    obtain ⟨y, hy, rfl⟩ := List.mem_map.mp hz
    have hyZ := hsub2.subset hy
    obtain ⟨k1, k2, k3, k4⟩ := h5 y hyZ
    refine ⟨k1, by show it y.1 = (killF s y.2).1; rw [(killF_1 s y.2).1]; exact k2, hxI2 y hyZ, fun hz1 => ?_⟩
    have hz2 : (killF s y.2).2.1 = true := hz1
    have hns : ¬ inSet s y.2 = true := fun q => by unfold killF at hz2; rw [if_pos q] at hz2; cases hz2
    have hya := (killF_1 s y.2).2.2.1 hz2
    rw [r4]
    show (if y.1 ∈ bs' then false else xM σ y.1) = (killF s y.2).2.2.1
    rw [(killF_1 s y.2).2.2.2, if_neg (fun q => ?_)]
    · exact k4 hya
    · rcases r5 _ q with g1 | g1
      · exact hns ((gs_mem h4 hyZ).mp g1)
      · rw [k3, hya] at g1
        cases g1
  · rw [row_adp hadp, moveC_G, killsC_G, moveC_ne (hc.2.2.2.2.2.1 j hj 8 (by decide) (by decide)) (hc.2.2.2.2.2.1 j hj _ (by omega) (by omega)), killsC_R]
    exact h6.1 j hj
  · rw [row_adp hadp, moveC_O, killsC_O, moveC_ne (hc.2.2.2.2.2.2.1 8 (by decide) (by decide)) (hc.2.2.2.2.2.2.1 _ (by omega) (by omega)), killsC_R]
    exact h6.2
  · rw [moveC_ne (adne hst (by decide) (by decide) (by decide)) (Ne.symm (pgne hst hs (by decide) (by decide))), killsC_R]
    refine T_step h8 hd hal hTi (by rw [(h5 _ hae).2.2.1]; exact hal) (fun b hb => ?_) (fun z hz => ?_)
    · rw [r3] at hb
      unfold killI at hb
      split at hb
      · cases hb
      · exact hb
    · have hzZ : z ∈ Z := hsub2.subset (List.mem_append_left _ hz)
      exact ⟨rfl, (hxI2 z hzZ).symm, (killF_1 s z.2).2.2.1⟩
  · rw [hmm]
    exact i1.map fun x _ => ⟨(killF_1 s x).1, (killF_1 s x).2.1⟩
  · rw [← List.map_append, hmm]
    exact keyD.map (List.Pairwise.sublist (hsub2.map _) i2) fun x _ => ⟨(killF_1 s x).1, (killF_1 s x).2.2.1⟩
  · rw [hmm]
    refine safe_map (fun x => (killF_1 s x).1) _ _ _ ?_
    rw [List.map_append, List.map_cons] at i7
    exact (safe_skip _ i7).2.1
  · refine Nat.le_trans ?_ i8
    have := cnt_killS (sL S) s
    show (((sL S).map (fun e => if inSet s e then kill1 e else e)).filter (fun e => e.2.1)).length ≤ _
    omega
  · show ((sL S).map (fun e => if inSet s e then kill1 e else e)).length + _ ≤ _
    rw [List.length_map, List.length_map]
    rw [List.length_append, List.length_cons] at i9
    omega
  · exact Nat.le_trans (mkd_map (g := killF s) fun x _ hx => by
      unfold killF at hx
      split at hx
      · simp [kill1] at hx
      · exact hx) i10
  · intro ho
    exact Nat.lt_of_le_of_lt (mkd_map (g := killF s) fun x _ hx => by
      unfold killF at hx
      split at hx
      · simp [kill1] at hx
      · exact hx) (i11 ho)
end ESTEP
