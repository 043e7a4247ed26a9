theorem forget_fin {S : SS} {D : List En} {R : List En} (hs : sL S = D ++ R) (hd : ∀ e ∈ D, isOut e = true ∧ e.2.1 = false) (hr : ∀ e ∈ R, isOut e = false) : sL (forget S) = R := by
  rw [forget_L, hs, List.filter_append]
  have e1 : D.filter (fun e => !(isOut e && !e.2.1)) = [] := List.filter_eq_nil_iff.mpr fun e he => by simp [hd e he]
  have e2 : R.filter (fun e => !(isOut e && !e.2.1)) = R := List.filter_eq_self.mpr fun e he => by simp [hr e he]
  rw [e1, e2]
  rfl
/-- the bounds that stay -/
def CPa (ad cap : Nat → Nat) : Prop := cap (ad 8) = 272 ∧ (∀ q, q < 64 → cap (ad (11 + q)) = 8) ∧ cap (ad 9) = 264 ∧ cap (ad 10) = 32
section APP
variable {ad ar ow cap kd : Nat → Nat} {it : Nat → Da} {σ : CS} {S : SS}
/-- the head is emptied -/
theorem E_all {Z : List ZE} {h : Nat} (hst : CSt ad ar ow cap kd) (hcap : CPa ad cap) (hc : CWF ad kd σ) (hcr : CPr cap σ) (hh : h < 8) (hH : sH S = (h + 1) % 8) (hs : Z.map Prod.snd = sL S) (hnd : (Z.map Prod.fst).Nodup) (hz : ZOk kd it σ Z) (hr : RZ σ Z) (hb : RB ad kd it σ S) (hl : LI (sL S) h (sN S) 0) (hO : sO S = 0) (hk : keyD (sL S)) (hp : PI (sP S)) (hn : ∀ j, sN S j ≤ 4) :
    Rel ad kd it (emptyC ad cap it σ) (emptyS S ((h + 1) % 8)) ∧ Inv (emptyS S ((h + 1) % 8)) ∧ OkE S ((h + 1) % 8) ∧ CPr cap (emptyC ad cap it σ) ∧ mkd (sL (emptyS S ((h + 1) % 8))) ≤ mkd (sL S) ∧ (0 < sO (emptyS S ((h + 1) % 8)) → mkd (sL (emptyS S ((h + 1) % 8))) < mkd (sL S)) := by
  obtain ⟨ZO, ZR, r1, r2, lb1, lb2, -⟩ := E_start hst hc hcap.2.2.2 hh hH hs hnd hz hr hb hl hO hk hp hn
  have hcr1 : CPr cap (em1 ad cap σ) := by
    obtain ⟨-, -, -, -, -, -, -, -, m9, m10, -⟩ := em1_all ad cap σ
    exact ⟨fun j hj => by rw [m10]; exact hcr.1 j hj, by rw [m9]; exact hcr.2⟩
  have hc1 : CWF ad kd (em1 ad cap σ) := hc.em1 hst
  obtain ⟨D', ZR', q1, q2, q3, q4, q5, q6⟩ := E_loop hst ⟨hcap.1, hcap.2.1, hcap.2.2.1⟩ (xR (em1 ad cap σ) (ad 10)).length 0 (em1 ad cap σ) _ [] ZO ZR (by omega) hc1 hcr1 r1 r2
  rw [List.length_nil] at q1 q2 q4 q5
  rw [Nat.zero_add] at q5 q1
  generalize hF : forget (outS S ((h + 1) % 8)) = F at *
  have hlen : (sL F).length = ZO.length + ZR.length := by rw [r1.1, List.nil_append, List.length_map, List.length_append]
  have hSl : sL (loopS ZO.length 0 F) = D' ++ ZR'.map Prod.snd := by rw [q1.1]; rfl
  have hRo : ∀ e ∈ ZR'.map Prod.snd, isOut e = false ∧ e.2.2.2 < 40 := fun e he => by
    have := (q2.1.1 e he).2.1
    refine ⟨?_, by omega⟩
    unfold isOut
    simp
    omega
  have hno := loop_noop ZR.length ZO.length (loopS ZO.length 0 F) (fun j h1 h2 => by
    have hj : j - D'.length < (ZR'.map Prod.snd).length := by rw [List.length_map]; omega
    refine ⟨(ZR'.map Prod.snd)[j - D'.length], ?_, fun z => ?_, (hRo _ (List.getElem_mem hj)).2⟩
    · rw [hSl, List.getElem?_append_right (by omega), List.getElem?_eq_getElem hj]
    · rw [(hRo _ (List.getElem_mem hj)).1] at z
      cases z.1)
  have hloop : loopS (sL F).length 0 F = loopS ZO.length 0 F := by
    rw [hlen, loopS_add, Nat.zero_add, hno.1]
  have hE : emptyS S ((h + 1) % 8) = forget (loopS ZO.length 0 F) := by
    unfold emptyS
    rw [hF, hloop]
  have hok : OkL (sL F).length 0 F := by
    rw [hlen]
    refine OkL_add _ _ _ _ q4 ?_
    rw [Nat.zero_add]
    exact hno.2
  have hlbl : Lb (loopS (sL F).length 0 F) := by
    rw [hloop]
    exact q1.lb q2
  generalize hS' : loopS ZO.length 0 F = S' at *
  have hSf : sL (forget S') = ZR'.map Prod.snd := forget_fin hSl (fun e he => ⟨(q1.2.1 e he).1, (q1.2.1 e he).2.1⟩) (fun e he => (hRo e he).1)
  have hcs : CWF ad kd (stlC ad cap it (xR (em1 ad cap σ) (ad 10)).length 0 (em1 ad cap σ)) := stlC_ok hst _ _ _ hc1
  rw [hE]
  obtain ⟨k1, k2, k3, k4, k5, k6, k7, k8⟩ := q1
  obtain ⟨i1, i2, i3, i4, i5, i6, i7, i8, i9, i10, i11⟩ := q2
  unfold emptyC
  generalize stlC ad cap it (xR (em1 ad cap σ) (ad 10)).length 0 (em1 ad cap σ) = τ at *
  have hmk : mkd (sL (forget S')) ≤ mkd (sL S') := by
    rw [hSf, hSl, mkd_app]
    omega
  refine ⟨⟨ZR', hSf.symm, ?_, fun z hzm => k5 z (by rw [List.nil_append]; exact hzm), ⟨fun j hj => ?_, ?_⟩, ?_, zRr_same⟩, ⟨?_, ?_, i3, i4, i5, i6⟩, ⟨lb1, lb2, by rw [hF]; exact hok, by rw [hF]; exact hlbl⟩, q3, Nat.le_trans hmk i10, fun z => Nat.lt_of_le_of_lt hmk (i11 z)⟩
  · rw [List.nil_append] at k4
    exact k4
  · show xR (zRr τ (ad 10) []) (xG τ j) = _
    rw [zRr_ne (hcs.2.2.2.2.2.1 j hj 10 (by decide) (by decide))]
    exact k6.1 j hj
  · show xR (zRr τ (ad 10) []) (xO τ) = _
    rw [zRr_ne (hcs.2.2.2.2.2.2.1 10 (by decide) (by decide))]
    exact k6.2
  · obtain ⟨b1, b2, b3, b4⟩ := k7
    refine ⟨fun s hs2 => ?_, b2, ?_, b4⟩
    · show ∃ bs : List Nat, xR (zRr τ (ad 10) []) (ad (11 + s)) = _ ∧ _
      rw [zRr_ne (pgne hst hs2 (by decide) (by decide))]
      exact b1 s hs2
    · show xV τ = nI ((sL (forget S')).filter (fun e => e.2.1)).length
      rw [hSf, b3]
      show nI ((sL S').filter (fun e => e.2.1)).length = _
      rw [hSl, cnt_app]
      have : D'.filter (fun e => e.2.1) = [] := List.filter_eq_nil_iff.mpr fun e he => by simp [(k2 e he).2.1]
      rw [this, List.length_nil, Nat.zero_add]
  · show LI (sL (forget S')) _ _ _
    rw [hSf]
    exact i1
  · rw [hSf]
    rw [List.nil_append] at i2
    exact i2
/-- one turn of the loop of append -/
theorem Rel.turn (hst : CSt ad ar ow cap kd) (hcap : CPa ad cap) (hc : CWF ad kd σ) (hcr : CPr cap σ) (h : Rel ad kd it σ S) (hi : Inv S) : Rel ad kd it (turnC ad cap it σ) (writeS S) ∧ Inv (writeS S) ∧ OkW S ∧ CPr cap (turnC ad cap it σ) ∧ mkd (sL (writeS S)) ≤ mkd (sL S) ∧ (0 < sO (writeS S) → mkd (sL (writeS S)) < mkd (sL S)) := by
  obtain ⟨Z, h1, h2, h3, h4, h5, h6⟩ := h
  obtain ⟨i1, i2, i3, i4, i5, i6⟩ := hi
  have hH : xH σ = sH S := h5.2.2.2.2.2.1
  have hW : ∀ j, j < 8 → xW σ j = sN S j := h5.2.2.2.2.2.2.1
  have hw : xW σ (xH σ) < 4 := by rw [hH, hW _ i4]; omega
  have hwe : 4 * xH σ + xW σ (xH σ) = 4 * sH S + sN S (sH S) := by rw [hH, hW _ i4]
  have hno := i1.no i4 i6
  have rz := RZ.wop hc h4 hw (fun z hzm => by rw [hwe]; exact hno z.2 (by rw [← h1]; exact List.mem_map_of_mem hzm))
  rw [hwe] at rz
  have rb := h5.wop hc hw
  obtain ⟨w1, w2, w3, w4⟩ := wopC_I hw
  have hc1 := hc.wop
  have hcr1 : CPr cap (wopC σ) := hcr.wop (by rw [hH]; exact i4) hw
  have hsn : (Z.map (relz (4 * sH S + sN S (sH S)))).map Prod.snd = sL (wr0 S) := by rw [relz_snd, h1]; rfl
  have hnd : ((Z.map (relz (4 * sH S + sN S (sH S)))).map Prod.fst).Nodup := by rw [relz_fst]; exact h2
  have hz1 : ZOk kd it (wopC σ) (Z.map (relz (4 * sH S + sN S (sH S)))) := (h3.relz _).same w1 w2
  have hl1 : LI (sL (wr0 S)) (sH S) (sN (wr0 S)) 0 := i1.wop i4 i6
  have hk1 : keyD (sL (wr0 S)) := i2.map fun e _ => ⟨(relb_1 _ e).1, fun q => by rw [← (relb_1 (4 * sH S + sN S (sH S)) e).2.1]; exact q⟩
  have hn1 : ∀ j, sN (wr0 S) j ≤ 4 := fun j => by
    show va_up (sN S) (sH S) (sN S (sH S) + 1) j ≤ 4
    unfold va_up
    split
    · omega
    · exact i5 j
  have hmk1 : mkd (sL (wr0 S)) ≤ mkd (sL S) := mkd_map (g := relb (4 * sH S + sN S (sH S))) fun e _ q => by rw [(relb_1 _ e).2.1, (relb_1 _ e).2.2] at q; exact q
  have hlb : Lb S := fun e he => by
    have := (i1.1 e he).2.1
    exact ⟨by omega, fun z => by omega⟩
  have hx4 : xW (wopC σ) (xH (wopC σ)) = sN (wr0 S) (sH S) := by
    rw [w3, w4, va_up_self, hH, hW _ i4]
    show _ = va_up (sN S) (sH S) (sN S (sH S) + 1) (sH S)
    rw [va_up_self]
  have hN4 : sN (wr0 S) (sH S) = sN S (sH S) + 1 := va_up_self _ _ _
  by_cases h4c : sN (wr0 S) (sH S) = 4
  · -- the head is full
    have htc : turnC ad cap it σ = emptyC ad cap it (zH (zT (wopC σ) (inc (xT (wopC σ)) 0)) ((xH (wopC σ) + 1) % 8)) := if_pos (by rw [hx4, h4c]; exact Nat.le_refl _)
    have hc2 : CWF ad kd (zH (zT (wopC σ) (inc (xT (wopC σ)) 0)) ((xH (wopC σ) + 1) % 8)) := by
      obtain ⟨c1, c2, c3, c4, c5⟩ := hc1
      exact ⟨c1, c2, c3, Nat.mod_lt _ (by decide), c5⟩
    have hb2 : RB ad kd it (zH (zT (wopC σ) (inc (xT (wopC σ)) 0)) ((xH (wopC σ) + 1) % 8)) (turnS (wr0 S)) := by
      obtain ⟨b1, b2, b3, b4, b5, b6, b7, b8, b9⟩ := rb
      exact ⟨b1, b2, b3, b4, by show inc (xT (wopC σ)) 0 = inc (sC (wr0 S)) 0; rw [b5], by show (xH (wopC σ) + 1) % 8 = (sH (wr0 S) + 1) % 8; rw [b6], b7, b8, b9⟩
    obtain ⟨g1, g2, g3, g4, g5, g6⟩ := E_all (σ := zH (zT (wopC σ) (inc (xT (wopC σ)) 0)) ((xH (wopC σ) + 1) % 8)) (S := turnS (wr0 S)) (h := sH S) hst hcap hc2 hcr1 i4 rfl hsn hnd hz1 rz hb2 hl1 rfl hk1 i3 hn1
    have hws : writeS S = emptyS (turnS (wr0 S)) ((sH S + 1) % 8) := by
      unfold writeS
      rw [if_pos h4c]
      by_cases hpos : sN (turnS (wr0 S)) (sH (turnS (wr0 S))) > 0
      · rw [if_pos hpos]
        rfl
      · rw [if_neg hpos]
        have hz0 : sN (wr0 S) ((sH S + 1) % 8) = 0 := by
          have : ¬ sN (wr0 S) ((sH S + 1) % 8) > 0 := hpos
          omega
        refine (empty_id (S := turnS (wr0 S)) (fun e he => ?_) hz0).symm
        obtain ⟨-, e2, e3⟩ := hl1.1 e he
        refine ⟨by omega, fun z => ?_⟩
        have := e3 (by have := Nat.mod_lt (sH S + 1) (show 0 < 8 by decide); omega)
        rw [z, hz0] at this
        omega
    rw [htc, hws]
    exact ⟨g1, g2, ⟨hlb, i4, i6, i5, fun _ _ => g3⟩, g4, Nat.le_trans g5 hmk1, fun z => Nat.lt_of_lt_of_le (g6 z) hmk1⟩
  · have htc : turnC ad cap it σ = wopC σ := if_neg (by rw [hx4]; omega)
    have hws : writeS S = wr0 S := if_neg h4c
    rw [htc, hws]
    exact ⟨⟨_, hsn, hnd, hz1, rz, rb, (wopC_ad hc (by decide) (by decide)).trans h6⟩, ⟨hl1, hk1, i3, i4, hn1, by show sN (wr0 S) (sH S) ≤ 3; omega⟩, ⟨hlb, i4, i6, i5, fun z => absurd z h4c⟩, hcr1, hmk1, fun z => absurd z (by show ¬ 0 < 0; decide)⟩
end APP
/-! keys that are alive never come back -/
def AK (key : Int64) (l : List En) : Prop := ∃ e ∈ l, e.2.1 = true ∧ e.1.1 = key
theorem AK.map {key : Int64} {l : List En} {g : En → En} (hg : ∀ e, (g e).1 = e.1 ∧ ((g e).2.1 = true → e.2.1 = true)) (h : AK key (l.map g)) : AK key l := by
  obtain ⟨e, he, h1, h2⟩ := h
  obtain ⟨x, hx, rfl⟩ := List.mem_map.mp he
  exact ⟨x, hx, (hg x).2 h1, by rw [← (hg x).1]; exact h2⟩
theorem AK.sub {key : Int64} {l m : List En} (hs : ∀ e ∈ l, e ∈ m) (h : AK key l) : AK key m := by
  obtain ⟨e, he, h1⟩ := h
  exact ⟨e, hs e he, h1⟩
theorem AK.kill {key : Int64} {l : List En} {k : Nat} {e : En} (he : l[k]? = some e) (h : AK key (killAt l k)) : AK key l := by
  obtain ⟨x, hx, h1, h2⟩ := h
  rw [killAt_set he] at hx
  obtain ⟨i, hi⟩ := List.getElem?_of_mem hx
  rcases set_at hi with ⟨-, rfl, -⟩ | ⟨-, hi2⟩
  · cases h1
  · exact ⟨x, List.mem_of_getElem? hi2, h1, h2⟩
theorem AK.push {key : Int64} {l : List En} {d : Da} (h : AK key (l ++ [(d, true, false, 32)])) : AK key l ∨ d.1 = key := by
  obtain ⟨x, hx, h1, h2⟩ := h
  rcases List.mem_append.mp hx with hx | hx
  · exact Or.inl ⟨x, hx, h1, h2⟩
  · simp at hx
    subst hx
    exact Or.inr h2
theorem AK.step {key : Int64} {S : SS} {k : Nat} (h : AK key (sL (stepS S k))) : AK key (sL S) := by
  unfold stepS at h
  split at h
  · next e he =>
    split at h
    · next ho =>
      unfold handleS at h
      rw [he] at h
      dsimp only at h
      split at h
      · exact AK.map (g := fun e => if inSet _ e then kill1 e else e) (fun x => by
          constructor
          · split <;> rfl
          · split
            · intro z; cases z
            · exact id) h
      · split at h
        · have main : AK key (killAt (sL S) k) ∨ e.1.1 = key → AK key (sL S) := fun q => by
            rcases q with q | q
            · exact q.kill he
            · exact ⟨e, List.mem_of_getElem? he, ho.2, q⟩
          unfold anewS at h
          split at h
          · rcases AK.push (d := e.1) (l := (killAt (sL S) k).map (relb (4 * sH S + sN S (sH S)))) h with q | q
            · exact main (Or.inl (q.map fun x => ⟨(relb_1 _ x).1, fun z => by rw [← (relb_1 (4 * sH S + sN S (sH S)) x).2.1]; exact z⟩))
            · exact main (Or.inr q)
          · exact main (AK.push (d := e.1) (l := killAt (sL S) k) h)
        · rw [takeS_log.1] at h
          exact h.kill he
    · exact h
  · exact h
theorem AK.loop {key : Int64} : ∀ (n k : Nat) (S : SS), AK key (sL (loopS n k S)) → AK key (sL S) := by
  intro n
  induction n with
  | zero => intro k S h; exact h
  | succ n ih => intro k S h; exact (ih _ _ h).step
theorem AK.write {key : Int64} {S : SS} (h : AK key (sL (writeS S))) : AK key (sL S) := by
  have hw : AK key (sL (wr0 S)) → AK key (sL S) := fun q => AK.map (g := relb (4 * sH S + sN S (sH S))) (fun x => ⟨(relb_1 _ x).1, fun z => by rw [← (relb_1 (4 * sH S + sN S (sH S)) x).2.1]; exact z⟩) q
  unfold writeS at h
  split at h
  · split at h
    · refine hw ?_
      unfold emptyS at h
      rw [forget_L] at h
      have h1 := AK.loop _ _ _ (h.sub fun e he => (List.mem_filter.mp he).1)
      rw [forget_L] at h1
      exact AK.map (g := outE (sH (turnS (wr0 S)))) (fun x => ⟨(outE_1 _ x).1, fun z => by rw [← (outE_1 (sH (turnS (wr0 S))) x).2.1]; exact z⟩) (h1.sub fun e he => (List.mem_filter.mp he).1)
    · exact hw h
  · exact hw h
/-! a mark that is not there does not come by itself -/
def MkF (σ σ' : CS) : Prop := ∀ b, xM σ b = false → xM σ' b = false
theorem MkF.rf (σ : CS) : MkF σ σ := fun _ h => h
theorem MkF.tr {σ σ' σ'' : CS} (h : MkF σ σ') (h2 : MkF σ' σ'') : MkF σ σ'' := fun b hb => h2 b (h b hb)
theorem MkF.eq {σ σ' : CS} (h : xM σ' = xM σ) : MkF σ σ' := fun b hb => by rw [h]; exact hb
theorem wopC_M (σ : CS) : xM (wopC σ) = xM σ := by
  unfold wopC
  split <;> rfl
theorem MkF.anew (cap : Nat → Nat) (it : Nat → Da) (σ : CS) (a : Nat) : MkF σ (anewC cap it σ a) := by
  intro b hb
  have h1 : xM (an1 σ a) b = false := by
    show va_up (xM σ) a false b = false
    unfold va_up
    split
    · rfl
    · exact hb
  show xM (an2 it σ a) b = false
  unfold an2
  split
  · exact h1
  · rw [wopC_M]
    exact h1
theorem MkF.set (ad cap : Nat → Nat) (it : Nat → Da) (σ : CS) (a : Nat) : MkF σ (setC ad cap it σ a) := by
  unfold setC
  split
  · intro b hb
    show clrM (xM (killsC (xR σ (ad 9)) σ)) _ b = false
    unfold clrM
    split
    · rfl
    · rw [killsC_M]
      exact hb
  · split
    · exact MkF.anew cap it σ a
    · refine MkF.eq ?_
      rw [takeC_log.2.1]
      exact killC_M σ (some a)
theorem MkF.settle (ad cap : Nat → Nat) (it : Nat → Da) (σ : CS) (i : Nat) : MkF σ (settleC ad cap it σ i) := by
  unfold settleC
  split
  · exact MkF.rf σ
  · split
    · exact MkF.tr (MkF.eq rfl) (MkF.set ad cap it (gatherC ad cap it σ _ i) _)
    · exact MkF.rf σ
theorem MkF.stl (ad cap : Nat → Nat) (it : Nat → Da) : ∀ (n i : Nat) (σ : CS), MkF σ (stlC ad cap it n i σ) := by
  intro n
  induction n with
  | zero => intro i σ; exact MkF.rf σ
  | succ n ih => intro i σ; exact (MkF.settle ad cap it σ i).tr (ih _ _)
theorem MkF.turn (ad cap : Nat → Nat) (it : Nat → Da) (σ : CS) : MkF σ (turnC ad cap it σ) := by
  unfold turnC
  split
  · refine MkF.tr (MkF.eq (wopC_M σ)) ?_
    have h1 : MkF (wopC σ) (em1 ad cap (zH (zT (wopC σ) (inc (xT (wopC σ)) 0)) ((xH (wopC σ) + 1) % 8))) := MkF.eq (em1_all ad cap _).2.1
    exact h1.tr (MkF.stl ad cap it _ _ _)
  · exact MkF.eq (wopC_M σ)
section APQ
variable {ad ar ow cap kd : Nat → Nat} {it : Nat → Da}
/-- append's loop: both sides, and that the reference's conditions hold -/
theorem Rel.loop (hst : CSt ad ar ow cap kd) (hcap : CPa ad cap) {a : Nat} {d : Da} (hd : it a = d) (hok : okD d) : ∀ (n : Nat) (σ : CS) (S : SS), CWF ad kd σ → CPr cap σ → Rel ad kd it σ S → Inv S → ((sO S + plc d ≤ 32 ∧ 1 ≤ n) ∨ mkd (sL S) + 2 ≤ n) →
    ∃ S', Rel ad kd it (appC ad cap it a n σ) S' ∧ Inv S' ∧ sO S' + plc d ≤ 32 ∧ appS n S d = pushS S' d ∧ OkA n S d ∧ CWF ad kd (appC ad cap it a n σ) ∧ CPr cap (appC ad cap it a n σ) ∧ MkF σ (appC ad cap it a n σ) ∧ (∀ key, AK key (sL S') → AK key (sL S)) := by
  intro n
  induction n with
  | zero => intro σ S _ _ _ _ h; omega
  | succ n ih =>
    intro σ S hc hcr h hi hm
    have hroom : plR it (xR σ (xO σ)) + plc (it a) = sO S + plc d := by
      obtain ⟨Z, h1, h2, h3, h4, h5, h6⟩ := h
      rw [h4.2, plR_row h3, h1, hi.1.2.2.1, hd]
    by_cases hr : sO S + plc d ≤ 32
    · have e1 : appC ad cap it a (n + 1) σ = σ := if_pos (by rw [hroom]; exact hr)
      have e2 : appS (n + 1) S d = pushS S d := if_neg (by omega)
      rw [e1, e2]
      refine ⟨S, h, hi, hr, rfl, ⟨hi.1.2.2.2.1, ?_⟩, hc, hcr, MkF.rf σ, fun _ q => q⟩
      rw [if_neg (by omega)]
      have := hi.1.len
      omega
    · have e1 : appC ad cap it a (n + 1) σ = appC ad cap it a n (turnC ad cap it σ) := if_neg (by rw [hroom]; exact hr)
      have e2 : appS (n + 1) S d = appS n (writeS S) d := if_pos (by omega)
      obtain ⟨t1, t2, t3, t4, t5, t6⟩ := h.turn hst hcap hc hcr hi
      have hpl := plc_le hok
      obtain ⟨S', g1, g2, g3, g4, g5, g6, g7, g8, g9⟩ := ih (turnC ad cap it σ) (writeS S) (hc.turn hst) t4 t1 t2 (by
        by_cases hz : sO (writeS S) = 0
        · left; omega
        · right
          have := t6 (by omega)
          omega)
      rw [e1, e2]
      refine ⟨S', g1, g2, g3, g4, ⟨hi.1.2.2.2.1, ?_⟩, g6, g7, (MkF.turn ad cap it σ).tr g8, fun key q => (g9 key q).write⟩
      rw [if_pos (by omega)]
      exact ⟨t3, g5⟩
/-- the new item, before it is in the log -/
theorem Rel.new {σ : CS} {S : SS} {q : Nat} {d : Da} (hf : Frs kd q) (h : Rel ad kd it σ S) : Rel ad kd (va_up it q d) (newS σ q) S := by
  obtain ⟨Z, h1, h2, h3, h4, h5, h6⟩ := h
  have hne : ∀ b, kd b = 1 → b ≠ q := fun b hb z => hf 1 (by decide) (by decide) (z ▸ hb)
  refine ⟨Z, h1, h2, fun z hz => ?_, h4, ⟨fun s hs => ?_, h5.2⟩, h6⟩
  · obtain ⟨k1, k2, k3, k4⟩ := h3 z hz
    have := hne _ k1
    refine ⟨k1, by rw [va_up_ne _ _ this]; exact k2, ?_, ?_⟩
    · show va_up (xI σ) q false z.1 = _
      rw [va_up_ne _ _ this]
      exact k3
    · show _ → va_up (xM σ) q false z.1 = _
      rw [va_up_ne _ _ this]
      exact k4
  · obtain ⟨bs, b1, b2, b3⟩ := h5.1 s hs
    refine ⟨bs, b1, ?_, fun b hb => ⟨(b3 b hb).1, ?_⟩⟩
    · rw [← b2]
      refine List.map_congr_left fun b hb => ?_
      have := hne _ (b3 b hb).1
      show (va_up it q d b, va_up (xM σ) q false b) = _
      rw [va_up_ne _ _ this, va_up_ne _ _ this]
    · show va_up (xI σ) q false b = _
      rw [va_up_ne _ _ (hne _ (b3 b hb).1)]
      exact (b3 b hb).2
/-- put -/
theorem Rel.put {σ : CS} {S : SS} (hst : CSt ad ar ow cap kd) (hcap : CPa ad cap) (hc : CWF ad kd σ) (hcr : CPr cap σ) (h : Rel ad kd it σ S) (hi : Inv S) {d : Da} (hok : okD d) {q : Nat} (hf : Frs kd q) :
    Rel ad (va_up kd q 1) (va_up it q d) (putC ad cap it σ d q) (appS 1000 (killKey S d.1) d) ∧ Inv (appS 1000 (killKey S d.1) d) ∧ OkA 1000 (killKey S d.1) d ∧ CWF ad (va_up kd q 1) (putC ad cap it σ d q) ∧ CPr cap (putC ad cap it σ d q) := by
  obtain ⟨k1, k2, -⟩ := h.kk hi d.1
  have hck := hc.kill (findC it σ d.1)
  have hcn : CWF ad kd (newS (putK ad cap it σ d.1) q) := hck
  have hcrk : CPr cap (newS (putK ad cap it σ d.1) q) := by
    obtain ⟨e1, e2⟩ := killC_G σ (findC it σ d.1)
    exact ⟨fun j hj => by show cap (xG (killC σ (findC it σ d.1)).1 j) = 8; rw [e1]; exact hcr.1 j hj, by show cap (xO (killC σ (findC it σ d.1)).1) = 8; rw [e2]; exact hcr.2⟩
  have hmk : mkd (sL (killKey S d.1)) ≤ 264 := Nat.le_trans (List.length_filter_le _ _) k2.1.len
  obtain ⟨S', g1, g2, g3, g4, g5, g6, g7, g8, g9⟩ := Rel.loop (a := q) hst hcap (va_up_self _ _ _ : va_up it q d q = d) hok 1000 _ _ hcn hcrk (k1.new (d := d) hf) k2 (Or.inr (by omega))
  rw [g4]
  unfold putC appendC
  have hmq : xM (appC ad cap (va_up it q d) q 1000 (newS (putK ad cap it σ d.1) q)) q = false := g8 q (va_up_self _ _ _)
  generalize appC ad cap (va_up it q d) q 1000 (newS (putK ad cap it σ d.1) q) = τ at *
  have hnk : ¬ AK d.1 (sL S') := fun z => by
    obtain ⟨e, he, h1, h2⟩ := g9 _ z
    exact killKey_none hi d.1 e he ⟨h1, h2⟩
  obtain ⟨Z, z1, z2, z3, z4, z5, z6⟩ := g1
  obtain ⟨i1, i2, i3, i4, i5, i6⟩ := g2
  have hne : ∀ b, kd b = 1 → b ≠ q := fun b hb z => hf 1 (by decide) (by decide) (z ▸ hb)
  have hlt : (rowOf Z 32).length < cap (xO τ) := by
    rw [g7.2, row_len, z1]
    have q1 := plS_len (l := onP 32 (sL S')) (fun x hx => (i1.1 x (List.mem_filter.mp hx).1).1)
    have q2 : plS (onP 32 (sL S')) = sO S' := i1.2.2.1
    have q3 := plc_ge hok
    omega
  have hce : CWF ad (va_up kd q 1) (zV (zI τ (va_up (xI τ) q true)) (xV τ + 1)) := by
    obtain ⟨⟨c1, c2⟩, c3, c4, c5⟩ := g6
    exact ⟨⟨fun r hr a ha => new_kd1 (c1 r ((new_kd hf (by omega) (by omega)).mp hr) a ha), fun r hr => c2 r ((new_kd hf (by omega) (by omega)).mp hr)⟩, fun j hj => (new_kd hf (by omega) (by omega)).mpr (c3 j hj), (new_kd hf (by omega) (by omega)).mpr c4, c5⟩
  refine ⟨⟨Z ++ [(q, (d, true, false, 32))], ?_, ?_, fun z hz => ?_, RZ.add (σ := zV (zI τ (va_up (xI τ) q true)) (xV τ + 1)) hce z4 hlt, ⟨fun s hs => ?_, z5.2.1, ?_, z5.2.2.2⟩, ?_⟩, ⟨i1.push hok g3, ?_, i3, i4, i5, i6⟩, g5, CWF.add hce (va_up_self _ _ _), g7⟩
  · rw [List.map_append, z1]
    rfl
  · rw [List.map_append, List.nodup_append]
    refine ⟨z2, by simp, fun x hx y hy => ?_⟩
    obtain ⟨z, hz, rfl⟩ := List.mem_map.mp hx
    simp at hy
    subst hy
    exact hne _ (z3 z hz).1
  · rcases List.mem_append.mp hz with hz | hz
    · obtain ⟨a1, a2, a3, a4⟩ := z3 z hz
      refine ⟨new_kd1 a1, a2, ?_, a4⟩
      show va_up (xI τ) q true z.1 = _
      rw [va_up_ne _ _ (hne _ a1)]
      exact a3
    · simp at hz
      subst hz
      exact ⟨va_up_self _ _ _, va_up_self _ _ _, va_up_self _ _ _, fun _ => hmq⟩
  · obtain ⟨bs, b1, b2, b3⟩ := z5.1 s hs
    refine ⟨bs, ?_, b2, fun b hb => ⟨new_kd1 (b3 b hb).1, ?_⟩⟩
    · show xR (addO cap (zV (zI τ (va_up (xI τ) q true)) (xV τ + 1)) q) (ad (11 + s)) = _
      rw [addO_ad (σ := zV (zI τ (va_up (xI τ) q true)) (xV τ + 1)) hce q (by omega) (by omega)]
      exact b1
    · show va_up (xI τ) q true b = false
      rw [va_up_ne _ _ (hne _ (b3 b hb).1)]
      exact (b3 b hb).2
  · show xV τ + 1 = nI ((sL S' ++ [((d, true, false, 32) : En)]).filter (fun e => e.2.1)).length
    rw [cnt_push, ← nI_1, z5.2.2.1]
    rfl
  · show xR (addO cap (zV (zI τ (va_up (xI τ) q true)) (xV τ + 1)) q) (ad 10) = []
    rw [addO_ad (σ := zV (zI τ (va_up (xI τ) q true)) (xV τ + 1)) hce q (by decide) (by decide)]
    exact z6
  · show keyD (sL S' ++ [((d, true, false, 32) : En)])
    unfold keyD
    rw [List.pairwise_append]
    refine ⟨i2, by simp, fun x hx y hy x1 _ he => ?_⟩
    simp at hy
    subst hy
    exact hnk ⟨x, hx, x1, he⟩
end APQ
