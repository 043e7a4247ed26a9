section LAWA
variable {p : Program} {l : Launch} {e : Env} {s : State} {m : MethodId} {args : Array Value} {below : List Frame} {meth : Method} {c : Code} {R : Room} {own : String} {cc : ByteArray} {nL : Nat} {rt : Option FieldType} {G : Gd} {A : Nat → Prop} {Q : State → Prop} {k n : Nat} {I : Heap → Prop} {pc : Nat} {lv : List (Option Value)} {st : List Value}
theorem k_sld {b L : Nat} {xs : Nat → Int32} {i : Int32} {j : Nat} (hX : va_X b L xs s s.heap) (hbl : b < s.heap.size) (hbA : ¬ A b) (hi : i = nI j) (hj : j < L) (hL : L < 2 ^ 31) (hd : decode cc pc = .ok (.iaload, 1)) (kk : K p l e s m args below meth c R own cc nL rt G A Q k n I (pc + 1) lv (.int (xs j) :: st)) : K p l e s m args below meth c R own cc nL rt G A Q k n I pc lv (.int i :: .ref b :: st) := fun F H locs ls hI hS hl => by
  subst hi
  have h1 := kk F H locs ls hI hS hl
  have hcl : (nI j).toNatClampNeg = j := nI_clamp (by omega)
  refine va_sld F.1 F.2.1 hX hbl hbA hS (i := nI j) ?_ hd ?_
  · rintro (z | z)
    · exact nI_pos (by omega) z
    · rw [hcl] at z; omega
  · rw [hcl]
    exact h1
theorem k_slen {b L : Nat} {xs : Nat → Int32} (hX : va_X b L xs s s.heap) (hbl : b < s.heap.size) (hbA : ¬ A b) (hd : decode cc pc = .ok (.arraylength, 1)) (kk : K p l e s m args below meth c R own cc nL rt G A Q k n I (pc + 1) lv (.int (nI L) :: st)) : K p l e s m args below meth c R own cc nL rt G A Q k n I pc lv (.ref b :: st) := fun F H locs ls hI hS hl => va_slen F.1 F.2.1 hX hbl hbA hS hd (kk F H locs ls hI hS hl)
theorem k_size (kk : ∀ N, K p l e s m args below meth c R own cc nL rt G A Q k n (fun H => H.size = N ∧ I H) pc lv st) : K p l e s m args below meth c R own cc nL rt G A Q k n I pc lv st := fun F H locs ls hI hS hl => kk H.size F H locs ls ⟨rfl, hI⟩ hS hl
theorem k_newS {w : Wd} {ci index N : Nat} {C : String} {T : u_T} {fs : List Value} (ty0 : Nat → FieldType) (hc : classes[ci]? = some (C, T, N)) (hin : ∀ w ∈ u_ws C T N, w ∈ GW) (hty : ∀ k, k < N → parseFieldDescriptor (T k).2.2.1 = some (ty0 k)) (hcl : Cond.classLink own index C ∈ GW) (hinst : Cond.instantiable C N ∈ GW) (hini : Cond.initialized C ∈ GW) (hfs : ∀ j, j < N → defaultValue (ty0 j) = vp_V fs j) (hcells : k + 1 ≤ R.cells) (hslots : n + N ≤ R.slots) (hd : decode cc pc = .ok (.new index, 3)) (kk : ∀ q, w q = none → s.heap.size ≤ q → K p l e s m args below meth c R own cc nL rt G A Q (k + 1) (n + N) (fun H => H.size = q + 1 ∧ Hd G A (us w q (.inr (ci, fs))) H) (pc + 3) lv (.ref q :: st)) : K p l e s m args below meth c R own cc nL rt G A Q k n (Hd G A w) pc lv st := by
  intro F H locs ls hI hS hl
  have hts := F.2.2.2.2.1
  have hKn := F.2.2.2.2.2.1.1.1 ci _ hc
  refine W.newcK F.1 F.2.1 F.2.2.2.1 (hts _ hcl) (hts _ hinst) (hts _ hini) rfl hd hcells hslots hKn.2.1 rfl fun H1 kC hkC e1 z1 o1 => ?_
  refine kk H.size hI.fresh hS.1 F H1 locs ls ⟨z1, hI.push ⟨_, hc, (u_born ty0 hts hin hKn hkC e1 hty).to hfs⟩ z1 o1⟩ ⟨Nat.le_trans hS.1 (by omega), fun x h1 h2 => (o1 x (Nat.lt_of_lt_of_le h1 hS.1)).trans (hS.2.1 x h1 h2), hS.2.2⟩ hl
end LAWA
theorem kk_start {s : State} {b : Nat} (hts : ∀ w ∈ lw_tbl, w.before #[Value.ref b] s = true) : ∃ G : Gd, KK G s := by
  have hg : ∀ w ∈ GW, w.before #[Value.ref b] s = true := fun w hw => hts w (gw_tbl hw)
  obtain ⟨c0, i0, k0⟩ := u_known (n := 9) hg inX0 (hg _ gw_144)
  obtain ⟨c1, i1, k1⟩ := u_known (n := 9) hg inX1 (hg _ gw_66)
  obtain ⟨c2, i2, k2⟩ := u_known (n := 2) hg inX2 (hg _ gw_24)
  obtain ⟨c3, i3, k3⟩ := u_known (n := 5) hg inX3 (hg _ gw_17)
  obtain ⟨c4, i4, k4⟩ := u_known (n := 7) hg inX4 (hg _ gw_9)
  obtain ⟨c5, i5, k5⟩ := u_known (n := 29) hg inX5 (hg _ gw_446)
  obtain ⟨aI, kI, pI, f1, f2, f3⟩ := Cond.arrayClass_spec (hg _ gw_44)
  obtain ⟨aJ, kJ, pJ, g1, g2, g3⟩ := Cond.arrayClass_spec (hg _ gw_64)
  obtain ⟨aZ, kZ, pZ, h1, h2, h3⟩ := Cond.arrayClass_spec (hg _ gw_539)
  have hIt : (Cond.arrayOver (.object "EmberCache$Item")).before #[Value.ref b] s = true := hts _ (List.mem_append_right _ (List.mem_of_getElem? (i := 33) (by decide +kernel)))
  have hRo : (Cond.arrayOver (.object "EmberCache$Row")).before #[Value.ref b] s = true := hts _ (List.mem_append_right _ (List.mem_of_getElem? (i := 23) (by decide +kernel)))
  obtain ⟨pT, aT, kT, t1, t2, t3, t4, t5⟩ := Cond.arrayOver_spec hIt
  obtain ⟨pR, aR, kR, r1, r2, r3, r4, r5⟩ := Cond.arrayOver_spec hRo
  refine ⟨((fun q => match q with | 0 => c0 | 1 => c1 | 2 => c2 | 3 => c3 | 4 => c4 | _ => c5, fun q => match q with | 0 => i0 | 1 => i1 | 2 => i2 | 3 => i3 | 4 => i4 | _ => i5), fun q => match q with | 0 => aI | 1 => aJ | 2 => aZ | 3 => aT | _ => aR), ⟨fun q y hq => ?_, fun q y hq => ?_⟩, fun w hw => ?_, ?_, ?_⟩
  · match q, hq with
    | 0, hq => cases hq; exact k0
    | 1, hq => cases hq; exact k1
    | 2, hq => cases hq; exact k2
    | 3, hq => cases hq; exact k3
    | 4, hq => cases hq; exact k4
    | 5, hq => cases hq; exact k5
    | q + 6, hq => cases hq
  · match q, hq with
    | 0, hq => cases hq; exact ⟨fun _ _ => ⟨(fun _ h => by cases h), kI, f2, pI, f3⟩, f1⟩
    | 1, hq => cases hq; exact ⟨fun _ _ => ⟨(fun _ h => by cases h), kJ, g2, pJ, g3⟩, g1⟩
    | 2, hq => cases hq; exact ⟨fun _ _ => ⟨(fun _ h => by cases h), kZ, h2, pZ, h3⟩, h1⟩
    | 3, hq => cases hq; exact ⟨fun _ _ => ⟨(fun _ h => by cases h), kT, t3, pT, t4⟩, kT, pT, t3, t4, t1, t5⟩
    | 4, hq => cases hq; exact ⟨fun _ _ => ⟨(fun _ h => by cases h), kR, r3, pR, r4⟩, kR, pR, r3, r4, r1, r5⟩
    | q + 5, hq => cases hq
  · obtain ⟨w1, w2⟩ := List.mem_filter.mp hw
    have hb := hts w (List.mem_append_right _ w1)
    cases w <;> first | exact va_tabs rfl rfl hb | cases w2
  · exact va_AO.of hIt
  · exact va_AO.of hRo
/-! two worlds side by side -/
def ACl (N0 N1 N2 : Nat) (q : Nat) : Prop := N0 ≤ q ∧ ¬ (N1 ≤ q ∧ q < N2)
def AMo (N1 : Nat) (q : Nat) : Prop := N1 ≤ q
def AMs (N1 N2 N : Nat) (q : Nat) : Prop := (N1 ≤ q ∧ q < N2) ∨ N ≤ q
/-- where the reference lies -/
def DomM (N1 N2 mo : Nat) (ad sl : Nat → Nat) : Prop := (N1 ≤ mo ∧ mo < N2) ∧ ∀ a, mtp (sl a) ≠ 0 → ad (sl a) = a → N1 ≤ a ∧ a < N2
theorem mw_dom {N1 N2 mo : Nat} {ad sl : Nat → Nat} (h : DomM N1 N2 mo ad sl) {fi : Nat → Int32} {ai : Nat → Nat → Int32} {al : Nat → Nat → Int64} {a : Nat} {x : Ce} (hx : mw mo ad sl fi ai al a = some x) : N1 ≤ a ∧ a < N2 := by
  unfold mw at hx
  split at hx
  · next e => rw [e]; exact h.1
  · split at hx
    · next q => exact h.2 a q.1 q.2
    · cases hx
theorem Hd.re {G : Gd} {A A' : Nat → Prop} {w : Wd} {H : Heap} (h : Hd G A w H) (h1 : ∀ a x, w a = some x → A' a) (h2 : ∀ q, H.size ≤ q → A' q) : Hd G A' w H := ⟨fun a x hx => ⟨(h.1 a x hx).1, h1 a x hx⟩, h2⟩
theorem MPS.re {G : Gd} {A A' : Nat → Prop} {mo : Nat} {ad sl : Nat → Nat} {S : SS} {N1 N2 : Nat} {H : Heap} (hd : DomM N1 N2 mo ad sl) (h : MPS G A mo ad sl S H) (h1 : ∀ a, N1 ≤ a → a < N2 → A' a) (h2 : ∀ q, H.size ≤ q → A' q) : MPS G A' mo ad sl S H := by
  obtain ⟨nw, μ, hr, hH⟩ := h
  exact ⟨nw, μ, hr, hH.re (fun a x hx => h1 a (mw_dom hd hx).1 (mw_dom hd hx).2) h2⟩
theorem MPS.fr {G : Gd} {A B : Nat → Prop} {mo : Nat} {ad sl : Nat → Nat} {S : SS} {N1 N2 : Nat} {H H1 : Heap} (hd : DomM N1 N2 mo ad sl) (h : MPS G A mo ad sl S H) (hz : H.size ≤ H1.size) (hk : ∀ q : Nat, q < H.size → ¬ B q → H1[q]? = H[q]?) (hb : ∀ a, N1 ≤ a → a < N2 → ¬ B a) : MPS G A mo ad sl S H1 := by
  obtain ⟨nw, μ, hr, hH⟩ := h
  exact ⟨nw, μ, hr, hH.frame hz hk (fun a x hx => hb a (mw_dom hd hx).1 (mw_dom hd hx).2)⟩
theorem CH.fr {G : Gd} {B : Nat → Prop} {ad ar ow cap kd : Nat → Nat} {it : Nat → Da} {σ : CS} {N0 N1 N2 : Nat} {H H1 : Heap} (h : CH G (ACl N0 N1 N2) ad ar ow cap kd it σ H) (hz : H.size ≤ H1.size) (hk : ∀ q : Nat, q < H.size → ¬ B q → H1[q]? = H[q]?) (hb : ∀ a, a < H.size → ¬ (N1 ≤ a ∧ a < N2) → ¬ B a) : CH G (ACl N0 N1 N2) ad ar ow cap kd it σ H1 := by
  obtain ⟨μ, hr, hH⟩ := h
  exact ⟨μ, hr, hH.frame hz hk (fun a x hx => hb a (ce_lt (hH.1 a x hx).1) (hH.1 a x hx).2.2)⟩
section LAWB
variable {p : Program} {l : Launch} {e : Env} {s : State} {m : MethodId} {args : Array Value} {below : List Frame} {meth : Method} {c : Code} {R : Room} {cc : ByteArray} {nL : Nat} {rt : Option FieldType} {G : Gd} {A : Nat → Prop} {Q : State → Prop} {k n d mc ms : Nat} {J : Heap → Prop} {pc : Nat} {lv : List (Option Value)} {rest : List Value} {y : MethodName} {bytes : ByteArray} {maxL arn index : Nat} {ret : Option FieldType} {As : List Value} {v : Option Value} {st0 : List Value} {ad ar ow cap kd : Nat → Nat} {it : Nat → Da} {σ : CS} {N0 N1 N2 mo : Nat} {adm slm : Nat → Nat} {S S' : SS}
/-- a call of the class, the reference beside it -/
theorem l_callC (T : SiteV RL RX4 index y bytes maxL ret arn) (hst : CSt ad ar ow cap kd) (hd0 : DomM N1 N2 mo adm slm) (hA : ∀ q, N0 ≤ q → A q) (hC : Ct d mc ms y bytes maxL ret G (ACl N0 N1 N2) (.ref (ad 0) :: As) (CH G (ACl N0 N1 N2) ad ar ow cap kd it σ) v J) (hd : decode cc pc = .ok (.invokevirtual index, 3)) (hn : As.length = arn) (hs : st0 = As.reverse ++ .ref (ad 0) :: rest) (hrest : (rest.map fun v => v.category).sum ≤ 8) (hfr : d + 1 ≤ R.frames) (hlo : 8 + (maxL + 11) + 40 * d ≤ R.locals) (hce : k + mc ≤ R.cells) (hsl : n + ms ≤ R.slots)
    (kk : K p l e s m args below meth c R RL cc nL rt G A Q (k + mc) (n + ms) (fun H => J H ∧ MPS G (AMo N1) mo adm slm S H) (pc + 3) lv (v.toList ++ rest)) : K p l e s m args below meth c R RL cc nL rt G A Q k n (fun H => CH G (ACl N0 N1 N2) ad ar ow cap kd it σ H ∧ MPS G (AMo N1) mo adm slm S H) pc lv st0 :=
  k_callV' (I2 := fun H => J H ∧ MPS G (AMo N1) mo adm slm S H) T hC hd hn hs hrest hfr hlo hce hsl (fun H h hK => CH.recv (r := (RX4, TX4, 7)) (fs := []) (kd_ad hst (by decide)) (fun sz ct => Or.inr ⟨_, rfl⟩) rfl h.1 hK) (fun _ h => h.1) (fun q hq => hA q hq.1) (fun H H1 h hj hz hk => ⟨hj, MPS.fr hd0 h.2 hz hk (fun a h1 h2 z => z.2 ⟨h1, h2⟩)⟩) kk
/-- a call of the reference, the class beside it -/
theorem l_callM (T : SiteV RL RX5 index y bytes maxL ret arn) (hst : MSt mo adm slm) (hd0 : DomM N1 N2 mo adm slm) (hA : ∀ q, N0 ≤ q → A q) (h01 : N0 ≤ N1) (hsz : s.heap.size = N0) (hC : ∀ B, Ct d 0 0 y bytes maxL ret G B (.ref mo :: As) (MPS G B mo adm slm S) v (MPS G B mo adm slm S')) (hd : decode cc pc = .ok (.invokevirtual index, 3)) (hn : As.length = arn) (hs : st0 = As.reverse ++ .ref mo :: rest) (hrest : (rest.map fun v => v.category).sum ≤ 8) (hfr : d + 1 ≤ R.frames) (hlo : 8 + (maxL + 11) + 40 * d ≤ R.locals) (hce : k ≤ R.cells) (hsl : n ≤ R.slots)
    (kk : K p l e s m args below meth c R RL cc nL rt G A Q k n (fun H => CH G (ACl N0 N1 N2) ad ar ow cap kd it σ H ∧ MPS G (AMo N1) mo adm slm S' H) (pc + 3) lv (v.toList ++ rest)) : K p l e s m args below meth c R RL cc nL rt G A Q k n (fun H => CH G (ACl N0 N1 N2) ad ar ow cap kd it σ H ∧ MPS G (AMo N1) mo adm slm S H) pc lv st0 := by
  intro F H locs ls hI hS hl
  have hN : N0 ≤ H.size := by rw [← hsz]; exact hS.1
  have hN2 : N2 ≤ H.size ∨ ¬ N2 ≤ H.size := Nat.lt_or_ge _ _ |>.symm.imp id (fun h => Nat.not_le.mpr h)
  refine k_callV' (I := fun H' => H'.size = H.size ∧ CH G (ACl N0 N1 N2) ad ar ow cap kd it σ H' ∧ MPS G (AMo N1) mo adm slm S H') (I2 := fun H => CH G (ACl N0 N1 N2) ad ar ow cap kd it σ H ∧ MPS G (AMo N1) mo adm slm S' H) T (hC (AMs N1 N2 H.size)) hd hn hs hrest hfr hlo hce hsl (fun H' h hK => by
      obtain ⟨nw, hp⟩ := h.2.2
      exact hp.recv hst hK) (fun H' h => h.2.2.re hd0 (fun a h1 h2 => Or.inl ⟨h1, h2⟩) (fun q hq => Or.inr (by rw [← h.1]; exact hq))) (fun q hq => by
      rcases hq with hq | hq
      · exact hA q (Nat.le_trans h01 hq.1)
      · exact hA q (Nat.le_trans hN hq)) (fun H' H1 h hj hz hk => ⟨h.2.1.fr hz hk (fun a h1 h2 z => by
        rcases z with z | z
        · exact h2 z
        · rw [h.1] at h1; omega), hj.re hd0 (fun a h1 _ => h1) (fun q hq => by
        have hq2 : (AMs N1 N2 H.size) q := by
          obtain ⟨nw, μ, -, hH⟩ := hj
          exact hH.2 q hq
        rcases hq2 with z | z
        · exact z.1
        · have h8 := (hd0.1)
          obtain ⟨nw, μ, -, hH⟩ := h.2.2
          have := ce_lt (hH.1 mo _ (mw_mo hst)).1
          show N1 ≤ q
          rw [h.1] at this
          omega)⟩) kk F H locs ls ⟨rfl, hI⟩ hS hl
end LAWB
