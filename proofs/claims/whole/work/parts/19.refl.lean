/-! the calls, on the specification -/
def uX (S : SS) (b : Bool) : SS := (sL S, sH S, sN S, sO S, sP S, sC S, b, sG S)
def uG (S : SS) (g : Int32 × Int32 × Int32) : SS := (sL S, sH S, sN S, sO S, sP S, sC S, sX S, g)
def killKey (S : SS) (key : Int64) : SS := match lastIx (sL S) key (sL S).length with
  | some k => uL S (killAt (sL S) k)
  | none => S
def mark1 (e : En) : En := (e.1, e.2.1, true, e.2.2.2)
def markP (e : Pe) : Pe := (e.1, true)
def badN (n : Int32) : Bool := decide (n < 1) || decide (12 < n)
def putS (S : SS) (key : Int64) (n f t : Int32) : Int32 × SS :=
  if sX S = true then (-2, S) else if badN n = true then (-1, S) else (1, appS 1000 (killKey S key) (key, n.toNatClampNeg, f, t))
def pageGet (S : SS) (key : Int64) : Int32 × SS :=
  if mayS (sP S (setN key)) key = true then
    match ixS (sP S (setN key)) key with
    | none => (0, uC S (inc (sC S) 11))
    | some i => match (sP S (setN key))[i]? with
      | none => (0, S)
      | some e => (nI e.1.2.1, uG (uP (uC S (inc (sC S) 11)) (va_up (sP S) (setN key) ((sP S (setN key)).modify i markP))) (nI e.1.2.1, e.1.2.2.1, e.1.2.2.2))
  else (0, S)
def getS (S : SS) (key : Int64) : Int32 × SS :=
  if sX S = true then (-2, S) else
  match lastIx (sL S) key (sL S).length with
  | some k => match (sL S)[k]? with
    | none => (0, S)
    | some e => (nI e.1.2.1, uG (uL S ((sL S).modify k mark1)) (nI e.1.2.1, e.1.2.2.1, e.1.2.2.2))
  | none => pageGet S key
def gotS (S : SS) (i : Int32) : Int32 := if ¬ i < 0 ∧ ¬ (sG S).1 ≤ i then (sG S).2.1 + i * (sG S).2.2 else 0
def removeS (S : SS) (key : Int64) : Int32 × SS :=
  if sX S = true then (-2, S) else
  (bI ((lastIx (sL S) key (sL S).length).isSome || (takeS (killKey S key) key 4).2), (takeS (killKey S key) key 4).1)
def whereS (S : SS) (key : Int64) : Int32 := if sX S = true then -2 else if (lastIx (sL S) key (sL S).length).isSome then 1 else if (ixS (sP S (setN key)) key).isSome then 2 else 0
def markS (S : SS) (key : Int64) : Int32 := if sX S = true then -2 else
  match lastIx (sL S) key (sL S).length with
  | some k => bI ((((sL S)[k]?).map (fun e => e.2.2.1)).getD false)
  | none => match ixS (sP S (setN key)) key with
    | some i => bI ((((sP S (setN key))[i]?).map (fun e => e.2)).getD false)
    | none => 0
def isSet (x : Int32) : Bool := !decide (x < 0) && !decide ((64 : Int32) ≤ x)
def standsS (S : SS) (x : Int32) : Int32 := if sX S = true then -2 else if isSet x = true then nI (sP S x.toNatClampNeg).length else -1
def keyS (S : SS) (x i : Int32) : Int64 := if sX S = true then 0 else if isSet x = true then (if i < 0 then 0 else (((sP S x.toNatClampNeg)[i.toNatClampNeg]?).map (fun e => e.1.1)).getD 0) else 0
def filterS (S : SS) (x : Int32) : Int64 := if sX S = true then 0 else if isSet x = true then filS (sP S x.toNatClampNeg) else 0
def cntS (S : SS) (p : En → Bool) : Nat := ((sL S).filter p).length
def aliveS (S : SS) (x : Int32) : Int32 := if sX S = true then -2 else if x < 0 ∨ (8 : Int32) < x then -1 else nI (cntS S (fun e => e.2.1 && e.2.2.2 / 4 == x.toNatClampNeg))
def livS (S : SS) : Int32 := nI (cntS S (fun e => e.2.1))
def sumP (S : SS) : Nat → Nat
  | 0 => 0
  | s + 1 => sumP S s + (sP S s).length
def countS (S : SS) (x : Int32) : Int32 :=
  if ¬ x < 0 ∧ ¬ (12 : Int32) ≤ x then sC S x.toNatClampNeg
  else if x = 12 then livS S else if x = 13 then nI (sumP S 64) else if x = 14 then nI (sO S) else if x = 15 then nI (sH S) else if x = 16 then nI (sN S (sH S)) else if x = 17 then bI (sX S) else -1
def closeS (S : SS) : Int32 × SS := if sX S = true then (-2, S) else (1, uX S true)
def crashS (S : SS) : SS := ([], 0, fun _ => 0, 0, fun _ => [], sC S, true, sG S)
def openS (S : SS) : Int32 × SS := if sX S = true then (livS S, uX S false) else (-1, S)
/-- what check() looks for -/
def CkS (S : SS) : Prop := (∀ k e, (sL S)[k]? = some e → e.2.1 = true → lastIx (sL S) e.1.1 (sL S).length = some k) ∧ (∀ s, s < 64 → ((sP S s).map (fun e => plc e.1)).sum ≤ 32) ∧ (∀ s k e, s < 64 → (sP S s)[k]? = some e → setN e.1.1 = s ∧ ixS (sP S s) e.1.1 = some k)
theorem lastIx_lt {L : List En} {key : Int64} : ∀ {n q : Nat}, lastIx L key n = some q → q < n := by
  intro n
  induction n with
  | zero => intro q hq; cases hq
  | succ n ih =>
    intro q hq
    simp only [lastIx] at hq
    split at hq
    · split at hq
      · cases hq; omega
      · have := ih hq; omega
    · have := ih hq; omega
theorem lastIx_at {L : List En} {key : Int64} : ∀ {n q : Nat}, lastIx L key n = some q → ∃ e, L[q]? = some e ∧ e.2.1 = true ∧ e.1.1 = key := by
  intro n
  induction n with
  | zero => intro q hq; cases hq
  | succ n ih =>
    intro q hq
    simp only [lastIx] at hq
    split at hq
    · next e he =>
      split at hq
      · next h => cases hq; exact ⟨e, he, h⟩
      · exact ih hq
    · exact ih hq
theorem oI_neg : oI none < 0 := by decide
theorem rep_shut {S : SS} {nw : List Ne} {fi : Nat → Int32} {ai : Nat → Nat → Int32} {al : Nat → Nat → Int64} (h : Rep S nw fi ai al) (b : Bool) : Rep (uX S b) nw (va_up fi 25 (bI b)) ai al := by
  obtain ⟨⟨l1, l2, l3⟩, ⟨n1, n2, n3⟩, hP, r1, r2, r3, r4, r5, r6⟩ := h
  exact ⟨⟨l1, l2, l3⟩, ⟨n1, n2, n3⟩, hP, r1, r2, r3, r4, rfl, r6⟩
theorem rep_got {S : SS} {nw : List Ne} {fi : Nat → Int32} {ai : Nat → Nat → Int32} {al : Nat → Nat → Int64} (h : Rep S nw fi ai al) (a b c : Int32) : Rep (uG S (a, b, c)) nw (va_up (va_up (va_up fi 26 a) 27 b) 28 c) ai al := by
  obtain ⟨⟨l1, l2, l3⟩, ⟨n1, n2, n3⟩, hP, r1, r2, r3, r4, r5, r6⟩ := h
  exact ⟨⟨l1, l2, l3⟩, ⟨n1, n2, n3⟩, hP, r1, r2, r3, r4, r5, rfl, rfl, rfl⟩
theorem rep_mark {S : SS} {nw : List Ne} {fi : Nat → Int32} {ai : Nat → Nat → Int32} {al : Nat → Nat → Int64} (h : Rep S nw fi ai al) (j : Nat) : Rep (uL S ((sL S).modify j mark1)) nw fi (up2 ai 5 j 1) al := by
  obtain ⟨⟨l1, l2, l3⟩, ⟨n1, n2, n3⟩, hP, r1, r2, r3, r4, r5⟩ := h
  refine ⟨⟨?_, ?_, ?_⟩, ⟨n1, n2, ?_⟩, ?_, r1, r2, ?_, ?_, r5⟩
  · rw [uL_L]; simpa using l1
  · rw [uL_L]; simpa using l2
  · intro k e he
    rw [uL_L, List.getElem?_modify] at he
    by_cases hkj : j = k
    · subst hkj
      simp only [if_true, Option.map_eq_map, Option.map_eq_some_iff] at he
      obtain ⟨e0, he0, rfl⟩ := he
      obtain ⟨c0, c1, c2, c3, c4, c5, c6⟩ := ent_k (l3 j e0 he0)
      exact ent_mk c0 (by simpa [up2_at, mark1] using c1) (by simpa [up2_at, mark1] using c2) (by simpa [up2_at, mark1] using c3) (by simpa [up2_at, mark1] using c4) (by rw [up2_at, if_pos ⟨rfl, rfl⟩]; rfl) (by simpa [up2_at, mark1] using c6)
    · simp only [hkj, if_false] at he
      have := l3 k e (by simpa using he)
      simpa [ent, up2_at, show ¬ k = j from fun z => hkj z.symm] using this
  · intro k e he
    simpa [nent, up2_at] using n3 k e he
  · intro s hs
    rw [uL_P]
    simpa [pent, up2_at] using hP s hs
  · intro i hi
    rw [uL_N]
    simpa [up2_at] using r3 i hi
  · intro i hi
    rw [uL_C]
    simpa [up2_at] using r4 i hi
theorem rep_markP {S : SS} {nw : List Ne} {fi : Nat → Int32} {ai : Nat → Nat → Int32} {al : Nat → Nat → Int64} (h : Rep S nw fi ai al) {s0 i : Nat} (hi : i < (sP S s0).length) (hs : s0 < 64) : Rep (uP S (va_up (sP S) s0 ((sP S s0).modify i markP))) nw fi (up2 ai 15 (8 * s0 + i) 1) al := by
  obtain ⟨⟨l1, l2, l3⟩, ⟨n1, n2, n3⟩, hP, r1, r2, r3, r4, r5⟩ := h
  obtain ⟨g1, g2, g3⟩ := hP s0 hs
  refine ⟨⟨l1, l2, ?_⟩, ⟨n1, n2, ?_⟩, ?_, r1, r2, ?_, ?_, r5⟩
  · intro k e he
    simpa [ent, up2_at] using l3 k e he
  · intro k e he
    simpa [nent, up2_at] using n3 k e he
  · intro s hs2
    rw [uP_P]
    by_cases hss : s = s0
    · subst hss
      rw [va_up_self]
      refine ⟨by simpa [up2_at] using g1, by simpa using g2, fun k e he => ?_⟩
      rw [List.getElem?_modify] at he
      by_cases hkj : i = k
      · subst hkj
        simp only [if_true, Option.map_eq_map, Option.map_eq_some_iff] at he
        obtain ⟨e0, he0, rfl⟩ := he
        obtain ⟨c0, c1, c2, c3, c4⟩ := pent_k (g3 i e0 he0)
        simp [pent, penc, up2_at, markP, c0, c1, c2, c3, bI]
      · simp only [hkj, if_false] at he
        have := g3 k e (by simpa using he)
        simpa [pent, up2_at, show ¬ k = i from fun z => hkj z.symm] using this
    · rw [va_up_ne _ _ hss]
      obtain ⟨q1, q2, q3⟩ := hP s hs2
      refine ⟨by simpa [up2_at] using q1, q2, fun k e he => ?_⟩
      have hk8 : k < 8 := Nat.lt_of_lt_of_le (List.getElem?_eq_some_iff.mp he).1 q2
      have := q3 k e he
      have h1 : ¬ 8 * s + k = 8 * s0 + i := by omega
      simpa [pent, up2_at, h1] using this
  · intro j hj
    rw [uP_N]
    simpa [up2_at] using r3 j hj
  · intro j hj
    rw [uP_C]
    simpa [up2_at] using r4 j hj
