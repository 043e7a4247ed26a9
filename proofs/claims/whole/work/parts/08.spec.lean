/-! the specification: what both sides hold, as lists -/
abbrev Da : Type := Int64 × Nat × Int32 × Int32
abbrev En : Type := Da × Bool × Bool × Nat
abbrev Pe : Type := Da × Bool
abbrev Ne : Type := Da × Bool × Bool
/-- log, head, pages of the segments, places of the open page, set pages, counts, shut, what was got -/
abbrev SS : Type := List En × Nat × (Nat → Nat) × Nat × (Nat → List Pe) × (Nat → Int32) × Bool × (Int32 × Int32 × Int32)
abbrev sL (S : SS) : List En := S.1
abbrev sH (S : SS) : Nat := S.2.1
abbrev sN (S : SS) : Nat → Nat := S.2.2.1
abbrev sO (S : SS) : Nat := S.2.2.2.1
abbrev sP (S : SS) : Nat → List Pe := S.2.2.2.2.1
abbrev sC (S : SS) : Nat → Int32 := S.2.2.2.2.2.1
abbrev sX (S : SS) : Bool := S.2.2.2.2.2.2.1
abbrev sG (S : SS) : Int32 × Int32 × Int32 := S.2.2.2.2.2.2.2
def inc (c : Nat → Int32) (j : Nat) : Nat → Int32 := va_up c j (c j + 1)
def plc (d : Da) : Nat := 3 + d.2.1
/-- the open page is written as the next page of the head -/
def wr0 (S : SS) : SS := ((sL S).map (fun e => if e.2.2.2 = 32 then (e.1, e.2.1, e.2.2.1, 4 * sH S + sN S (sH S)) else e), sH S, va_up (sN S) (sH S) (sN S (sH S) + 1), 0, sP S, inc (sC S) 1, sX S, sG S)
def pushS (S : SS) (d : Da) : SS := (sL S ++ [(d, true, false, 32)], sH S, sN S, sO S + plc d, sP S, sC S, sX S, sG S)
def uL (S : SS) (l : List En) : SS := (l, S.2)
def uC (S : SS) (c : Nat → Int32) : SS := (sL S, sH S, sN S, sO S, sP S, c, sX S, sG S)
def uP (S : SS) (p : Nat → List Pe) : SS := (sL S, sH S, sN S, sO S, p, sC S, sX S, sG S)
def kill1 (e : En) : En := (e.1, false, e.2.2.1, e.2.2.2)
def killAt (l : List En) (k : Nat) : List En := l.modify k kill1
/-- the last that is alive under a key, among the first n -/
def lastIx (l : List En) (key : Int64) : Nat → Option Nat
  | 0 => none
  | k + 1 => match l[k]? with
    | some e => if e.2.1 = true ∧ e.1.1 = key then some k else lastIx l key k
    | none => lastIx l key k
def filS (p : List Pe) : Int64 := p.foldl (fun f e => f ||| bitI e.1.1) 0
def mayS (p : List Pe) (key : Int64) : Bool := filS p &&& bitI key == bitI key
def ixS (p : List Pe) (key : Int64) : Option Nat := p.findIdx? (fun e => e.1.1 == key)
def takeS (S : SS) (key : Int64) (what : Nat) : SS × Bool :=
  if mayS (sP S (setN key)) key = true then
    match ixS (sP S (setN key)) key with
    | none => (uC S (inc (sC S) 11), false)
    | some i => (uC (uP S (va_up (sP S) (setN key) ((sP S (setN key)).eraseIdx i))) (inc (inc (sC S) 11) what), true)
  else (S, false)
def inSet (s : Nat) (e : En) : Bool := e.2.1 && setN e.1.1 == s
def plN (l : List Ne) : Nat := (l.map (fun e => plc e.1)).sum
/-- one is dropped -/
def dropS (l : List Ne) (c : Nat → Int32) : List Ne × (Nat → Int32) :=
  match l.findIdx? (fun e => e.2.2 && !e.2.1) with
  | some i => (l.eraseIdx i, inc c 6)
  | none => match l.findIdx? (fun e => e.2.2) with
    | some i => (l.eraseIdx i, inc c 7)
    | none => (l.eraseIdx 0, inc c 8)
def dropAll : Nat → List Ne → (Nat → Int32) → List Ne × (Nat → Int32)
  | 0, l, c => (l, c)
  | n + 1, l, c => if plN l > 32 then dropAll n (dropS l c).1 (dropS l c).2 else (l, c)
def addN (c : Nat → Int32) (j n : Nat) : Nat → Int32 := va_up c j (c j + nI n)
def newsS (S : SS) (s : Nat) : List Ne := ((sP S s).filter (fun e => (lastIx (sL S) e.1.1 (sL S).length).isNone)).map (fun e => (e.1, e.2, true)) ++ ((sL S).filter (inSet s)).map (fun e => (e.1, e.2.2.1, false))
def moveS (S : SS) (s : Nat) : SS :=
  ((sL S).map (fun e => if inSet s e then kill1 e else e), sH S, sN S, sO S,
    va_up (sP S) s ((dropAll (newsS S s).length (newsS S s) (addN (inc (sC S) 11) 5 ((sL S).filter (inSet s)).length)).1.map (fun e => (e.1, false))),
    inc (dropAll (newsS S s).length (newsS S s) (addN (inc (sC S) 11) 5 ((sL S).filter (inSet s)).length)).2 2, sX S, sG S)
/-- put anew: never fills the head -/
def anewS (S : SS) (d : Da) : SS := if sO S + plc d > 32 then pushS (wr0 S) d else pushS S d
def handleS (S : SS) (k : Nat) : SS :=
  match (sL S)[k]? with
  | none => S
  | some e =>
    if ((sL S).filter (inSet (setN e.1.1))).length > 1 then moveS S (setN e.1.1)
    else if e.2.2.1 = true then anewS (uC (uL S (killAt (sL S) k)) (inc (sC S) 10)) e.1
    else (takeS (uC (uL S (killAt (sL S) k)) (inc (sC S) 9)) e.1.1 3).1
def isOut (e : En) : Bool := e.2.2.2 / 4 == 9
def forget (S : SS) : SS := uL S ((sL S).filter (fun e => !(isOut e && !e.2.1)))
def stepS (S : SS) (k : Nat) : SS := match (sL S)[k]? with
    | some e => if isOut e = true ∧ e.2.1 = true then handleS S k else S
    | none => S
def loopS : Nat → Nat → SS → SS
  | 0, _, S => S
  | n + 1, k, S => loopS n (k + 1) (stepS S k)
def outS (S : SS) (h : Nat) : SS := ((sL S).map (fun e => if e.2.2.2 / 4 = h then (e.1, e.2.1, e.2.2.1, 36 + e.2.2.2 % 4) else e), sH S, va_up (sN S) h 0, sO S, sP S, sC S, sX S, sG S)
def emptyS (S : SS) (h : Nat) : SS := forget (loopS (sL (forget (outS S h))).length 0 (forget (outS S h)))
def turnS (S : SS) : SS := (sL S, (sH S + 1) % 8, sN S, sO S, sP S, inc (sC S) 0, sX S, sG S)
def writeS (S : SS) : SS :=
  if sN (wr0 S) (sH S) = 4 then
    if sN (turnS (wr0 S)) (sH (turnS (wr0 S))) > 0 then emptyS (turnS (wr0 S)) (sH (turnS (wr0 S))) else turnS (wr0 S)
  else wr0 S
def appS : Nat → SS → Da → SS
  | 0, S, _ => S
  | n + 1, S, d => if sO S + plc d > 32 then appS n (writeS S) d else pushS S d
theorem wr0_L (S : SS) : sL (wr0 S) = (sL S).map (fun e => if e.2.2.2 = 32 then (e.1, e.2.1, e.2.2.1, 4 * sH S + sN S (sH S)) else e) := rfl
theorem wr0_H (S : SS) : sH (wr0 S) = sH S := rfl
theorem wr0_N (S : SS) : sN (wr0 S) = va_up (sN S) (sH S) (sN S (sH S) + 1) := rfl
theorem wr0_O (S : SS) : sO (wr0 S) = 0 := rfl
theorem wr0_P (S : SS) : sP (wr0 S) = sP S := rfl
theorem wr0_C (S : SS) : sC (wr0 S) = inc (sC S) 1 := rfl
theorem wr0_X (S : SS) : sX (wr0 S) = sX S := rfl
theorem wr0_G (S : SS) : sG (wr0 S) = sG S := rfl
theorem pushS_L (S : SS) (d : Da) : sL (pushS S d) = sL S ++ [(d, true, false, 32)] := rfl
theorem pushS_H (S : SS) (d : Da) : sH (pushS S d) = sH S := rfl
theorem pushS_N (S : SS) (d : Da) : sN (pushS S d) = sN S := rfl
theorem pushS_O (S : SS) (d : Da) : sO (pushS S d) = sO S + plc d := rfl
theorem pushS_P (S : SS) (d : Da) : sP (pushS S d) = sP S := rfl
theorem pushS_C (S : SS) (d : Da) : sC (pushS S d) = sC S := rfl
theorem pushS_X (S : SS) (d : Da) : sX (pushS S d) = sX S := rfl
theorem pushS_G (S : SS) (d : Da) : sG (pushS S d) = sG S := rfl
theorem uL_L (S : SS) (l : List En) : sL (uL S l) = l := rfl
theorem uL_H (S : SS) (l : List En) : sH (uL S l) = sH S := rfl
theorem uL_N (S : SS) (l : List En) : sN (uL S l) = sN S := rfl
theorem uL_O (S : SS) (l : List En) : sO (uL S l) = sO S := rfl
theorem uL_P (S : SS) (l : List En) : sP (uL S l) = sP S := rfl
theorem uL_C (S : SS) (l : List En) : sC (uL S l) = sC S := rfl
theorem uL_X (S : SS) (l : List En) : sX (uL S l) = sX S := rfl
theorem uL_G (S : SS) (l : List En) : sG (uL S l) = sG S := rfl
theorem uC_L (S : SS) (c : Nat → Int32) : sL (uC S c) = sL S := rfl
theorem uC_H (S : SS) (c : Nat → Int32) : sH (uC S c) = sH S := rfl
theorem uC_N (S : SS) (c : Nat → Int32) : sN (uC S c) = sN S := rfl
theorem uC_O (S : SS) (c : Nat → Int32) : sO (uC S c) = sO S := rfl
theorem uC_P (S : SS) (c : Nat → Int32) : sP (uC S c) = sP S := rfl
theorem uC_C (S : SS) (c : Nat → Int32) : sC (uC S c) = c := rfl
theorem uC_X (S : SS) (c : Nat → Int32) : sX (uC S c) = sX S := rfl
theorem uC_G (S : SS) (c : Nat → Int32) : sG (uC S c) = sG S := rfl
theorem uP_L (S : SS) (q : Nat → List Pe) : sL (uP S q) = sL S := rfl
theorem uP_H (S : SS) (q : Nat → List Pe) : sH (uP S q) = sH S := rfl
theorem uP_N (S : SS) (q : Nat → List Pe) : sN (uP S q) = sN S := rfl
theorem uP_O (S : SS) (q : Nat → List Pe) : sO (uP S q) = sO S := rfl
theorem uP_P (S : SS) (q : Nat → List Pe) : sP (uP S q) = q := rfl
theorem uP_C (S : SS) (q : Nat → List Pe) : sC (uP S q) = sC S := rfl
theorem uP_X (S : SS) (q : Nat → List Pe) : sX (uP S q) = sX S := rfl
theorem uP_G (S : SS) (q : Nat → List Pe) : sG (uP S q) = sG S := rfl
theorem forget_L (S : SS) : sL (forget S) = (sL S).filter (fun e => !(isOut e && !e.2.1)) := rfl
theorem forget_H (S : SS) : sH (forget S) = sH S := rfl
theorem forget_N (S : SS) : sN (forget S) = sN S := rfl
theorem forget_O (S : SS) : sO (forget S) = sO S := rfl
theorem forget_P (S : SS) : sP (forget S) = sP S := rfl
theorem forget_C (S : SS) : sC (forget S) = sC S := rfl
theorem forget_X (S : SS) : sX (forget S) = sX S := rfl
theorem forget_G (S : SS) : sG (forget S) = sG S := rfl
theorem outS_L (S : SS) (h : Nat) : sL (outS S h) = (sL S).map (fun e => if e.2.2.2 / 4 = h then (e.1, e.2.1, e.2.2.1, 36 + e.2.2.2 % 4) else e) := rfl
theorem outS_H (S : SS) (h : Nat) : sH (outS S h) = sH S := rfl
theorem outS_N (S : SS) (h : Nat) : sN (outS S h) = va_up (sN S) h 0 := rfl
theorem outS_O (S : SS) (h : Nat) : sO (outS S h) = sO S := rfl
theorem outS_P (S : SS) (h : Nat) : sP (outS S h) = sP S := rfl
theorem outS_C (S : SS) (h : Nat) : sC (outS S h) = sC S := rfl
theorem outS_X (S : SS) (h : Nat) : sX (outS S h) = sX S := rfl
theorem outS_G (S : SS) (h : Nat) : sG (outS S h) = sG S := rfl
theorem turnS_L (S : SS) : sL (turnS S) = sL S := rfl
theorem turnS_H (S : SS) : sH (turnS S) = (sH S + 1) % 8 := rfl
theorem turnS_N (S : SS) : sN (turnS S) = sN S := rfl
theorem turnS_O (S : SS) : sO (turnS S) = sO S := rfl
theorem turnS_P (S : SS) : sP (turnS S) = sP S := rfl
theorem turnS_C (S : SS) : sC (turnS S) = inc (sC S) 0 := rfl
theorem turnS_X (S : SS) : sX (turnS S) = sX S := rfl
theorem turnS_G (S : SS) : sG (turnS S) = sG S := rfl
/-! how the reference's arrays show it -/
def ent (ai : Nat → Nat → Int32) (al : Nat → Nat → Int64) (k : Nat) : Int64 × Int32 × Int32 × Int32 × Int32 × Int32 × Int32 := (al 0 k, ai 1 k, ai 2 k, ai 3 k, ai 4 k, ai 5 k, ai 6 k)
def enc (e : En) : Int64 × Int32 × Int32 × Int32 × Int32 × Int32 × Int32 := (e.1.1, nI e.1.2.1, e.1.2.2.1, e.1.2.2.2, bI e.2.1, bI e.2.2.1, nI (e.2.2.2 / 4))
def pent (ai : Nat → Nat → Int32) (al : Nat → Nat → Int64) (k : Nat) : Int64 × Int32 × Int32 × Int32 × Int32 := (al 11 k, ai 12 k, ai 13 k, ai 14 k, ai 15 k)
def penc (e : Pe) : Int64 × Int32 × Int32 × Int32 × Int32 := (e.1.1, nI e.1.2.1, e.1.2.2.1, e.1.2.2.2, bI e.2)
def nent (ai : Nat → Nat → Int32) (al : Nat → Nat → Int64) (k : Nat) : Int64 × Int32 × Int32 × Int32 × Int32 × Int32 := (al 17 k, ai 18 k, ai 19 k, ai 20 k, ai 21 k, ai 22 k)
def nenc (e : Ne) : Int64 × Int32 × Int32 × Int32 × Int32 × Int32 := (e.1.1, nI e.1.2.1, e.1.2.2.1, e.1.2.2.2, bI e.2.1, bI e.2.2)
def RepL (l : List En) (fi : Nat → Int32) (ai : Nat → Nat → Int32) (al : Nat → Nat → Int64) : Prop := fi 7 = nI l.length ∧ l.length ≤ 700 ∧ ∀ k e, l[k]? = some e → ent ai al k = enc e
def RepN (nw : List Ne) (fi : Nat → Int32) (ai : Nat → Nat → Int32) (al : Nat → Nat → Int64) : Prop := fi 23 = nI nw.length ∧ nw.length ≤ 700 ∧ ∀ k e, nw[k]? = some e → nent ai al k = nenc e
def RepP (P : Nat → List Pe) (ai : Nat → Nat → Int32) (al : Nat → Nat → Int64) : Prop := ∀ s, s < 64 → ai 16 s = nI (P s).length ∧ (P s).length ≤ 8 ∧ ∀ k e, (P s)[k]? = some e → pent ai al (8 * s + k) = penc e
def RepR (S : SS) (fi : Nat → Int32) (ai : Nat → Nat → Int32) : Prop := fi 9 = nI (sH S) ∧ fi 10 = nI (sO S) ∧ (∀ j, j < 8 → ai 8 j = nI (sN S j)) ∧ (∀ j, j < 12 → ai 24 j = sC S j) ∧ fi 25 = bI (sX S) ∧ fi 26 = (sG S).1 ∧ fi 27 = (sG S).2.1 ∧ fi 28 = (sG S).2.2
def Rep (S : SS) (nw : List Ne) (fi : Nat → Int32) (ai : Nat → Nat → Int32) (al : Nat → Nat → Int64) : Prop := RepL (sL S) fi ai al ∧ RepN nw fi ai al ∧ RepP (sP S) ai al ∧ RepR S fi ai
def MPN (G : Gd) (A : Nat → Prop) (mo : Nat) (ad sl : Nat → Nat) (S : SS) (nw : List Ne) : Heap → Prop := fun H => ∃ μ : (Nat → Int32) × (Nat → Nat → Int32) × (Nat → Nat → Int64), Rep S nw μ.1 μ.2.1 μ.2.2 ∧ Hd G A (mw mo ad sl μ.1 μ.2.1 μ.2.2) H
def MPS (G : Gd) (A : Nat → Prop) (mo : Nat) (ad sl : Nat → Nat) (S : SS) : Heap → Prop := fun H => ∃ nw, MPN G A mo ad sl S nw H
section OPEN
variable {p : Program} {l : Launch} {e : Env} {s : State} {m : MethodId} {args : Array Value} {below : List Frame} {meth : Method} {c : Code} {R : Room} {own : String} {cc : ByteArray} {nL : Nat} {rt : Option FieldType} {G : Gd} {A : Nat → Prop} {Q : State → Prop} {k n : Nat} {pc : Nat} {lv : List (Option Value)} {st : List Value} {mo : Nat} {ad sl : Nat → Nat} {S : SS} {nw : List Ne}
theorem k_open (kk : ∀ fi ai al, Rep S nw fi ai al → K p l e s m args below meth c R own cc nL rt G A Q k n (MH G A mo ad sl fi ai al) pc lv st) : K p l e s m args below meth c R own cc nL rt G A Q k n (MPN G A mo ad sl S nw) pc lv st := fun F H locs ls hI hS hl => by
  obtain ⟨⟨fi, ai, al⟩, hr, hH⟩ := hI
  exact kk fi ai al hr F H locs ls hH hS hl
theorem k_openS (kk : ∀ nw, K p l e s m args below meth c R own cc nL rt G A Q k n (MPN G A mo ad sl S nw) pc lv st) : K p l e s m args below meth c R own cc nL rt G A Q k n (MPS G A mo ad sl S) pc lv st := fun F H locs ls hI hS hl => by
  obtain ⟨nw, hH⟩ := hI
  exact kk nw F H locs ls hH hS hl
theorem MPN.of {fi : Nat → Int32} {ai : Nat → Nat → Int32} {al : Nat → Nat → Int64} (h : Rep S nw fi ai al) : ∀ H, MH G A mo ad sl fi ai al H → MPN G A mo ad sl S nw H := fun H hH => ⟨(fi, ai, al), h, hH⟩
theorem MPS.of {fi : Nat → Int32} {ai : Nat → Nat → Int32} {al : Nat → Nat → Int64} (h : Rep S nw fi ai al) : ∀ H, MH G A mo ad sl fi ai al H → MPS G A mo ad sl S H := fun H hH => ⟨nw, (fi, ai, al), h, hH⟩
theorem k_close {fi : Nat → Int32} {ai : Nat → Nat → Int32} {al : Nat → Nat → Int64} (h : Rep S nw fi ai al) (kk : K p l e s m args below meth c R own cc nL rt G A Q k n (MPN G A mo ad sl S nw) pc lv st) : K p l e s m args below meth c R own cc nL rt G A Q k n (MH G A mo ad sl fi ai al) pc lv st := k_I (MPN.of h) kk
theorem MPN.recv {H : Heap} (h : MPN G A mo ad sl S nw H) (hst : MSt mo ad sl) (hK : KK G s) : ∃ cell : Cell, H[mo]? = some cell ∧ cell.vm.isStatics = false ∧ s.vm.findClass RX5 = some cell.cls := by
  obtain ⟨⟨fi, ai, al⟩, -, hH⟩ := h
  exact Hd.recv (r := (RX5, TX5, 29)) rfl (mw_mo hst) hH hK
end OPEN
