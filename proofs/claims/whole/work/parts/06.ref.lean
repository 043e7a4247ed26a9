def mtp : Nat → Nat := fun k => match k with
  | 0 => 2
  | 1 => 1
  | 2 => 1
  | 3 => 1
  | 4 => 3
  | 5 => 3
  | 6 => 1
  | 8 => 1
  | 11 => 2
  | 12 => 1
  | 13 => 1
  | 14 => 1
  | 15 => 3
  | 16 => 1
  | 17 => 2
  | 18 => 1
  | 19 => 1
  | 20 => 1
  | 21 => 3
  | 22 => 3
  | 24 => 1
  | _ => 0
def mln : Nat → Nat := fun k => match k with
  | 0 => 700
  | 1 => 700
  | 2 => 700
  | 3 => 700
  | 4 => 700
  | 5 => 700
  | 6 => 700
  | 8 => 8
  | 11 => 512
  | 12 => 512
  | 13 => 512
  | 14 => 512
  | 15 => 512
  | 16 => 64
  | 17 => 700
  | 18 => 700
  | 19 => 700
  | 20 => 700
  | 21 => 700
  | 22 => 700
  | 24 => 12
  | _ => 0
def m_fs (ad : Nat → Nat) (fi : Nat → Int32) : List Value := [.ref (ad 0), .ref (ad 1), .ref (ad 2), .ref (ad 3), .ref (ad 4), .ref (ad 5), .ref (ad 6), .int (fi 7), .ref (ad 8), .int (fi 9), .int (fi 10), .ref (ad 11), .ref (ad 12), .ref (ad 13), .ref (ad 14), .ref (ad 15), .ref (ad 16), .ref (ad 17), .ref (ad 18), .ref (ad 19), .ref (ad 20), .ref (ad 21), .ref (ad 22), .int (fi 23), .ref (ad 24), .int (fi 25), .int (fi 26), .int (fi 27), .int (fi 28)]
def mcell (ai : Nat → Nat → Int32) (al : Nat → Nat → Int64) (k : Nat) : Ce := if mtp k = 2 then .inl (1, mln k, fun j => .long (al k j)) else if mtp k = 1 then .inl (0, mln k, fun j => .int (ai k j)) else .inl (2, mln k, fun j => .int (ai k j))
/-- the reference's world: its object at mo, its arrays at ad k (k: the field's slot; sl: back from an address to the slot) -/
def mw (mo : Nat) (ad sl : Nat → Nat) (fi : Nat → Int32) (ai : Nat → Nat → Int32) (al : Nat → Nat → Int64) : Wd := fun a => if a = mo then some (.inr (5, m_fs ad fi)) else if mtp (sl a) ≠ 0 ∧ ad (sl a) = a then some (mcell ai al (sl a)) else none
def MSt (mo : Nat) (ad sl : Nat → Nat) : Prop := ∀ k, mtp k ≠ 0 → sl (ad k) = k ∧ ad k ≠ mo
theorem nI_inc (k : Nat) : nI k + Int32.ofInt 1 = nI (k + 1) := nI_1 k
def up2 {α : Type} (f : Nat → Nat → α) (q j : Nat) (x : α) : Nat → Nat → α := va_up f q (va_up (f q) j x)
theorem up2_at {α : Type} (f : Nat → Nat → α) (q j : Nat) (x : α) (a b : Nat) : up2 f q j x a b = if a = q ∧ b = j then x else f a b := by
  unfold up2 va_up
  by_cases h : a = q
  · subst h
    by_cases h2 : b = j <;> simp [h2]
  · simp [h]
section MROWS
variable {p : Program} {l : Launch} {e : Env} {s : State} {m : MethodId} {args : Array Value} {below : List Frame} {meth : Method} {c : Code} {R : Room} {cc : ByteArray} {nL : Nat} {rt : Option FieldType} {G : Gd} {A : Nat → Prop} {Q : State → Prop} {k n : Nat} {pc : Nat} {lv : List (Option Value)} {st : List Value} {mo : Nat} {ad sl : Nat → Nat} {fi : Nat → Int32} {ai : Nat → Nat → Int32} {al : Nat → Nat → Int64}
theorem mw_mo (hst : MSt mo ad sl) : mw mo ad sl fi ai al mo = some (.inr (5, m_fs ad fi)) := if_pos rfl
theorem mw_ad (hst : MSt mo ad sl) {k : Nat} (hk : mtp k ≠ 0) : mw mo ad sl fi ai al (ad k) = some (mcell ai al k) := by
  have h := hst k hk
  unfold mw
  rw [if_neg h.2, h.1, if_pos ⟨hk, rfl⟩]
theorem mw_up (hst : MSt mo ad sl) {k : Nat} (hk : mtp k ≠ 0) {ai' : Nat → Nat → Int32} {al' : Nat → Nat → Int64} {x : Ce} (hx : x = mcell ai' al' k) (hne : ∀ q, q ≠ k → mcell ai' al' q = mcell ai al q) : us (mw mo ad sl fi ai al) (ad k) x = mw mo ad sl fi ai' al' := by
  funext a
  have h := hst k hk
  by_cases ha : a = ad k
  · subst ha
    rw [us_same, mw_ad hst hk, hx]
  · rw [us_ne _ _ ha]
    unfold mw
    by_cases hm : a = mo
    · rw [if_pos hm, if_pos hm]
    · rw [if_neg hm, if_neg hm]
      by_cases hs : mtp (sl a) ≠ 0 ∧ ad (sl a) = a
      · rw [if_pos hs, if_pos hs, hne (sl a) (fun e => ha (by rw [← hs.2, e]))]
      · rw [if_neg hs, if_neg hs]
theorem mg_7 (hst : MSt mo ad sl) (hd : decode cc pc = .ok (.getfield 7, 3)) (kk : K p l e s m args below meth c R RX5 cc nL rt G A Q k n (Hd G A (mw mo ad sl fi ai al)) (pc + 3) lv (.ref (ad 0) :: st)) : K p l e s m args below meth c R RX5 cc nL rt G A Q k n (Hd G A (mw mo ad sl fi ai al)) pc lv (.ref mo :: st) := g_X5_7 hd (mw_mo hst) rfl kk
theorem mg_13 (hst : MSt mo ad sl) (hd : decode cc pc = .ok (.getfield 13, 3)) (kk : K p l e s m args below meth c R RX5 cc nL rt G A Q k n (Hd G A (mw mo ad sl fi ai al)) (pc + 3) lv (.ref (ad 1) :: st)) : K p l e s m args below meth c R RX5 cc nL rt G A Q k n (Hd G A (mw mo ad sl fi ai al)) pc lv (.ref mo :: st) := g_X5_13 hd (mw_mo hst) rfl kk
theorem mg_17 (hst : MSt mo ad sl) (hd : decode cc pc = .ok (.getfield 17, 3)) (kk : K p l e s m args below meth c R RX5 cc nL rt G A Q k n (Hd G A (mw mo ad sl fi ai al)) (pc + 3) lv (.ref (ad 2) :: st)) : K p l e s m args below meth c R RX5 cc nL rt G A Q k n (Hd G A (mw mo ad sl fi ai al)) pc lv (.ref mo :: st) := g_X5_17 hd (mw_mo hst) rfl kk
theorem mg_20 (hst : MSt mo ad sl) (hd : decode cc pc = .ok (.getfield 20, 3)) (kk : K p l e s m args below meth c R RX5 cc nL rt G A Q k n (Hd G A (mw mo ad sl fi ai al)) (pc + 3) lv (.ref (ad 3) :: st)) : K p l e s m args below meth c R RX5 cc nL rt G A Q k n (Hd G A (mw mo ad sl fi ai al)) pc lv (.ref mo :: st) := g_X5_20 hd (mw_mo hst) rfl kk
theorem mg_23 (hst : MSt mo ad sl) (hd : decode cc pc = .ok (.getfield 23, 3)) (kk : K p l e s m args below meth c R RX5 cc nL rt G A Q k n (Hd G A (mw mo ad sl fi ai al)) (pc + 3) lv (.ref (ad 4) :: st)) : K p l e s m args below meth c R RX5 cc nL rt G A Q k n (Hd G A (mw mo ad sl fi ai al)) pc lv (.ref mo :: st) := g_X5_23 hd (mw_mo hst) rfl kk
theorem mg_27 (hst : MSt mo ad sl) (hd : decode cc pc = .ok (.getfield 27, 3)) (kk : K p l e s m args below meth c R RX5 cc nL rt G A Q k n (Hd G A (mw mo ad sl fi ai al)) (pc + 3) lv (.ref (ad 5) :: st)) : K p l e s m args below meth c R RX5 cc nL rt G A Q k n (Hd G A (mw mo ad sl fi ai al)) pc lv (.ref mo :: st) := g_X5_27 hd (mw_mo hst) rfl kk
theorem mg_30 (hst : MSt mo ad sl) (hd : decode cc pc = .ok (.getfield 30, 3)) (kk : K p l e s m args below meth c R RX5 cc nL rt G A Q k n (Hd G A (mw mo ad sl fi ai al)) (pc + 3) lv (.ref (ad 6) :: st)) : K p l e s m args below meth c R RX5 cc nL rt G A Q k n (Hd G A (mw mo ad sl fi ai al)) pc lv (.ref mo :: st) := g_X5_30 hd (mw_mo hst) rfl kk
theorem mg_96 (hst : MSt mo ad sl) (hd : decode cc pc = .ok (.getfield 96, 3)) (kk : K p l e s m args below meth c R RX5 cc nL rt G A Q k n (Hd G A (mw mo ad sl fi ai al)) (pc + 3) lv (.int (fi 7) :: st)) : K p l e s m args below meth c R RX5 cc nL rt G A Q k n (Hd G A (mw mo ad sl fi ai al)) pc lv (.ref mo :: st) := g_X5_96 hd (mw_mo hst) rfl kk
theorem mp_96 (hst : MSt mo ad sl) {x : Int32} (hd : decode cc pc = .ok (.putfield 96, 3)) (hn : narrow (tyX5 7) (.int x) = .int x) (hf : fits (tyX5 7) (.int x) = true) (kk : K p l e s m args below meth c R RX5 cc nL rt G A Q k n (Hd G A (mw mo ad sl (va_up fi 7 x) ai al)) (pc + 3) lv st) : K p l e s m args below meth c R RX5 cc nL rt G A Q k n (Hd G A (mw mo ad sl fi ai al)) pc lv (.int x :: .ref mo :: st) := by
  refine p_X5_96 hd (mw_mo hst) hn hf (Nat.le_of_ble_eq_true rfl) ?_
  have h : us (mw mo ad sl fi ai al) mo (.inr (5, (m_fs ad fi).set 7 (.int x))) = mw mo ad sl (va_up fi 7 x) ai al := by
    funext a
    by_cases ha : a = mo
    · subst ha
      rw [us_same, mw_mo hst]
      rfl
    · rw [us_ne _ _ ha]
      unfold mw
      rw [if_neg ha, if_neg ha]
  rw [h]
  exact kk
theorem mg_33 (hst : MSt mo ad sl) (hd : decode cc pc = .ok (.getfield 33, 3)) (kk : K p l e s m args below meth c R RX5 cc nL rt G A Q k n (Hd G A (mw mo ad sl fi ai al)) (pc + 3) lv (.ref (ad 8) :: st)) : K p l e s m args below meth c R RX5 cc nL rt G A Q k n (Hd G A (mw mo ad sl fi ai al)) pc lv (.ref mo :: st) := g_X5_33 hd (mw_mo hst) rfl kk
theorem mg_106 (hst : MSt mo ad sl) (hd : decode cc pc = .ok (.getfield 106, 3)) (kk : K p l e s m args below meth c R RX5 cc nL rt G A Q k n (Hd G A (mw mo ad sl fi ai al)) (pc + 3) lv (.int (fi 9) :: st)) : K p l e s m args below meth c R RX5 cc nL rt G A Q k n (Hd G A (mw mo ad sl fi ai al)) pc lv (.ref mo :: st) := g_X5_106 hd (mw_mo hst) rfl kk
theorem mp_106 (hst : MSt mo ad sl) {x : Int32} (hd : decode cc pc = .ok (.putfield 106, 3)) (hn : narrow (tyX5 9) (.int x) = .int x) (hf : fits (tyX5 9) (.int x) = true) (kk : K p l e s m args below meth c R RX5 cc nL rt G A Q k n (Hd G A (mw mo ad sl (va_up fi 9 x) ai al)) (pc + 3) lv st) : K p l e s m args below meth c R RX5 cc nL rt G A Q k n (Hd G A (mw mo ad sl fi ai al)) pc lv (.int x :: .ref mo :: st) := by
  refine p_X5_106 hd (mw_mo hst) hn hf (Nat.le_of_ble_eq_true rfl) ?_
  have h : us (mw mo ad sl fi ai al) mo (.inr (5, (m_fs ad fi).set 9 (.int x))) = mw mo ad sl (va_up fi 9 x) ai al := by
    funext a
    by_cases ha : a = mo
    · subst ha
      rw [us_same, mw_mo hst]
      rfl
    · rw [us_ne _ _ ha]
      unfold mw
      rw [if_neg ha, if_neg ha]
  rw [h]
  exact kk
theorem mg_100 (hst : MSt mo ad sl) (hd : decode cc pc = .ok (.getfield 100, 3)) (kk : K p l e s m args below meth c R RX5 cc nL rt G A Q k n (Hd G A (mw mo ad sl fi ai al)) (pc + 3) lv (.int (fi 10) :: st)) : K p l e s m args below meth c R RX5 cc nL rt G A Q k n (Hd G A (mw mo ad sl fi ai al)) pc lv (.ref mo :: st) := g_X5_100 hd (mw_mo hst) rfl kk
theorem mp_100 (hst : MSt mo ad sl) {x : Int32} (hd : decode cc pc = .ok (.putfield 100, 3)) (hn : narrow (tyX5 10) (.int x) = .int x) (hf : fits (tyX5 10) (.int x) = true) (kk : K p l e s m args below meth c R RX5 cc nL rt G A Q k n (Hd G A (mw mo ad sl (va_up fi 10 x) ai al)) (pc + 3) lv st) : K p l e s m args below meth c R RX5 cc nL rt G A Q k n (Hd G A (mw mo ad sl fi ai al)) pc lv (.int x :: .ref mo :: st) := by
  refine p_X5_100 hd (mw_mo hst) hn hf (Nat.le_of_ble_eq_true rfl) ?_
  have h : us (mw mo ad sl fi ai al) mo (.inr (5, (m_fs ad fi).set 10 (.int x))) = mw mo ad sl (va_up fi 10 x) ai al := by
    funext a
    by_cases ha : a = mo
    · subst ha
      rw [us_same, mw_mo hst]
      rfl
    · rw [us_ne _ _ ha]
      unfold mw
      rw [if_neg ha, if_neg ha]
  rw [h]
  exact kk
theorem mg_36 (hst : MSt mo ad sl) (hd : decode cc pc = .ok (.getfield 36, 3)) (kk : K p l e s m args below meth c R RX5 cc nL rt G A Q k n (Hd G A (mw mo ad sl fi ai al)) (pc + 3) lv (.ref (ad 11) :: st)) : K p l e s m args below meth c R RX5 cc nL rt G A Q k n (Hd G A (mw mo ad sl fi ai al)) pc lv (.ref mo :: st) := g_X5_36 hd (mw_mo hst) rfl kk
theorem mg_39 (hst : MSt mo ad sl) (hd : decode cc pc = .ok (.getfield 39, 3)) (kk : K p l e s m args below meth c R RX5 cc nL rt G A Q k n (Hd G A (mw mo ad sl fi ai al)) (pc + 3) lv (.ref (ad 12) :: st)) : K p l e s m args below meth c R RX5 cc nL rt G A Q k n (Hd G A (mw mo ad sl fi ai al)) pc lv (.ref mo :: st) := g_X5_39 hd (mw_mo hst) rfl kk
theorem mg_42 (hst : MSt mo ad sl) (hd : decode cc pc = .ok (.getfield 42, 3)) (kk : K p l e s m args below meth c R RX5 cc nL rt G A Q k n (Hd G A (mw mo ad sl fi ai al)) (pc + 3) lv (.ref (ad 13) :: st)) : K p l e s m args below meth c R RX5 cc nL rt G A Q k n (Hd G A (mw mo ad sl fi ai al)) pc lv (.ref mo :: st) := g_X5_42 hd (mw_mo hst) rfl kk
theorem mg_45 (hst : MSt mo ad sl) (hd : decode cc pc = .ok (.getfield 45, 3)) (kk : K p l e s m args below meth c R RX5 cc nL rt G A Q k n (Hd G A (mw mo ad sl fi ai al)) (pc + 3) lv (.ref (ad 14) :: st)) : K p l e s m args below meth c R RX5 cc nL rt G A Q k n (Hd G A (mw mo ad sl fi ai al)) pc lv (.ref mo :: st) := g_X5_45 hd (mw_mo hst) rfl kk
theorem mg_48 (hst : MSt mo ad sl) (hd : decode cc pc = .ok (.getfield 48, 3)) (kk : K p l e s m args below meth c R RX5 cc nL rt G A Q k n (Hd G A (mw mo ad sl fi ai al)) (pc + 3) lv (.ref (ad 15) :: st)) : K p l e s m args below meth c R RX5 cc nL rt G A Q k n (Hd G A (mw mo ad sl fi ai al)) pc lv (.ref mo :: st) := g_X5_48 hd (mw_mo hst) rfl kk
theorem mg_51 (hst : MSt mo ad sl) (hd : decode cc pc = .ok (.getfield 51, 3)) (kk : K p l e s m args below meth c R RX5 cc nL rt G A Q k n (Hd G A (mw mo ad sl fi ai al)) (pc + 3) lv (.ref (ad 16) :: st)) : K p l e s m args below meth c R RX5 cc nL rt G A Q k n (Hd G A (mw mo ad sl fi ai al)) pc lv (.ref mo :: st) := g_X5_51 hd (mw_mo hst) rfl kk
theorem mg_54 (hst : MSt mo ad sl) (hd : decode cc pc = .ok (.getfield 54, 3)) (kk : K p l e s m args below meth c R RX5 cc nL rt G A Q k n (Hd G A (mw mo ad sl fi ai al)) (pc + 3) lv (.ref (ad 17) :: st)) : K p l e s m args below meth c R RX5 cc nL rt G A Q k n (Hd G A (mw mo ad sl fi ai al)) pc lv (.ref mo :: st) := g_X5_54 hd (mw_mo hst) rfl kk
theorem mg_57 (hst : MSt mo ad sl) (hd : decode cc pc = .ok (.getfield 57, 3)) (kk : K p l e s m args below meth c R RX5 cc nL rt G A Q k n (Hd G A (mw mo ad sl fi ai al)) (pc + 3) lv (.ref (ad 18) :: st)) : K p l e s m args below meth c R RX5 cc nL rt G A Q k n (Hd G A (mw mo ad sl fi ai al)) pc lv (.ref mo :: st) := g_X5_57 hd (mw_mo hst) rfl kk
theorem mg_60 (hst : MSt mo ad sl) (hd : decode cc pc = .ok (.getfield 60, 3)) (kk : K p l e s m args below meth c R RX5 cc nL rt G A Q k n (Hd G A (mw mo ad sl fi ai al)) (pc + 3) lv (.ref (ad 19) :: st)) : K p l e s m args below meth c R RX5 cc nL rt G A Q k n (Hd G A (mw mo ad sl fi ai al)) pc lv (.ref mo :: st) := g_X5_60 hd (mw_mo hst) rfl kk
theorem mg_63 (hst : MSt mo ad sl) (hd : decode cc pc = .ok (.getfield 63, 3)) (kk : K p l e s m args below meth c R RX5 cc nL rt G A Q k n (Hd G A (mw mo ad sl fi ai al)) (pc + 3) lv (.ref (ad 20) :: st)) : K p l e s m args below meth c R RX5 cc nL rt G A Q k n (Hd G A (mw mo ad sl fi ai al)) pc lv (.ref mo :: st) := g_X5_63 hd (mw_mo hst) rfl kk
theorem mg_66 (hst : MSt mo ad sl) (hd : decode cc pc = .ok (.getfield 66, 3)) (kk : K p l e s m args below meth c R RX5 cc nL rt G A Q k n (Hd G A (mw mo ad sl fi ai al)) (pc + 3) lv (.ref (ad 21) :: st)) : K p l e s m args below meth c R RX5 cc nL rt G A Q k n (Hd G A (mw mo ad sl fi ai al)) pc lv (.ref mo :: st) := g_X5_66 hd (mw_mo hst) rfl kk
theorem mg_69 (hst : MSt mo ad sl) (hd : decode cc pc = .ok (.getfield 69, 3)) (kk : K p l e s m args below meth c R RX5 cc nL rt G A Q k n (Hd G A (mw mo ad sl fi ai al)) (pc + 3) lv (.ref (ad 22) :: st)) : K p l e s m args below meth c R RX5 cc nL rt G A Q k n (Hd G A (mw mo ad sl fi ai al)) pc lv (.ref mo :: st) := g_X5_69 hd (mw_mo hst) rfl kk
theorem mg_130 (hst : MSt mo ad sl) (hd : decode cc pc = .ok (.getfield 130, 3)) (kk : K p l e s m args below meth c R RX5 cc nL rt G A Q k n (Hd G A (mw mo ad sl fi ai al)) (pc + 3) lv (.int (fi 23) :: st)) : K p l e s m args below meth c R RX5 cc nL rt G A Q k n (Hd G A (mw mo ad sl fi ai al)) pc lv (.ref mo :: st) := g_X5_130 hd (mw_mo hst) rfl kk
theorem mp_130 (hst : MSt mo ad sl) {x : Int32} (hd : decode cc pc = .ok (.putfield 130, 3)) (hn : narrow (tyX5 23) (.int x) = .int x) (hf : fits (tyX5 23) (.int x) = true) (kk : K p l e s m args below meth c R RX5 cc nL rt G A Q k n (Hd G A (mw mo ad sl (va_up fi 23 x) ai al)) (pc + 3) lv st) : K p l e s m args below meth c R RX5 cc nL rt G A Q k n (Hd G A (mw mo ad sl fi ai al)) pc lv (.int x :: .ref mo :: st) := by
  refine p_X5_130 hd (mw_mo hst) hn hf (Nat.le_of_ble_eq_true rfl) ?_
  have h : us (mw mo ad sl fi ai al) mo (.inr (5, (m_fs ad fi).set 23 (.int x))) = mw mo ad sl (va_up fi 23 x) ai al := by
    funext a
    by_cases ha : a = mo
    · subst ha
      rw [us_same, mw_mo hst]
      rfl
    · rw [us_ne _ _ ha]
      unfold mw
      rw [if_neg ha, if_neg ha]
  rw [h]
  exact kk
theorem mg_72 (hst : MSt mo ad sl) (hd : decode cc pc = .ok (.getfield 72, 3)) (kk : K p l e s m args below meth c R RX5 cc nL rt G A Q k n (Hd G A (mw mo ad sl fi ai al)) (pc + 3) lv (.ref (ad 24) :: st)) : K p l e s m args below meth c R RX5 cc nL rt G A Q k n (Hd G A (mw mo ad sl fi ai al)) pc lv (.ref mo :: st) := g_X5_72 hd (mw_mo hst) rfl kk
theorem mg_157 (hst : MSt mo ad sl) (hd : decode cc pc = .ok (.getfield 157, 3)) (kk : K p l e s m args below meth c R RX5 cc nL rt G A Q k n (Hd G A (mw mo ad sl fi ai al)) (pc + 3) lv (.int (fi 25) :: st)) : K p l e s m args below meth c R RX5 cc nL rt G A Q k n (Hd G A (mw mo ad sl fi ai al)) pc lv (.ref mo :: st) := g_X5_157 hd (mw_mo hst) rfl kk
theorem mp_157 (hst : MSt mo ad sl) {x : Int32} (hd : decode cc pc = .ok (.putfield 157, 3)) (hn : narrow (tyX5 25) (.int x) = .int x) (hf : fits (tyX5 25) (.int x) = true) (kk : K p l e s m args below meth c R RX5 cc nL rt G A Q k n (Hd G A (mw mo ad sl (va_up fi 25 x) ai al)) (pc + 3) lv st) : K p l e s m args below meth c R RX5 cc nL rt G A Q k n (Hd G A (mw mo ad sl fi ai al)) pc lv (.int x :: .ref mo :: st) := by
  refine p_X5_157 hd (mw_mo hst) hn hf (Nat.le_of_ble_eq_true rfl) ?_
  have h : us (mw mo ad sl fi ai al) mo (.inr (5, (m_fs ad fi).set 25 (.int x))) = mw mo ad sl (va_up fi 25 x) ai al := by
    funext a
    by_cases ha : a = mo
    · subst ha
      rw [us_same, mw_mo hst]
      rfl
    · rw [us_ne _ _ ha]
      unfold mw
      rw [if_neg ha, if_neg ha]
  rw [h]
  exact kk
theorem mg_161 (hst : MSt mo ad sl) (hd : decode cc pc = .ok (.getfield 161, 3)) (kk : K p l e s m args below meth c R RX5 cc nL rt G A Q k n (Hd G A (mw mo ad sl fi ai al)) (pc + 3) lv (.int (fi 26) :: st)) : K p l e s m args below meth c R RX5 cc nL rt G A Q k n (Hd G A (mw mo ad sl fi ai al)) pc lv (.ref mo :: st) := g_X5_161 hd (mw_mo hst) rfl kk
theorem mp_161 (hst : MSt mo ad sl) {x : Int32} (hd : decode cc pc = .ok (.putfield 161, 3)) (hn : narrow (tyX5 26) (.int x) = .int x) (hf : fits (tyX5 26) (.int x) = true) (kk : K p l e s m args below meth c R RX5 cc nL rt G A Q k n (Hd G A (mw mo ad sl (va_up fi 26 x) ai al)) (pc + 3) lv st) : K p l e s m args below meth c R RX5 cc nL rt G A Q k n (Hd G A (mw mo ad sl fi ai al)) pc lv (.int x :: .ref mo :: st) := by
  refine p_X5_161 hd (mw_mo hst) hn hf (Nat.le_of_ble_eq_true rfl) ?_
  have h : us (mw mo ad sl fi ai al) mo (.inr (5, (m_fs ad fi).set 26 (.int x))) = mw mo ad sl (va_up fi 26 x) ai al := by
    funext a
    by_cases ha : a = mo
    · subst ha
      rw [us_same, mw_mo hst]
      rfl
    · rw [us_ne _ _ ha]
      unfold mw
      rw [if_neg ha, if_neg ha]
  rw [h]
  exact kk
theorem mg_164 (hst : MSt mo ad sl) (hd : decode cc pc = .ok (.getfield 164, 3)) (kk : K p l e s m args below meth c R RX5 cc nL rt G A Q k n (Hd G A (mw mo ad sl fi ai al)) (pc + 3) lv (.int (fi 27) :: st)) : K p l e s m args below meth c R RX5 cc nL rt G A Q k n (Hd G A (mw mo ad sl fi ai al)) pc lv (.ref mo :: st) := g_X5_164 hd (mw_mo hst) rfl kk
theorem mp_164 (hst : MSt mo ad sl) {x : Int32} (hd : decode cc pc = .ok (.putfield 164, 3)) (hn : narrow (tyX5 27) (.int x) = .int x) (hf : fits (tyX5 27) (.int x) = true) (kk : K p l e s m args below meth c R RX5 cc nL rt G A Q k n (Hd G A (mw mo ad sl (va_up fi 27 x) ai al)) (pc + 3) lv st) : K p l e s m args below meth c R RX5 cc nL rt G A Q k n (Hd G A (mw mo ad sl fi ai al)) pc lv (.int x :: .ref mo :: st) := by
  refine p_X5_164 hd (mw_mo hst) hn hf (Nat.le_of_ble_eq_true rfl) ?_
  have h : us (mw mo ad sl fi ai al) mo (.inr (5, (m_fs ad fi).set 27 (.int x))) = mw mo ad sl (va_up fi 27 x) ai al := by
    funext a
    by_cases ha : a = mo
    · subst ha
      rw [us_same, mw_mo hst]
      rfl
    · rw [us_ne _ _ ha]
      unfold mw
      rw [if_neg ha, if_neg ha]
  rw [h]
  exact kk
theorem mg_167 (hst : MSt mo ad sl) (hd : decode cc pc = .ok (.getfield 167, 3)) (kk : K p l e s m args below meth c R RX5 cc nL rt G A Q k n (Hd G A (mw mo ad sl fi ai al)) (pc + 3) lv (.int (fi 28) :: st)) : K p l e s m args below meth c R RX5 cc nL rt G A Q k n (Hd G A (mw mo ad sl fi ai al)) pc lv (.ref mo :: st) := g_X5_167 hd (mw_mo hst) rfl kk
theorem mp_167 (hst : MSt mo ad sl) {x : Int32} (hd : decode cc pc = .ok (.putfield 167, 3)) (hn : narrow (tyX5 28) (.int x) = .int x) (hf : fits (tyX5 28) (.int x) = true) (kk : K p l e s m args below meth c R RX5 cc nL rt G A Q k n (Hd G A (mw mo ad sl (va_up fi 28 x) ai al)) (pc + 3) lv st) : K p l e s m args below meth c R RX5 cc nL rt G A Q k n (Hd G A (mw mo ad sl fi ai al)) pc lv (.int x :: .ref mo :: st) := by
  refine p_X5_167 hd (mw_mo hst) hn hf (Nat.le_of_ble_eq_true rfl) ?_
  have h : us (mw mo ad sl fi ai al) mo (.inr (5, (m_fs ad fi).set 28 (.int x))) = mw mo ad sl (va_up fi 28 x) ai al := by
    funext a
    by_cases ha : a = mo
    · subst ha
      rw [us_same, mw_mo hst]
      rfl
    · rw [us_ne _ _ ha]
      unfold mw
      rw [if_neg ha, if_neg ha]
  rw [h]
  exact kk
theorem m_iald (hst : MSt mo ad sl) {q j : Nat} (hq : mtp q = 1) (hd : decode cc pc = .ok (.iaload, 1)) {i : Int32} (hi : i = nI j) (hj : j < mln q) (hN : mln q < 2 ^ 31) (kk : K p l e s m args below meth c R RX5 cc nL rt G A Q k n (Hd G A (mw mo ad sl fi ai al)) (pc + 1) lv (.int (ai q j) :: st)) : K p l e s m args below meth c R RX5 cc nL rt G A Q k n (Hd G A (mw mo ad sl fi ai al)) pc lv (.int i :: .ref (ad q) :: st) := k_iald (g := ai q) hd ((mw_ad hst (by rw [hq]; decide)).trans (by unfold mcell; rw [hq]; rfl)) hi hj hN kk
theorem m_lald (hst : MSt mo ad sl) {q j : Nat} (hq : mtp q = 2) (hd : decode cc pc = .ok (.laload, 1)) {i : Int32} (hi : i = nI j) (hj : j < mln q) (hN : mln q < 2 ^ 31) (kk : K p l e s m args below meth c R RX5 cc nL rt G A Q k n (Hd G A (mw mo ad sl fi ai al)) (pc + 1) lv (.long (al q j) :: st)) : K p l e s m args below meth c R RX5 cc nL rt G A Q k n (Hd G A (mw mo ad sl fi ai al)) pc lv (.int i :: .ref (ad q) :: st) := k_lald (g := al q) hd ((mw_ad hst (by rw [hq]; decide)).trans (by unfold mcell; rw [hq]; rfl)) hi hj hN kk
theorem m_zald (hst : MSt mo ad sl) {q j : Nat} (hq : mtp q = 3) (hd : decode cc pc = .ok (.baload, 1)) {i : Int32} (hi : i = nI j) (hj : j < mln q) (hN : mln q < 2 ^ 31) (kk : K p l e s m args below meth c R RX5 cc nL rt G A Q k n (Hd G A (mw mo ad sl fi ai al)) (pc + 1) lv (.int (ai q j) :: st)) : K p l e s m args below meth c R RX5 cc nL rt G A Q k n (Hd G A (mw mo ad sl fi ai al)) pc lv (.int i :: .ref (ad q) :: st) := k_zald (g := ai q) hd ((mw_ad hst (by rw [hq]; decide)).trans (by unfold mcell; rw [hq]; rfl)) hi hj hN kk
theorem m_iast (hst : MSt mo ad sl) {q j : Nat} {x : Int32} (hq : mtp q = 1) (hd : decode cc pc = .ok (.iastore, 1)) {i : Int32} (hi : i = nI j) (hj : j < mln q) (hN : mln q < 2 ^ 31) (kk : K p l e s m args below meth c R RX5 cc nL rt G A Q k n (Hd G A (mw mo ad sl fi (up2 ai q j x) al)) (pc + 1) lv st) : K p l e s m args below meth c R RX5 cc nL rt G A Q k n (Hd G A (mw mo ad sl fi ai al)) pc lv (.int x :: .int i :: .ref (ad q) :: st) := by
  refine k_iast (g := ai q) hd ((mw_ad hst (by rw [hq]; decide)).trans (by unfold mcell; rw [hq]; rfl)) hi hj hN ?_
  rw [mw_up hst (by rw [hq]; decide) (ai' := (up2 ai q j x)) (al' := al) (by unfold mcell; rw [hq]; unfold up2; rw [va_up_self]; rfl) (fun z hz => by unfold mcell up2; rw [va_up_ne _ _ hz])]
  exact kk
theorem m_last (hst : MSt mo ad sl) {q j : Nat} {x : Int64} (hq : mtp q = 2) (hd : decode cc pc = .ok (.lastore, 1)) {i : Int32} (hi : i = nI j) (hj : j < mln q) (hN : mln q < 2 ^ 31) (kk : K p l e s m args below meth c R RX5 cc nL rt G A Q k n (Hd G A (mw mo ad sl fi ai (up2 al q j x))) (pc + 1) lv st) : K p l e s m args below meth c R RX5 cc nL rt G A Q k n (Hd G A (mw mo ad sl fi ai al)) pc lv (.long x :: .int i :: .ref (ad q) :: st) := by
  refine k_last (g := al q) hd ((mw_ad hst (by rw [hq]; decide)).trans (by unfold mcell; rw [hq]; rfl)) hi hj hN ?_
  rw [mw_up hst (by rw [hq]; decide) (al' := (up2 al q j x)) (ai' := ai) (by unfold mcell; rw [hq]; unfold up2; rw [va_up_self]; rfl) (fun z hz => by unfold mcell up2; rw [va_up_ne _ _ hz])]
  exact kk
theorem m_zast (hst : MSt mo ad sl) {q j : Nat} {x : Int32} (hq : mtp q = 3) (hd : decode cc pc = .ok (.bastore, 1)) {i : Int32} (hi : i = nI j) (hj : j < mln q) (hN : mln q < 2 ^ 31) (hx : narrow .boolean (.int x) = .int x) (kk : K p l e s m args below meth c R RX5 cc nL rt G A Q k n (Hd G A (mw mo ad sl fi (up2 ai q j x) al)) (pc + 1) lv st) : K p l e s m args below meth c R RX5 cc nL rt G A Q k n (Hd G A (mw mo ad sl fi ai al)) pc lv (.int x :: .int i :: .ref (ad q) :: st) := by
  refine k_zast (g := ai q) hd ((mw_ad hst (by rw [hq]; decide)).trans (by unfold mcell; rw [hq]; rfl)) hi hj hN hx ?_
  rw [mw_up hst (by rw [hq]; decide) (ai' := (up2 ai q j x)) (al' := al) (by unfold mcell; rw [hq]; unfold up2; rw [va_up_self]; rfl) (fun z hz => by unfold mcell up2; rw [va_up_ne _ _ hz])]
  exact kk
end MROWS
