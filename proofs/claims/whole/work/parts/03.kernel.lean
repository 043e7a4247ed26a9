/-! the abstract heap: an array (number of its type, length, contents) or an object (number of its class, fields) -/
abbrev Ce : Type := (Nat × Nat × (Nat → Value)) ⊕ (Nat × List Value)
abbrev Gd : Type := va_G × (Nat → ClassId)
abbrev Wd : Type := Nat → Option Ce
def ce_at (G : Gd) (a : Nat) (x : Ce) (H : Heap) : Prop := match x with
  | .inl r => H[a]? = some (arrV (G.2 r.1) r.2.1 r.2.2)
  | .inr o => va_at G.1 classes (a, .inr o) H
def tysG (G : Gd) : List (ClassId × FieldType) := [(G.2 0, .int), (G.2 1, .long), (G.2 2, .boolean), (G.2 3, .object "EmberCache$Item"), (G.2 4, .object "EmberCache$Row")]
def KK (G : Gd) (U : State) : Prop := va_K G.1 classes (tysG G) U ∧ (∀ w ∈ NW, va_Nw w U) ∧ va_AO "EmberCache$Item" U ∧ va_AO "EmberCache$Row" U
def Hd (G : Gd) (A : Nat → Prop) (w : Wd) (H : Heap) : Prop := (∀ a x, w a = some x → ce_at G a x H ∧ A a) ∧ ∀ q, H.size ≤ q → A q
def us (w : Wd) (a : Nat) (x : Ce) : Wd := fun b => if b = a then some x else w b
theorem us_same (w : Wd) (a : Nat) (x : Ce) : us w a x a = some x := if_pos rfl
theorem us_ne (w : Wd) {a b : Nat} (x : Ce) (h : b ≠ a) : us w a x b = w b := if_neg h
theorem ce_lt {G : Gd} {a : Nat} {x : Ce} {H : Heap} (h : ce_at G a x H) : a < H.size := by
  cases x with
  | inl r => exact (Array.getElem?_eq_some_iff.mp h).1
  | inr o => exact va_at.lt (q := (a, .inr o)) h
theorem ce_kept {G : Gd} {a : Nat} {x : Ce} {H H1 : Heap} (h : ce_at G a x H) (hq : H1[a]? = H[a]?) : ce_at G a x H1 := by
  cases x with
  | inl r => exact hq.trans h
  | inr o => exact va_at.kept (q := (a, .inr o)) h hq
theorem Hd.set {G : Gd} {A : Nat → Prop} {w : Wd} {H H1 : Heap} {a : Nat} {x : Ce} (h : Hd G A w H) (ha : A a) (he : ce_at G a x H1) (z : H1.size = H.size) (oq : ∀ q : Nat, q ≠ a → H1[q]? = H[q]?) : Hd G A (us w a x) H1 := by
  refine ⟨fun b y hb => ?_, fun q hq => h.2 q (by rw [← z]; exact hq)⟩
  by_cases hba : b = a
  · subst hba
    rw [us_same] at hb
    cases hb
    exact ⟨he, ha⟩
  · rw [us_ne w x hba] at hb
    exact ⟨ce_kept (h.1 b y hb).1 (oq b hba), (h.1 b y hb).2⟩
theorem Hd.push {G : Gd} {A : Nat → Prop} {w : Wd} {H H1 : Heap} {x : Ce} (h : Hd G A w H) (he : ce_at G H.size x H1) (z : H1.size = H.size + 1) (oq : ∀ q : Nat, q < H.size → H1[q]? = H[q]?) : Hd G A (us w H.size x) H1 := by
  refine ⟨fun b y hb => ?_, fun q hq => h.2 q (by omega)⟩
  by_cases hba : b = H.size
  · subst hba
    rw [us_same] at hb
    cases hb
    exact ⟨he, h.2 _ (Nat.le_refl _)⟩
  · rw [us_ne w x hba] at hb
    exact ⟨ce_kept (h.1 b y hb).1 (oq b (ce_lt (h.1 b y hb).1)), (h.1 b y hb).2⟩
theorem Hd.frame {G : Gd} {A B : Nat → Prop} {w : Wd} {H H1 : Heap} (h : Hd G A w H) (hz : H.size ≤ H1.size) (hk : ∀ q : Nat, q < H.size → ¬ B q → H1[q]? = H[q]?) (hd : ∀ a x, w a = some x → ¬ B a) : Hd G A w H1 :=
  ⟨fun a x hx => ⟨ce_kept (h.1 a x hx).1 (hk a (ce_lt (h.1 a x hx).1) (hd a x hx)), (h.1 a x hx).2⟩, fun q hq => h.2 q (Nat.le_trans hz hq)⟩
theorem KK.warm {G : Gd} {s U : State} (hW : s.WarmedH U.vm) (h : KK G s) : KK G U := by
  refine ⟨va_K.moved hW.alike h.1, fun w hw => ?_, va_AO.moved hW.alike h.2.2.1, va_AO.moved hW.alike h.2.2.2⟩
  have h1 := h.2.1 w hw
  have h2 := (List.mem_filter.mp hw).2
  cases w <;> first | exact va_Nw.warmF hW h1 | exact va_Nw.warmM hW h1 | cases h2
theorem KK.call {G : Gd} {U : State} {g : JFrame} {mk : MethodId} {a : Array Value} (h : KK G U) : KK G (U.calling g mk a) := by
  refine ⟨va_K.moved (u := U) (U := U.calling g mk a) (Vm.Alike.refl U.vm) h.1, fun w hw => ?_, va_AO.moved (u := U) (U := U.calling g mk a) (Vm.Alike.refl U.vm) h.2.2.1, va_AO.moved (u := U) (U := U.calling g mk a) (Vm.Alike.refl U.vm) h.2.2.2⟩
  have h1 := h.2.1 w hw
  have h2 := (List.mem_filter.mp hw).2
  cases w <;> first | exact va_Nw.same rfl (rfl : U.vm = (U.calling g mk a).vm) h1 | cases h2
/-! the locals by their places -/
def lp_has (ls : Array Slot) (n : Nat) (lv : List (Option Value)) : Prop := ls.size = n ∧ lv_wf ls ∧ ∀ (i : Nat) (v : Value), lv[i]? = some (some v) → ls[i]? = some (Slot.val v)
def lp_ok (lv : List (Option Value)) (i : Nat) : Bool := match i with
  | 0 => true
  | j + 1 => match lv[j]? with
    | some (some (.long _)) => false
    | some (some (.double _)) => false
    | _ => true
theorem lp_cat {lv : List (Option Value)} {i j : Nat} {v : Value} (h : lp_ok lv i = true) (hj : lv[j]? = some (some v)) (hji : j + 1 = i) : v.category = 1 := by
  subst hji
  unfold lp_ok at h
  simp only [hj] at h
  cases v <;> first | rfl | cases h
theorem lp_store1 {ls : Array Slot} {n : Nat} {lv : List (Option Value)} {i : Nat} {v : Value} (h : lp_has ls n lv) (hi : i < n) (hc : v.category = 1) (hk : lp_ok lv i = true) :
    ∃ ls', storeLocals ls i v = some ls' ∧ lp_has ls' n (lv.set i (some v)) := by
  obtain ⟨ls', e', h0⟩ := lv_store1 (l := []) ⟨h.1, h.2.1, fun _ q => by cases q⟩ hi hc
  refine ⟨ls', e', h0.1, h0.2.1, fun j u hj => ?_⟩
  by_cases hji : j = i
  · subst hji
    rw [List.getElem?_set] at hj
    rw [if_pos rfl] at hj
    split at hj
    · cases hj
      exact h0.2.2 (j, v) List.mem_cons_self
    · cases hj
  · rw [List.getElem?_set_ne (Ne.symm hji)] at hj
    obtain ⟨ls2, e2, h2⟩ := lv_store1 (l := [(j, u)]) (v := v) ⟨h.1, h.2.1, fun q hq => by rw [List.mem_singleton.mp hq]; exact h.2.2 j u hj⟩ hi hc
    rw [e'] at e2
    cases e2
    refine h2.2.2 (j, u) (List.mem_cons_of_mem _ (List.mem_filter.mpr ⟨List.mem_singleton.mpr rfl, ?_⟩))
    by_cases h3 : j + 1 = i
    · have h4 := lp_cat hk hj h3
      simp [hji, h4]
    · simp [hji, h3]
theorem lp_store2 {ls : Array Slot} {n : Nat} {lv : List (Option Value)} {i : Nat} {v : Value} (h : lp_has ls n lv) (hi : i + 1 < n) (hc : v.category = 2) (hk : lp_ok lv i = true) :
    ∃ ls', storeLocals ls i v = some ls' ∧ lp_has ls' n ((lv.set i (some v)).set (i + 1) none) := by
  obtain ⟨ls', e', h0⟩ := lv_store2 (l := []) ⟨h.1, h.2.1, fun _ q => by cases q⟩ hi hc
  refine ⟨ls', e', h0.1, h0.2.1, fun j u hj => ?_⟩
  by_cases hj1 : j = i + 1
  · subst hj1
    rw [List.getElem?_set] at hj
    rw [if_pos rfl] at hj
    split at hj <;> cases hj
  · rw [List.getElem?_set_ne (Ne.symm hj1)] at hj
    by_cases hji : j = i
    · subst hji
      rw [List.getElem?_set] at hj
      rw [if_pos rfl] at hj
      split at hj
      · cases hj
        exact h0.2.2 (j, v) List.mem_cons_self
      · cases hj
    · rw [List.getElem?_set_ne (Ne.symm hji)] at hj
      obtain ⟨ls2, e2, h2⟩ := lv_store2 (l := [(j, u)]) (v := v) ⟨h.1, h.2.1, fun q hq => by rw [List.mem_singleton.mp hq]; exact h.2.2 j u hj⟩ hi hc
      rw [e'] at e2
      cases e2
      refine h2.2.2 (j, u) (List.mem_cons_of_mem _ (List.mem_filter.mpr ⟨List.mem_singleton.mpr rfl, ?_⟩))
      by_cases h3 : j + 1 = i
      · have h4 := lp_cat hk hj h3
        simp [hji, hj1, h4]
      · simp [hji, hj1, h3]
/-! what holds all through a method's run, and the judgement: from here the machine comes to Q -/
def Fx (p : Program) (s : State) (m : MethodId) (args : Array Value) (meth : Method) (c : Code) (own : String) (cc : ByteArray) (nL : Nat) (rt : Option FieldType) (G : Gd) : Prop :=
  p.tables.exec = Jvm.exec ∧ c.code = cc ∧ c.maxLocals = nL ∧ s.vm.findClass own = some m.cls ∧ (∀ w ∈ GW, w.before args s = true) ∧ KK G s ∧ meth.sig.returnType = rt ∧ meth.locks = false
def K (p : Program) (l : Launch) (e : Env) (s : State) (m : MethodId) (args : Array Value) (below : List Frame) (meth : Method) (c : Code) (R : Room) (own : String) (cc : ByteArray) (nL : Nat) (rt : Option FieldType) (G : Gd) (A : Nat → Prop) (Q : State → Prop) (k n : Nat) (I : Heap → Prop) (pc : Nat) (lv : List (Option Value)) (st : List Value) : Prop :=
  Fx p s m args meth c own cc nL rt G → ∀ (H : Heap) (locs : List Loc) (ls : Array Slot), I H → va_S A s.heap H locs → lp_has ls nL lv → W p l e R s m args below meth c H locs k n Q (F0 m pc ls st)
section KROWS
variable {p : Program} {l : Launch} {e : Env} {s : State} {m : MethodId} {args : Array Value} {below : List Frame} {meth : Method} {c : Code} {R : Room} {own : String} {cc : ByteArray} {nL : Nat} {rt : Option FieldType} {G : Gd} {A : Nat → Prop} {Q : State → Prop} {k n : Nat} {I : Heap → Prop} {pc : Nat} {lv : List (Option Value)} {st : List Value}
theorem k_iconst {z : Int} {v : Int32} (hd : decode cc pc = .ok (.iconst z, 1)) (hv : Int32.ofInt z = v) (kk : K p l e s m args below meth c R own cc nL rt G A Q k n I (pc + 1) lv (.int v :: st)) : K p l e s m args below meth c R own cc nL rt G A Q k n I pc lv st := fun F H locs ls hI hS hl => lv_iconst F.1 F.2.1 hd hv (kk F H locs ls hI hS hl)
theorem k_bipush {z : Int} {v : Int32} (hd : decode cc pc = .ok (.bipush z, 2)) (hv : (Int8.ofInt z).toInt32 = v) (kk : K p l e s m args below meth c R own cc nL rt G A Q k n I (pc + 2) lv (.int v :: st)) : K p l e s m args below meth c R own cc nL rt G A Q k n I pc lv st := fun F H locs ls hI hS hl => lv_bipush F.1 F.2.1 hd hv (kk F H locs ls hI hS hl)
theorem k_sipush {z : Int} {v : Int32} (hd : decode cc pc = .ok (.sipush z, 3)) (hv : (Int16.ofInt z).toInt32 = v) (kk : K p l e s m args below meth c R own cc nL rt G A Q k n I (pc + 3) lv (.int v :: st)) : K p l e s m args below meth c R own cc nL rt G A Q k n I pc lv st := fun F H locs ls hI hS hl => lv_sipush F.1 F.2.1 hd hv (kk F H locs ls hI hS hl)
theorem k_lconst {z : Fin 2} {v : Int64} (hd : decode cc pc = .ok (.lconst z, 1)) (hv : Int64.ofNat (z : Nat) = v) (kk : K p l e s m args below meth c R own cc nL rt G A Q k n I (pc + 1) lv (.long v :: st)) : K p l e s m args below meth c R own cc nL rt G A Q k n I pc lv st := fun F H locs ls hI hS hl => lv_lconst F.1 F.2.1 hd hv (kk F H locs ls hI hS hl)
theorem k_null (hd : decode cc pc = .ok (.aconst_null, 1)) (kk : K p l e s m args below meth c R own cc nL rt G A Q k n I (pc + 1) lv (.null :: st)) : K p l e s m args below meth c R own cc nL rt G A Q k n I pc lv st := fun F H locs ls hI hS hl => lv_null F.1 F.2.1 hd (kk F H locs ls hI hS hl)
theorem k_iload_n {j : Fin 4} {x : Int32} (hd : decode cc pc = .ok (.iload_n j, 1)) (hv : lv[(j : Nat)]? = some (some (.int x))) (kk : K p l e s m args below meth c R own cc nL rt G A Q k n I (pc + 1) lv (.int x :: st)) : K p l e s m args below meth c R own cc nL rt G A Q k n I pc lv st := fun F H locs ls hI hS hl => lv_iload_n F.1 F.2.1 hd rfl (hl.2.2 _ _ hv) (kk F H locs ls hI hS hl)
theorem k_iload {j : Nat} {x : Int32} (hd : decode cc pc = .ok (.iload j, 2)) (hv : lv[j]? = some (some (.int x))) (kk : K p l e s m args below meth c R own cc nL rt G A Q k n I (pc + 2) lv (.int x :: st)) : K p l e s m args below meth c R own cc nL rt G A Q k n I pc lv st := fun F H locs ls hI hS hl => lv_iload F.1 F.2.1 hd (hl.2.2 _ _ hv) (kk F H locs ls hI hS hl)
theorem k_lload_n {j : Fin 4} {x : Int64} (hd : decode cc pc = .ok (.lload_n j, 1)) (hv : lv[(j : Nat)]? = some (some (.long x))) (kk : K p l e s m args below meth c R own cc nL rt G A Q k n I (pc + 1) lv (.long x :: st)) : K p l e s m args below meth c R own cc nL rt G A Q k n I pc lv st := fun F H locs ls hI hS hl => lv_lload_n F.1 F.2.1 hd rfl (hl.2.2 _ _ hv) (kk F H locs ls hI hS hl)
theorem k_lload {j : Nat} {x : Int64} (hd : decode cc pc = .ok (.lload j, 2)) (hv : lv[j]? = some (some (.long x))) (kk : K p l e s m args below meth c R own cc nL rt G A Q k n I (pc + 2) lv (.long x :: st)) : K p l e s m args below meth c R own cc nL rt G A Q k n I pc lv st := fun F H locs ls hI hS hl => lv_lload F.1 F.2.1 hd (hl.2.2 _ _ hv) (kk F H locs ls hI hS hl)
theorem k_aload_n {j : Fin 4} {x : Nat} (hd : decode cc pc = .ok (.aload_n j, 1)) (hv : lv[(j : Nat)]? = some (some (.ref x))) (kk : K p l e s m args below meth c R own cc nL rt G A Q k n I (pc + 1) lv (.ref x :: st)) : K p l e s m args below meth c R own cc nL rt G A Q k n I pc lv st := fun F H locs ls hI hS hl => lv_aload_n F.1 F.2.1 hd rfl (hl.2.2 _ _ hv) (kk F H locs ls hI hS hl)
theorem k_aload {j : Nat} {x : Nat} (hd : decode cc pc = .ok (.aload j, 2)) (hv : lv[j]? = some (some (.ref x))) (kk : K p l e s m args below meth c R own cc nL rt G A Q k n I (pc + 2) lv (.ref x :: st)) : K p l e s m args below meth c R own cc nL rt G A Q k n I pc lv st := fun F H locs ls hI hS hl => lv_aload F.1 F.2.1 hd (hl.2.2 _ _ hv) (kk F H locs ls hI hS hl)
theorem k_aload_nN {j : Fin 4} (hd : decode cc pc = .ok (.aload_n j, 1)) (hv : lv[(j : Nat)]? = some (some .null)) (kk : K p l e s m args below meth c R own cc nL rt G A Q k n I (pc + 1) lv (.null :: st)) : K p l e s m args below meth c R own cc nL rt G A Q k n I pc lv st := fun F H locs ls hI hS hl => lv_aload_nN F.1 F.2.1 hd rfl (hl.2.2 _ _ hv) (kk F H locs ls hI hS hl)
theorem k_aloadN {j : Nat} (hd : decode cc pc = .ok (.aload j, 2)) (hv : lv[j]? = some (some .null)) (kk : K p l e s m args below meth c R own cc nL rt G A Q k n I (pc + 2) lv (.null :: st)) : K p l e s m args below meth c R own cc nL rt G A Q k n I pc lv st := fun F H locs ls hI hS hl => lv_aloadN F.1 F.2.1 hd (hl.2.2 _ _ hv) (kk F H locs ls hI hS hl)
theorem k_istore {j : Nat} {x : Int32} (hd : decode cc pc = .ok (.istore j, 2)) (hn : j < nL) (hk : lp_ok lv j = true) (kk : K p l e s m args below meth c R own cc nL rt G A Q k n I (pc + 2) (lv.set j (some (Value.int x))) st) : K p l e s m args below meth c R own cc nL rt G A Q k n I pc lv ((Value.int x) :: st) := by
  intro F H locs ls hI hS hl
  obtain ⟨ls', e', h'⟩ := lp_store1 (v := (Value.int x)) hl hn rfl hk
  intro T hT X
  obtain ⟨t, a, b⟩ := kk F H locs ls' hI hS h' T hT X
  refine ⟨t, ?_, b⟩
  have hexec := F.1
  have hb := F.2.1
  jvm_step X.here [X.here.top, ↓top_set X.here.top, hexec, hb, hd, e', Value.isRef]
  exact a
theorem k_istore_n {i : Fin 4} {x : Int32} (hd : decode cc pc = .ok (.istore_n i, 1)) (hn : (i : Nat) < nL) (hk : lp_ok lv (i : Nat) = true) (kk : K p l e s m args below meth c R own cc nL rt G A Q k n I (pc + 1) (lv.set (i : Nat) (some (Value.int x))) st) : K p l e s m args below meth c R own cc nL rt G A Q k n I pc lv ((Value.int x) :: st) := by
  intro F H locs ls hI hS hl
  obtain ⟨ls', e', h'⟩ := lp_store1 (v := (Value.int x)) hl hn rfl hk
  intro T hT X
  obtain ⟨t, a, b⟩ := kk F H locs ls' hI hS h' T hT X
  refine ⟨t, ?_, b⟩
  have hexec := F.1
  have hb := F.2.1
  jvm_step X.here [X.here.top, ↓top_set X.here.top, hexec, hb, hd, e', Value.isRef]
  exact a
theorem k_lstore {j : Nat} {x : Int64} (hd : decode cc pc = .ok (.lstore j, 2)) (hn : j + 1 < nL) (hk : lp_ok lv j = true) (kk : K p l e s m args below meth c R own cc nL rt G A Q k n I (pc + 2) ((lv.set j (some (Value.long x))).set (j + 1) none) st) : K p l e s m args below meth c R own cc nL rt G A Q k n I pc lv ((Value.long x) :: st) := by
  intro F H locs ls hI hS hl
  obtain ⟨ls', e', h'⟩ := lp_store2 (v := (Value.long x)) hl hn rfl hk
  intro T hT X
  obtain ⟨t, a, b⟩ := kk F H locs ls' hI hS h' T hT X
  refine ⟨t, ?_, b⟩
  have hexec := F.1
  have hb := F.2.1
  jvm_step X.here [X.here.top, ↓top_set X.here.top, hexec, hb, hd, e', Value.isRef]
  exact a
theorem k_lstore_n {i : Fin 4} {x : Int64} (hd : decode cc pc = .ok (.lstore_n i, 1)) (hn : (i : Nat) + 1 < nL) (hk : lp_ok lv (i : Nat) = true) (kk : K p l e s m args below meth c R own cc nL rt G A Q k n I (pc + 1) ((lv.set (i : Nat) (some (Value.long x))).set ((i : Nat) + 1) none) st) : K p l e s m args below meth c R own cc nL rt G A Q k n I pc lv ((Value.long x) :: st) := by
  intro F H locs ls hI hS hl
  obtain ⟨ls', e', h'⟩ := lp_store2 (v := (Value.long x)) hl hn rfl hk
  intro T hT X
  obtain ⟨t, a, b⟩ := kk F H locs ls' hI hS h' T hT X
  refine ⟨t, ?_, b⟩
  have hexec := F.1
  have hb := F.2.1
  jvm_step X.here [X.here.top, ↓top_set X.here.top, hexec, hb, hd, e', Value.isRef]
  exact a
theorem k_astore {j : Nat} {x : Nat} (hd : decode cc pc = .ok (.astore j, 2)) (hn : j < nL) (hk : lp_ok lv j = true) (kk : K p l e s m args below meth c R own cc nL rt G A Q k n I (pc + 2) (lv.set j (some (Value.ref x))) st) : K p l e s m args below meth c R own cc nL rt G A Q k n I pc lv ((Value.ref x) :: st) := by
  intro F H locs ls hI hS hl
  obtain ⟨ls', e', h'⟩ := lp_store1 (v := (Value.ref x)) hl hn rfl hk
  intro T hT X
  obtain ⟨t, a, b⟩ := kk F H locs ls' hI hS h' T hT X
  refine ⟨t, ?_, b⟩
  have hexec := F.1
  have hb := F.2.1
  jvm_step X.here [X.here.top, ↓top_set X.here.top, hexec, hb, hd, e', Value.isRef]
  exact a
theorem k_astore_n {i : Fin 4} {x : Nat} (hd : decode cc pc = .ok (.astore_n i, 1)) (hn : (i : Nat) < nL) (hk : lp_ok lv (i : Nat) = true) (kk : K p l e s m args below meth c R own cc nL rt G A Q k n I (pc + 1) (lv.set (i : Nat) (some (Value.ref x))) st) : K p l e s m args below meth c R own cc nL rt G A Q k n I pc lv ((Value.ref x) :: st) := by
  intro F H locs ls hI hS hl
  obtain ⟨ls', e', h'⟩ := lp_store1 (v := (Value.ref x)) hl hn rfl hk
  intro T hT X
  obtain ⟨t, a, b⟩ := kk F H locs ls' hI hS h' T hT X
  refine ⟨t, ?_, b⟩
  have hexec := F.1
  have hb := F.2.1
  jvm_step X.here [X.here.top, ↓top_set X.here.top, hexec, hb, hd, e', Value.isRef]
  exact a
theorem k_astoreN {j : Nat} (hd : decode cc pc = .ok (.astore j, 2)) (hn : j < nL) (hk : lp_ok lv j = true) (kk : K p l e s m args below meth c R own cc nL rt G A Q k n I (pc + 2) (lv.set j (some Value.null)) st) : K p l e s m args below meth c R own cc nL rt G A Q k n I pc lv (Value.null :: st) := by
  intro F H locs ls hI hS hl
  obtain ⟨ls', e', h'⟩ := lp_store1 (v := Value.null) hl hn rfl hk
  intro T hT X
  obtain ⟨t, a, b⟩ := kk F H locs ls' hI hS h' T hT X
  refine ⟨t, ?_, b⟩
  have hexec := F.1
  have hb := F.2.1
  jvm_step X.here [X.here.top, ↓top_set X.here.top, hexec, hb, hd, e', Value.isRef]
  exact a
theorem k_astore_nN {i : Fin 4} (hd : decode cc pc = .ok (.astore_n i, 1)) (hn : (i : Nat) < nL) (hk : lp_ok lv (i : Nat) = true) (kk : K p l e s m args below meth c R own cc nL rt G A Q k n I (pc + 1) (lv.set (i : Nat) (some Value.null)) st) : K p l e s m args below meth c R own cc nL rt G A Q k n I pc lv (Value.null :: st) := by
  intro F H locs ls hI hS hl
  obtain ⟨ls', e', h'⟩ := lp_store1 (v := Value.null) hl hn rfl hk
  intro T hT X
  obtain ⟨t, a, b⟩ := kk F H locs ls' hI hS h' T hT X
  refine ⟨t, ?_, b⟩
  have hexec := F.1
  have hb := F.2.1
  jvm_step X.here [X.here.top, ↓top_set X.here.top, hexec, hb, hd, e', Value.isRef]
  exact a
theorem k_iinc {j : Nat} {z : Int} {x v : Int32} (hd : decode cc pc = .ok (.iinc j z, 3)) (hx : lv[j]? = some (some (.int x))) (hv : x + Int32.ofInt z = v) (hn : j < nL) (hk : lp_ok lv j = true) (kk : K p l e s m args below meth c R own cc nL rt G A Q k n I (pc + 3) (lv.set j (some (.int v))) st) : K p l e s m args below meth c R own cc nL rt G A Q k n I pc lv st := by
  intro F H locs ls hI hS hl
  subst hv
  have hg := hl.2.2 _ _ hx
  obtain ⟨ls', e', h'⟩ := lp_store1 (v := .int (x + Int32.ofInt z)) hl hn rfl hk
  intro T hT X
  obtain ⟨t, a, b⟩ := kk F H locs ls' hI hS h' T hT X
  refine ⟨t, ?_, b⟩
  have hexec := F.1
  have hb := F.2.1
  jvm_step X.here [X.here.top, ↓top_set X.here.top, hexec, hb, hd, hg, e']
  exact a
theorem k_iadd {x y : Int32} (hd : decode cc pc = .ok (.iadd, 1)) (kk : K p l e s m args below meth c R own cc nL rt G A Q k n I (pc + 1) lv (.int (x + y) :: st)) : K p l e s m args below meth c R own cc nL rt G A Q k n I pc lv (.int y :: .int x :: st) := fun F H locs ls hI hS hl => lv_iadd F.1 F.2.1 hd (kk F H locs ls hI hS hl)
theorem k_isub {x y : Int32} (hd : decode cc pc = .ok (.isub, 1)) (kk : K p l e s m args below meth c R own cc nL rt G A Q k n I (pc + 1) lv (.int (x - y) :: st)) : K p l e s m args below meth c R own cc nL rt G A Q k n I pc lv (.int y :: .int x :: st) := fun F H locs ls hI hS hl => lv_isub F.1 F.2.1 hd (kk F H locs ls hI hS hl)
theorem k_imul {x y : Int32} (hd : decode cc pc = .ok (.imul, 1)) (kk : K p l e s m args below meth c R own cc nL rt G A Q k n I (pc + 1) lv (.int (x * y) :: st)) : K p l e s m args below meth c R own cc nL rt G A Q k n I pc lv (.int y :: .int x :: st) := fun F H locs ls hI hS hl => lv_imul F.1 F.2.1 hd (kk F H locs ls hI hS hl)
theorem k_iand {x y : Int32} (hd : decode cc pc = .ok (.iand, 1)) (kk : K p l e s m args below meth c R own cc nL rt G A Q k n I (pc + 1) lv (.int (x &&& y) :: st)) : K p l e s m args below meth c R own cc nL rt G A Q k n I pc lv (.int y :: .int x :: st) := fun F H locs ls hI hS hl => lv_iand F.1 F.2.1 hd (kk F H locs ls hI hS hl)
theorem k_ior {x y : Int32} (hd : decode cc pc = .ok (.ior, 1)) (kk : K p l e s m args below meth c R own cc nL rt G A Q k n I (pc + 1) lv (.int (x ||| y) :: st)) : K p l e s m args below meth c R own cc nL rt G A Q k n I pc lv (.int y :: .int x :: st) := fun F H locs ls hI hS hl => lv_ior F.1 F.2.1 hd (kk F H locs ls hI hS hl)
theorem k_ixor {x y : Int32} (hd : decode cc pc = .ok (.ixor, 1)) (kk : K p l e s m args below meth c R own cc nL rt G A Q k n I (pc + 1) lv (.int (x ^^^ y) :: st)) : K p l e s m args below meth c R own cc nL rt G A Q k n I pc lv (.int y :: .int x :: st) := fun F H locs ls hI hS hl => lv_ixor F.1 F.2.1 hd (kk F H locs ls hI hS hl)
theorem k_idiv {x y : Int32} (hd : decode cc pc = .ok (.idiv, 1)) (hne : ¬ y = 0) (kk : K p l e s m args below meth c R own cc nL rt G A Q k n I (pc + 1) lv (.int (x / y) :: st)) : K p l e s m args below meth c R own cc nL rt G A Q k n I pc lv (.int y :: .int x :: st) := fun F H locs ls hI hS hl => lv_idiv F.1 F.2.1 hd hne (kk F H locs ls hI hS hl)
theorem k_irem {x y : Int32} (hd : decode cc pc = .ok (.irem, 1)) (hne : ¬ y = 0) (kk : K p l e s m args below meth c R own cc nL rt G A Q k n I (pc + 1) lv (.int (x - x / y * y) :: st)) : K p l e s m args below meth c R own cc nL rt G A Q k n I pc lv (.int y :: .int x :: st) := fun F H locs ls hI hS hl => lv_irem F.1 F.2.1 hd hne (kk F H locs ls hI hS hl)
theorem k_ladd {x y : Int64} (hd : decode cc pc = .ok (.ladd, 1)) (kk : K p l e s m args below meth c R own cc nL rt G A Q k n I (pc + 1) lv (.long (x + y) :: st)) : K p l e s m args below meth c R own cc nL rt G A Q k n I pc lv (.long y :: .long x :: st) := fun F H locs ls hI hS hl => lv_ladd F.1 F.2.1 hd (kk F H locs ls hI hS hl)
theorem k_lsub {x y : Int64} (hd : decode cc pc = .ok (.lsub, 1)) (kk : K p l e s m args below meth c R own cc nL rt G A Q k n I (pc + 1) lv (.long (x - y) :: st)) : K p l e s m args below meth c R own cc nL rt G A Q k n I pc lv (.long y :: .long x :: st) := fun F H locs ls hI hS hl => lv_lsub F.1 F.2.1 hd (kk F H locs ls hI hS hl)
theorem k_lmul {x y : Int64} (hd : decode cc pc = .ok (.lmul, 1)) (kk : K p l e s m args below meth c R own cc nL rt G A Q k n I (pc + 1) lv (.long (x * y) :: st)) : K p l e s m args below meth c R own cc nL rt G A Q k n I pc lv (.long y :: .long x :: st) := fun F H locs ls hI hS hl => lv_lmul F.1 F.2.1 hd (kk F H locs ls hI hS hl)
theorem k_land {x y : Int64} (hd : decode cc pc = .ok (.land, 1)) (kk : K p l e s m args below meth c R own cc nL rt G A Q k n I (pc + 1) lv (.long (x &&& y) :: st)) : K p l e s m args below meth c R own cc nL rt G A Q k n I pc lv (.long y :: .long x :: st) := fun F H locs ls hI hS hl => lv_land F.1 F.2.1 hd (kk F H locs ls hI hS hl)
theorem k_lor {x y : Int64} (hd : decode cc pc = .ok (.lor, 1)) (kk : K p l e s m args below meth c R own cc nL rt G A Q k n I (pc + 1) lv (.long (x ||| y) :: st)) : K p l e s m args below meth c R own cc nL rt G A Q k n I pc lv (.long y :: .long x :: st) := fun F H locs ls hI hS hl => lv_lor F.1 F.2.1 hd (kk F H locs ls hI hS hl)
theorem k_lxor {x y : Int64} (hd : decode cc pc = .ok (.lxor, 1)) (kk : K p l e s m args below meth c R own cc nL rt G A Q k n I (pc + 1) lv (.long (x ^^^ y) :: st)) : K p l e s m args below meth c R own cc nL rt G A Q k n I pc lv (.long y :: .long x :: st) := fun F H locs ls hI hS hl => lv_lxor F.1 F.2.1 hd (kk F H locs ls hI hS hl)
theorem k_lushr {x : Int64} {y : Int32} (hd : decode cc pc = .ok (.lushr, 1)) (kk : K p l e s m args below meth c R own cc nL rt G A Q k n I (pc + 1) lv (.long (x.toUInt64 >>> (y.toInt64.toUInt64 &&& Int64.toUInt64 63)).toInt64 :: st)) : K p l e s m args below meth c R own cc nL rt G A Q k n I pc lv (.int y :: .long x :: st) := fun F H locs ls hI hS hl => lv_lushr F.1 F.2.1 hd rfl (kk F H locs ls hI hS hl)
theorem k_lshl {x : Int64} {y : Int32} (hd : decode cc pc = .ok (.lshl, 1)) (kk : K p l e s m args below meth c R own cc nL rt G A Q k n I (pc + 1) lv (.long (x <<< (y.toInt64 &&& 63)) :: st)) : K p l e s m args below meth c R own cc nL rt G A Q k n I pc lv (.int y :: .long x :: st) := fun F H locs ls hI hS hl => lv_lshl F.1 F.2.1 hd rfl (kk F H locs ls hI hS hl)
theorem k_i2l {x : Int32} (hd : decode cc pc = .ok (.i2l, 1)) (kk : K p l e s m args below meth c R own cc nL rt G A Q k n I (pc + 1) lv (.long x.toInt64 :: st)) : K p l e s m args below meth c R own cc nL rt G A Q k n I pc lv (.int x :: st) := fun F H locs ls hI hS hl => lv_i2l F.1 F.2.1 hd rfl (kk F H locs ls hI hS hl)
theorem k_l2i {x : Int64} (hd : decode cc pc = .ok (.l2i, 1)) (kk : K p l e s m args below meth c R own cc nL rt G A Q k n I (pc + 1) lv (.int x.toInt32 :: st)) : K p l e s m args below meth c R own cc nL rt G A Q k n I pc lv (.long x :: st) := fun F H locs ls hI hS hl => lv_l2i F.1 F.2.1 hd rfl (kk F H locs ls hI hS hl)
theorem k_lcmp {x y : Int64} (hd : decode cc pc = .ok (.lcmp, 1)) (kk : K p l e s m args below meth c R own cc nL rt G A Q k n I (pc + 1) lv (.int (lg_cmp x y) :: st)) : K p l e s m args below meth c R own cc nL rt G A Q k n I pc lv (.long y :: .long x :: st) := fun F H locs ls hI hS hl => W.lcmp F.1 F.2.1 hd (kk F H locs ls hI hS hl)
theorem k_dup {v : Value} (hd : decode cc pc = .ok (.dup, 1)) (hc : v.category = 1) (kk : K p l e s m args below meth c R own cc nL rt G A Q k n I (pc + 1) lv (v :: v :: st)) : K p l e s m args below meth c R own cc nL rt G A Q k n I pc lv (v :: st) := fun F H locs ls hI hS hl => lv_dup F.1 F.2.1 hd hc (kk F H locs ls hI hS hl)
theorem k_pop {v : Value} (hd : decode cc pc = .ok (.pop, 1)) (hc : v.category = 1) (kk : K p l e s m args below meth c R own cc nL rt G A Q k n I (pc + 1) lv st) : K p l e s m args below meth c R own cc nL rt G A Q k n I pc lv (v :: st) := fun F H locs ls hI hS hl => lv_pop F.1 F.2.1 hd hc (kk F H locs ls hI hS hl)
theorem k_dup2 {v u : Value} (hd : decode cc pc = .ok (.dup2, 1)) (hc : v.category = 1) (hu : u.category = 1) (kk : K p l e s m args below meth c R own cc nL rt G A Q k n I (pc + 1) lv (v :: u :: v :: u :: st)) : K p l e s m args below meth c R own cc nL rt G A Q k n I pc lv (v :: u :: st) := fun F H locs ls hI hS hl => lv_dup2_11 F.1 F.2.1 hd hc hu (kk F H locs ls hI hS hl)
theorem k_goto {off : Int} {tgt : Nat} (hd : decode cc pc = .ok (.goto off, 3)) (ht : (pc : Int) + off = (tgt : Int)) (kk : K p l e s m args below meth c R own cc nL rt G A Q k n I tgt lv st) : K p l e s m args below meth c R own cc nL rt G A Q k n I pc lv st := fun F H locs ls hI hS hl => lv_goto F.1 F.2.1 hd ht (kk F H locs ls hI hS hl)
theorem k_ifnull {x : Nat} {off : Int} (hd : decode cc pc = .ok (.ifnull off, 3)) (kk : K p l e s m args below meth c R own cc nL rt G A Q k n I (pc + 3) lv st) : K p l e s m args below meth c R own cc nL rt G A Q k n I pc lv (.ref x :: st) := fun F H locs ls hI hS hl => lv_ifnull F.1 F.2.1 hd (kk F H locs ls hI hS hl)
theorem k_ifnullN {off : Int} {tgt : Nat} (hd : decode cc pc = .ok (.ifnull off, 3)) (ht : (pc : Int) + off = (tgt : Int)) (kk : K p l e s m args below meth c R own cc nL rt G A Q k n I tgt lv st) : K p l e s m args below meth c R own cc nL rt G A Q k n I pc lv (.null :: st) := fun F H locs ls hI hS hl => lv_ifnullN F.1 F.2.1 hd ht (kk F H locs ls hI hS hl)
theorem k_ifnonnull {x : Nat} {off : Int} {tgt : Nat} (hd : decode cc pc = .ok (.ifnonnull off, 3)) (ht : (pc : Int) + off = (tgt : Int)) (kk : K p l e s m args below meth c R own cc nL rt G A Q k n I tgt lv st) : K p l e s m args below meth c R own cc nL rt G A Q k n I pc lv (.ref x :: st) := fun F H locs ls hI hS hl => lv_ifnonnull F.1 F.2.1 hd ht (kk F H locs ls hI hS hl)
theorem k_ifnonnullN {off : Int} (hd : decode cc pc = .ok (.ifnonnull off, 3)) (kk : K p l e s m args below meth c R own cc nL rt G A Q k n I (pc + 3) lv st) : K p l e s m args below meth c R own cc nL rt G A Q k n I pc lv (.null :: st) := fun F H locs ls hI hS hl => lv_ifnonnullN F.1 F.2.1 hd (kk F H locs ls hI hS hl)
theorem k_if_eq {x : Int32} {off : Int} {tgt : Nat} (hd : decode cc pc = .ok (.ifCond .eq off, 3)) (ht : (pc : Int) + off = (tgt : Int)) (kt : x = 0 → K p l e s m args below meth c R own cc nL rt G A Q k n I tgt lv st) (kf : ¬ (x = 0) → K p l e s m args below meth c R own cc nL rt G A Q k n I (pc + 3) lv st) : K p l e s m args below meth c R own cc nL rt G A Q k n I pc lv (.int x :: st) := fun F H locs ls hI hS hl => lv_if_eq F.1 F.2.1 hd ht (fun h => kt h F H locs ls hI hS hl) (fun h => kf h F H locs ls hI hS hl)
theorem k_icmp_eq {x y : Int32} {off : Int} {tgt : Nat} (hd : decode cc pc = .ok (.if_icmp .eq off, 3)) (ht : (pc : Int) + off = (tgt : Int)) (kt : x = y → K p l e s m args below meth c R own cc nL rt G A Q k n I tgt lv st) (kf : ¬ (x = y) → K p l e s m args below meth c R own cc nL rt G A Q k n I (pc + 3) lv st) : K p l e s m args below meth c R own cc nL rt G A Q k n I pc lv (.int y :: .int x :: st) := fun F H locs ls hI hS hl => lv_icmp_eq F.1 F.2.1 hd ht (fun h => kt h F H locs ls hI hS hl) (fun h => kf h F H locs ls hI hS hl)
theorem k_if_ne {x : Int32} {off : Int} {tgt : Nat} (hd : decode cc pc = .ok (.ifCond .ne off, 3)) (ht : (pc : Int) + off = (tgt : Int)) (kt : ¬ x = 0 → K p l e s m args below meth c R own cc nL rt G A Q k n I tgt lv st) (kf : x = 0 → K p l e s m args below meth c R own cc nL rt G A Q k n I (pc + 3) lv st) : K p l e s m args below meth c R own cc nL rt G A Q k n I pc lv (.int x :: st) := fun F H locs ls hI hS hl => lv_if_ne F.1 F.2.1 hd ht (fun h => kt h F H locs ls hI hS hl) (fun h => kf h F H locs ls hI hS hl)
theorem k_icmp_ne {x y : Int32} {off : Int} {tgt : Nat} (hd : decode cc pc = .ok (.if_icmp .ne off, 3)) (ht : (pc : Int) + off = (tgt : Int)) (kt : ¬ x = y → K p l e s m args below meth c R own cc nL rt G A Q k n I tgt lv st) (kf : x = y → K p l e s m args below meth c R own cc nL rt G A Q k n I (pc + 3) lv st) : K p l e s m args below meth c R own cc nL rt G A Q k n I pc lv (.int y :: .int x :: st) := fun F H locs ls hI hS hl => lv_icmp_ne F.1 F.2.1 hd ht (fun h => kt h F H locs ls hI hS hl) (fun h => kf h F H locs ls hI hS hl)
theorem k_if_lt {x : Int32} {off : Int} {tgt : Nat} (hd : decode cc pc = .ok (.ifCond .lt off, 3)) (ht : (pc : Int) + off = (tgt : Int)) (kt : x < 0 → K p l e s m args below meth c R own cc nL rt G A Q k n I tgt lv st) (kf : ¬ (x < 0) → K p l e s m args below meth c R own cc nL rt G A Q k n I (pc + 3) lv st) : K p l e s m args below meth c R own cc nL rt G A Q k n I pc lv (.int x :: st) := fun F H locs ls hI hS hl => lv_if_lt F.1 F.2.1 hd ht (fun h => kt h F H locs ls hI hS hl) (fun h => kf h F H locs ls hI hS hl)
theorem k_icmp_lt {x y : Int32} {off : Int} {tgt : Nat} (hd : decode cc pc = .ok (.if_icmp .lt off, 3)) (ht : (pc : Int) + off = (tgt : Int)) (kt : x < y → K p l e s m args below meth c R own cc nL rt G A Q k n I tgt lv st) (kf : ¬ (x < y) → K p l e s m args below meth c R own cc nL rt G A Q k n I (pc + 3) lv st) : K p l e s m args below meth c R own cc nL rt G A Q k n I pc lv (.int y :: .int x :: st) := fun F H locs ls hI hS hl => lv_icmp_lt F.1 F.2.1 hd ht (fun h => kt h F H locs ls hI hS hl) (fun h => kf h F H locs ls hI hS hl)
theorem k_if_ge {x : Int32} {off : Int} {tgt : Nat} (hd : decode cc pc = .ok (.ifCond .ge off, 3)) (ht : (pc : Int) + off = (tgt : Int)) (kt : 0 ≤ x → K p l e s m args below meth c R own cc nL rt G A Q k n I tgt lv st) (kf : ¬ (0 ≤ x) → K p l e s m args below meth c R own cc nL rt G A Q k n I (pc + 3) lv st) : K p l e s m args below meth c R own cc nL rt G A Q k n I pc lv (.int x :: st) := fun F H locs ls hI hS hl => lv_if_ge F.1 F.2.1 hd ht (fun h => kt h F H locs ls hI hS hl) (fun h => kf h F H locs ls hI hS hl)
theorem k_icmp_ge {x y : Int32} {off : Int} {tgt : Nat} (hd : decode cc pc = .ok (.if_icmp .ge off, 3)) (ht : (pc : Int) + off = (tgt : Int)) (kt : y ≤ x → K p l e s m args below meth c R own cc nL rt G A Q k n I tgt lv st) (kf : ¬ (y ≤ x) → K p l e s m args below meth c R own cc nL rt G A Q k n I (pc + 3) lv st) : K p l e s m args below meth c R own cc nL rt G A Q k n I pc lv (.int y :: .int x :: st) := fun F H locs ls hI hS hl => lv_icmp_ge F.1 F.2.1 hd ht (fun h => kt h F H locs ls hI hS hl) (fun h => kf h F H locs ls hI hS hl)
theorem k_if_gt {x : Int32} {off : Int} {tgt : Nat} (hd : decode cc pc = .ok (.ifCond .gt off, 3)) (ht : (pc : Int) + off = (tgt : Int)) (kt : 0 < x → K p l e s m args below meth c R own cc nL rt G A Q k n I tgt lv st) (kf : ¬ (0 < x) → K p l e s m args below meth c R own cc nL rt G A Q k n I (pc + 3) lv st) : K p l e s m args below meth c R own cc nL rt G A Q k n I pc lv (.int x :: st) := fun F H locs ls hI hS hl => lv_if_gt F.1 F.2.1 hd ht (fun h => kt h F H locs ls hI hS hl) (fun h => kf h F H locs ls hI hS hl)
theorem k_icmp_gt {x y : Int32} {off : Int} {tgt : Nat} (hd : decode cc pc = .ok (.if_icmp .gt off, 3)) (ht : (pc : Int) + off = (tgt : Int)) (kt : y < x → K p l e s m args below meth c R own cc nL rt G A Q k n I tgt lv st) (kf : ¬ (y < x) → K p l e s m args below meth c R own cc nL rt G A Q k n I (pc + 3) lv st) : K p l e s m args below meth c R own cc nL rt G A Q k n I pc lv (.int y :: .int x :: st) := fun F H locs ls hI hS hl => lv_icmp_gt F.1 F.2.1 hd ht (fun h => kt h F H locs ls hI hS hl) (fun h => kf h F H locs ls hI hS hl)
theorem k_if_le {x : Int32} {off : Int} {tgt : Nat} (hd : decode cc pc = .ok (.ifCond .le off, 3)) (ht : (pc : Int) + off = (tgt : Int)) (kt : x ≤ 0 → K p l e s m args below meth c R own cc nL rt G A Q k n I tgt lv st) (kf : ¬ (x ≤ 0) → K p l e s m args below meth c R own cc nL rt G A Q k n I (pc + 3) lv st) : K p l e s m args below meth c R own cc nL rt G A Q k n I pc lv (.int x :: st) := fun F H locs ls hI hS hl => lv_if_le F.1 F.2.1 hd ht (fun h => kt h F H locs ls hI hS hl) (fun h => kf h F H locs ls hI hS hl)
theorem k_icmp_le {x y : Int32} {off : Int} {tgt : Nat} (hd : decode cc pc = .ok (.if_icmp .le off, 3)) (ht : (pc : Int) + off = (tgt : Int)) (kt : x ≤ y → K p l e s m args below meth c R own cc nL rt G A Q k n I tgt lv st) (kf : ¬ (x ≤ y) → K p l e s m args below meth c R own cc nL rt G A Q k n I (pc + 3) lv st) : K p l e s m args below meth c R own cc nL rt G A Q k n I pc lv (.int y :: .int x :: st) := fun F H locs ls hI hS hl => lv_icmp_le F.1 F.2.1 hd ht (fun h => kt h F H locs ls hI hS hl) (fun h => kf h F H locs ls hI hS hl)
theorem k_ldc2 {index : Nat} {v : Int64} (hc : Cond.constantLong own index v ∈ GW) (hd : decode cc pc = .ok (.ldc2_w index, 3)) (kk : K p l e s m args below meth c R own cc nL rt G A Q k n I (pc + 3) lv (.long v :: st)) : K p l e s m args below meth c R own cc nL rt G A Q k n I pc lv st := fun F H locs ls hI hS hl => lv_ldc2 F.1 F.2.1 F.2.2.2.1 (F.2.2.2.2.1 _ hc) hd (kk F H locs ls hI hS hl)
theorem k_tableOut {dflt lo hi : Int} {offs : Array Int} {len : Nat} {x : Int32} {tgt : Nat} (hd : decode cc pc = .ok (.tableswitch dflt lo hi offs, len)) (h : x.toInt < lo ∨ hi < x.toInt) (ht : (pc : Int) + dflt = (tgt : Int)) (kk : K p l e s m args below meth c R own cc nL rt G A Q k n I tgt lv st) : K p l e s m args below meth c R own cc nL rt G A Q k n I pc lv (.int x :: st) := fun F H locs ls hI hS hl => lv_tableOut F.1 F.2.1 hd h ht (kk F H locs ls hI hS hl)
theorem k_tableIn {dflt lo hi : Int} {offs : Array Int} {len : Nat} {x : Int32} {off : Int} {tgt : Nat} (hd : decode cc pc = .ok (.tableswitch dflt lo hi offs, len)) (h1 : ¬ x.toInt < lo) (h2 : ¬ hi < x.toInt) (ho : offs[(x.toInt - lo).toNat]? = some off) (ht : (pc : Int) + off = (tgt : Int)) (kk : K p l e s m args below meth c R own cc nL rt G A Q k n I tgt lv st) : K p l e s m args below meth c R own cc nL rt G A Q k n I pc lv (.int x :: st) := fun F H locs ls hI hS hl => lv_tableIn F.1 F.2.1 hd h1 h2 ho ht (kk F H locs ls hI hS hl)
theorem k_lv {lv2 : List (Option Value)} (h : ∀ (i : Nat) (v : Value), lv2[i]? = some (some v) → lv[i]? = some (some v)) (kk : K p l e s m args below meth c R own cc nL rt G A Q k n I pc lv2 st) : K p l e s m args below meth c R own cc nL rt G A Q k n I pc lv st := fun F H locs ls hI hS hl => kk F H locs ls hI hS ⟨hl.1, hl.2.1, fun i v hv => hl.2.2 i v (h i v hv)⟩
theorem k_I {I2 : Heap → Prop} (h : ∀ H, I H → I2 H) (kk : K p l e s m args below meth c R own cc nL rt G A Q k n I2 pc lv st) : K p l e s m args below meth c R own cc nL rt G A Q k n I pc lv st := fun F H locs ls hI hS hl => kk F H locs ls (h H hI) hS hl
theorem k_ex {α : Type} {J : α → Heap → Prop} (kk : ∀ a, K p l e s m args below meth c R own cc nL rt G A Q k n (J a) pc lv st) : K p l e s m args below meth c R own cc nL rt G A Q k n (fun H => ∃ a, J a H) pc lv st := fun F H locs ls hI hS hl => by
  obtain ⟨a, ha⟩ := hI
  exact kk a F H locs ls ha hS hl
theorem k_pure {P : Prop} (kk : P → K p l e s m args below meth c R own cc nL rt G A Q k n I pc lv st) : K p l e s m args below meth c R own cc nL rt G A Q k n (fun H => P ∧ I H) pc lv st := fun F H locs ls hI hS hl => kk hI.1 F H locs ls hI.2 hS hl
theorem k_get_I {P : Prop} (h : ∀ H, I H → P) (kk : P → K p l e s m args below meth c R own cc nL rt G A Q k n I pc lv st) : K p l e s m args below meth c R own cc nL rt G A Q k n I pc lv st := fun F H locs ls hI hS hl => kk (h H hI) F H locs ls hI hS hl
theorem k_widen {k2 n2 : Nat} (h1 : k ≤ k2) (h2 : n ≤ n2) (kk : K p l e s m args below meth c R own cc nL rt G A Q k2 n2 I pc lv st) : K p l e s m args below meth c R own cc nL rt G A Q k n I pc lv st := fun F H locs ls hI hS hl => W.widen h1 h2 (kk F H locs ls hI hS hl)
theorem Hd.one {w : Wd} {H : Heap} {a : Nat} {o : Nat × List Value} (h : Hd G A w H) (ha : w a = some (.inr o)) : va_P G.1 classes [(a, .inr o)] H := by
  intro j q hj
  match j, hj with
  | 0, hj => cases hj; exact (h.1 a _ ha).1
  | j + 1, hj => simp at hj
theorem k_get {w : Wd} {a ci j index N : Nat} {C : String} {T : u_T} {fs : List Value} {v : Value} (hc : classes[ci]? = some (C, T, N)) (hin : ∀ w ∈ u_ws C T N, w ∈ GW) (hj : j < N) (hlink : Cond.fieldLink own index (T j).1 (T j).2.1 (T j).2.2.1 ∈ GW) (hd : decode cc pc = .ok (.getfield index, 3)) (ha : w a = some (.inr (ci, fs))) (hv : fs[j]? = some v) (kk : K p l e s m args below meth c R own cc nL rt G A Q k n (Hd G A w) (pc + 3) lv (v :: st)) : K p l e s m args below meth c R own cc nL rt G A Q k n (Hd G A w) pc lv (.ref a :: st) := fun F H locs ls hI hS hl => va_get F.1 F.2.1 F.2.2.2.2.1 hin F.2.2.2.1 F.2.2.2.2.2.1.1 (hI.one ha) 0 rfl hc j hj (F.2.2.2.2.1 _ hlink) (fun _ h9 => h9) hv hd (kk F H locs ls hI hS hl)
theorem k_getN {w : Wd} {a ci j index N : Nat} {C host : String} {T : u_T} {fs : List Value} {v : Value} (hc : classes[ci]? = some (C, T, N)) (hin : ∀ w ∈ u_ws C T N, w ∈ GW) (hj : j < N) (hlink : Cond.fieldLinkNest own index (T j).1 (T j).2.1 (T j).2.2.1 host ∈ NW) (hd : decode cc pc = .ok (.getfield index, 3)) (ha : w a = some (.inr (ci, fs))) (hv : fs[j]? = some v) (kk : K p l e s m args below meth c R own cc nL rt G A Q k n (Hd G A w) (pc + 3) lv (v :: st)) : K p l e s m args below meth c R own cc nL rt G A Q k n (Hd G A w) pc lv (.ref a :: st) := fun F H locs ls hI hS hl => va_getN F.1 F.2.1 F.2.2.2.2.1 hin F.2.2.2.1 F.2.2.2.2.2.1.1 (hI.one ha) 0 rfl hc j hj (va_Nw.use rfl (F.2.2.2.2.2.1.2.1 _ hlink)) (fun _ h9 => h9) hv hd (kk F H locs ls hI hS hl)
theorem k_put {w : Wd} {a ci j index N : Nat} {C : String} {T : u_T} {fs : List Value} {v : Value} {ty : FieldType} (ty0 : Nat → FieldType) (hc : classes[ci]? = some (C, T, N)) (hin : ∀ w ∈ u_ws C T N, w ∈ GW) (hty : ∀ k, k < N → parseFieldDescriptor (T k).2.2.1 = some (ty0 k)) (hnm : ∀ a, a < N → ∀ b, b < N → a ≠ b → (T a).2.1 ≠ (T b).2.1) (hj : j < N) (hlink : Cond.fieldLink own index (T j).1 (T j).2.1 (T j).2.2.1 ∈ GW) (hfin : (T j).2.2.2 = false) (hde : parseFieldDescriptor (T j).2.2.1 = some ty) (hd : decode cc pc = .ok (.putfield index, 3)) (ha : w a = some (.inr (ci, fs))) (hn : narrow ty v = v) (hfit : fits ty v = true) (hlen : j < fs.length) (kk : K p l e s m args below meth c R own cc nL rt G A Q k n (Hd G A (us w a (.inr (ci, fs.set j v)))) (pc + 3) lv st) : K p l e s m args below meth c R own cc nL rt G A Q k n (Hd G A w) pc lv (v :: .ref a :: st) := by
  intro F H locs ls hI hS hl
  have hts := F.2.2.2.2.1
  have hK := F.2.2.2.2.2.1.1
  have hap := va_apart (own := own) hts hin ty0 hty hnm hK hc
  obtain ⟨r, h1, cell, q1, q2, q3, q4⟩ := (hI.1 a _ ha).1
  have hr : r = (C, T, N) := Option.some.inj (h1.symm.trans hc)
  subst hr
  obtain ⟨hS1, hfc, kC, hkC, hkind⟩ := hK.1 ci _ hc
  obtain ⟨cf, kf, fi, f, hi, hsl⟩ := hS1 j hj
  have hlay := hts _ (hin _ (u_in_lay hj))
  unfold u_lay at hlay
  rw [if_neg (by rw [hfin]; decide)] at hlay
  have hst := (u_facts hfc hkC (u_lays hts hin hj) hi).1
  have h6 := u_store hfc hkC hkind hlay hi hde hn hfit
  refine W.putK F.1 F.2.1 (f := f) ⟨F.2.2.2.1, hts _ hlink, ⟨_, _, _, hi⟩, hst⟩ (by rw [q2]; exact h6) q1 q3 (by rw [hsl]; exact k2_hasslot (q4 j hj)) rfl rfl hd fun H' e1 e2 e3 => ?_
  rw [hsl] at e1 ⊢
  exact kk F H' _ ls (hI.set (hI.1 a _ ha).2 ⟨_, hc, t_OB.to (V := updV (vp_V fs) j v) ⟨_, e1, q2, q3, t_set q4 hap hj v⟩ (fun i _ => vp_updV_set hlen v i)⟩ e2 e3) (hS.put e2 e3 (hI.1 a _ ha).2) hl
theorem k_putN {w : Wd} {a ci j index N : Nat} {C host : String} {T : u_T} {fs : List Value} {v : Value} {ty : FieldType} (ty0 : Nat → FieldType) (hc : classes[ci]? = some (C, T, N)) (hin : ∀ w ∈ u_ws C T N, w ∈ GW) (hty : ∀ k, k < N → parseFieldDescriptor (T k).2.2.1 = some (ty0 k)) (hnm : ∀ a, a < N → ∀ b, b < N → a ≠ b → (T a).2.1 ≠ (T b).2.1) (hj : j < N) (hlink : Cond.fieldLinkNest own index (T j).1 (T j).2.1 (T j).2.2.1 host ∈ NW) (hfin : (T j).2.2.2 = false) (hde : parseFieldDescriptor (T j).2.2.1 = some ty) (hd : decode cc pc = .ok (.putfield index, 3)) (ha : w a = some (.inr (ci, fs))) (hn : narrow ty v = v) (hfit : fits ty v = true) (hlen : j < fs.length) (kk : K p l e s m args below meth c R own cc nL rt G A Q k n (Hd G A (us w a (.inr (ci, fs.set j v)))) (pc + 3) lv st) : K p l e s m args below meth c R own cc nL rt G A Q k n (Hd G A w) pc lv (v :: .ref a :: st) := by
  intro F H locs ls hI hS hl
  have hts := F.2.2.2.2.1
  have hK := F.2.2.2.2.2.1.1
  have hap := va_apart (own := own) hts hin ty0 hty hnm hK hc
  obtain ⟨r, h1, cell, q1, q2, q3, q4⟩ := (hI.1 a _ ha).1
  have hr : r = (C, T, N) := Option.some.inj (h1.symm.trans hc)
  subst hr
  obtain ⟨hS1, hfc, kC, hkC, hkind⟩ := hK.1 ci _ hc
  obtain ⟨cf, kf, fi, f, hi, hsl⟩ := hS1 j hj
  have hlay := hts _ (hin _ (u_in_lay hj))
  unfold u_lay at hlay
  rw [if_neg (by rw [hfin]; decide)] at hlay
  have hst := (u_facts hfc hkC (u_lays hts hin hj) hi).1
  have h6 := u_store hfc hkC hkind hlay hi hde hn hfit
  refine va_WputK F.1 F.2.1 (f := f) F.2.2.2.1 (va_Nw.use rfl (F.2.2.2.2.2.1.2.1 _ hlink)) hi hst (by rw [q2]; exact h6) q1 q3 (by rw [hsl]; exact k2_hasslot (q4 j hj)) rfl rfl hd fun H' e1 e2 e3 => ?_
  rw [hsl] at e1 ⊢
  exact kk F H' _ ls (hI.set (hI.1 a _ ha).2 ⟨_, hc, t_OB.to (V := updV (vp_V fs) j v) ⟨_, e1, q2, q3, t_set q4 hap hj v⟩ (fun i _ => vp_updV_set hlen v i)⟩ e2 e3) (hS.put e2 e3 (hI.1 a _ ha).2) hl
theorem k_putF {w : Wd} {a ci j index N : Nat} {C : String} {T : u_T} {fs : List Value} {v : Value} {ty : FieldType} (ty0 : Nat → FieldType) (hc : classes[ci]? = some (C, T, N)) (hin : ∀ w ∈ u_ws C T N, w ∈ GW) (hty : ∀ k, k < N → parseFieldDescriptor (T k).2.2.1 = some (ty0 k)) (hnm : ∀ a, a < N → ∀ b, b < N → a ≠ b → (T a).2.1 ≠ (T b).2.1) (hj : j < N) (hlink : Cond.fieldLink own index (T j).1 (T j).2.1 (T j).2.2.1 ∈ GW) (hfin : (T j).2.2.2 = true) (hini : meth.name = "<init>") (hdecl : (T j).1 = own) (hde : parseFieldDescriptor (T j).2.2.1 = some ty) (hd : decode cc pc = .ok (.putfield index, 3)) (ha : w a = some (.inr (ci, fs))) (hn : narrow ty v = v) (hfit : fits ty v = true) (hlen : j < fs.length) (kk : K p l e s m args below meth c R own cc nL rt G A Q k n (Hd G A (us w a (.inr (ci, fs.set j v)))) (pc + 3) lv st) : K p l e s m args below meth c R own cc nL rt G A Q k n (Hd G A w) pc lv (v :: .ref a :: st) := by
  intro F H locs ls hI hS hl
  have hts := F.2.2.2.2.1
  have hK := F.2.2.2.2.2.1.1
  have hap := va_apart (own := own) hts hin ty0 hty hnm hK hc
  obtain ⟨r, h1, cell, q1, q2, q3, q4⟩ := (hI.1 a _ ha).1
  have hr : r = (C, T, N) := Option.some.inj (h1.symm.trans hc)
  subst hr
  obtain ⟨hS1, hfc, kC, hkC, hkind⟩ := hK.1 ci _ hc
  obtain ⟨cf, kf, fi, f, hi, hsl⟩ := hS1 j hj
  have hlay := hts _ (hin _ (u_in_lay hj))
  unfold u_lay at hlay
  rw [if_pos hfin] at hlay
  have hst := (u_facts hfc hkC (u_lays hts hin hj) hi).1
  have hcf : m.cls = cf := by
    obtain ⟨_, _, c', _, _, _, -, -, hf', -, -, -, hown2, -⟩ := Cond.laysFinal_spec hlay
    have e1 : c' = cf := by have := hi.symm.trans hf'; simp at this; exact this.1.symm
    rw [hdecl] at hown2
    rw [← e1]; exact Option.some.inj (F.2.2.2.1.symm.trans hown2)
  have h6 := u_fits hfc hkC hkind (Or.inr hlay) hi hde hn hfit
  refine W.putFinK F.1 F.2.1 F.2.2.2.1 (hts _ hlink) hi hst hcf hini (by rw [q2]; exact h6) q1 q3 (by rw [hsl]; exact k2_hasslot (q4 j hj)) rfl rfl hd fun H' e1 e2 e3 => ?_
  rw [hsl] at e1 ⊢
  exact kk F H' _ ls (hI.set (hI.1 a _ ha).2 ⟨_, hc, t_OB.to (V := updV (vp_V fs) j v) ⟨_, e1, q2, q3, t_set q4 hap hj v⟩ (fun i _ => vp_updV_set hlen v i)⟩ e2 e3) (hS.put e2 e3 (hI.1 a _ ha).2) hl
theorem k_iald {w : Wd} {a N j : Nat} {i : Int32} {g : Nat → Int32} (hd : decode cc pc = .ok (.iaload, 1)) (ha : w a = some (.inl (0, N, fun q => .int (g q)))) (hi : i = nI j) (hj : j < N) (hN : N < 2 ^ 31) (kk : K p l e s m args below meth c R own cc nL rt G A Q k n (Hd G A w) (pc + 1) lv (.int (g j) :: st)) : K p l e s m args below meth c R own cc nL rt G A Q k n (Hd G A w) pc lv (.int i :: .ref a :: st) := by
  intro F H locs ls hI hS hl
  subst hi
  have hcl := nI_clamp (n := j) (by omega)
  exact W.iald (v := .int (g j)) F.1 F.2.1 (hI.1 a _ ha).1 ((F.2.2.2.2.2.1.1.2 0 _ rfl).1 N _) (fun q => by cases q) (by rw [arrV_size]; exact nI_in hj hN) (by rw [hcl, arrV_read _ _ hj]) rfl rfl hd (kk F H locs ls hI hS hl)
theorem k_lald {w : Wd} {a N j : Nat} {i : Int32} {g : Nat → Int64} (hd : decode cc pc = .ok (.laload, 1)) (ha : w a = some (.inl (1, N, fun q => .long (g q)))) (hi : i = nI j) (hj : j < N) (hN : N < 2 ^ 31) (kk : K p l e s m args below meth c R own cc nL rt G A Q k n (Hd G A w) (pc + 1) lv (.long (g j) :: st)) : K p l e s m args below meth c R own cc nL rt G A Q k n (Hd G A w) pc lv (.int i :: .ref a :: st) := by
  intro F H locs ls hI hS hl
  subst hi
  have hcl := nI_clamp (n := j) (by omega)
  exact W.lald (v := .long (g j)) F.1 F.2.1 (hI.1 a _ ha).1 ((F.2.2.2.2.2.1.1.2 1 _ rfl).1 N _) (fun q => by cases q) (by rw [arrV_size]; exact nI_in hj hN) (by rw [hcl, arrV_read _ _ hj]) rfl rfl hd (kk F H locs ls hI hS hl)
theorem k_zald {w : Wd} {a N j : Nat} {i : Int32} {g : Nat → Int32} (hd : decode cc pc = .ok (.baload, 1)) (ha : w a = some (.inl (2, N, fun q => .int (g q)))) (hi : i = nI j) (hj : j < N) (hN : N < 2 ^ 31) (kk : K p l e s m args below meth c R own cc nL rt G A Q k n (Hd G A w) (pc + 1) lv (.int (g j) :: st)) : K p l e s m args below meth c R own cc nL rt G A Q k n (Hd G A w) pc lv (.int i :: .ref a :: st) := by
  intro F H locs ls hI hS hl
  subst hi
  have hcl := nI_clamp (n := j) (by omega)
  exact W.zald (v := .int (g j)) F.1 F.2.1 (hI.1 a _ ha).1 ((F.2.2.2.2.2.1.1.2 2 _ rfl).1 N _) (fun q => by cases q) (by rw [arrV_size]; exact nI_in hj hN) (by rw [hcl, arrV_read _ _ hj]) rfl rfl hd (kk F H locs ls hI hS hl)
theorem k_aald {w : Wd} {a N j t b : Nat} {C : String} {i : Int32} {g : Nat → Option Nat} (ht : (tysG G)[t]? = some (G.2 t, .object C)) (hd : decode cc pc = .ok (.aaload, 1)) (ha : w a = some (.inl (t, N, fun q => va_rf (g q)))) (hi : i = nI j) (hj : j < N) (hN : N < 2 ^ 31) (hv : g j = some b) (kk : K p l e s m args below meth c R own cc nL rt G A Q k n (Hd G A w) (pc + 1) lv (.ref b :: st)) : K p l e s m args below meth c R own cc nL rt G A Q k n (Hd G A w) pc lv (.int i :: .ref a :: st) := by
  intro F H locs ls hI hS hl
  subst hi
  have hcl := nI_clamp (n := j) (by omega)
  exact W.aald (v := .ref b) (ty := .object C) F.1 F.2.1 (hI.1 a _ ha).1 ((F.2.2.2.2.2.1.1.2 t _ ht).1 N _) rfl (fun q => by cases q) (by rw [arrV_size]; exact nI_in hj hN) (by rw [hcl, arrV_read _ _ hj]; show some (va_rf (g j)) = _; rw [hv]; rfl) rfl rfl hd (kk F H locs ls hI hS hl)
theorem k_aaldN {w : Wd} {a N j t : Nat} {C : String} {i : Int32} {g : Nat → Option Nat} (ht : (tysG G)[t]? = some (G.2 t, .object C)) (hd : decode cc pc = .ok (.aaload, 1)) (ha : w a = some (.inl (t, N, fun q => va_rf (g q)))) (hi : i = nI j) (hj : j < N) (hN : N < 2 ^ 31) (hv : g j = none) (kk : K p l e s m args below meth c R own cc nL rt G A Q k n (Hd G A w) (pc + 1) lv (.null :: st)) : K p l e s m args below meth c R own cc nL rt G A Q k n (Hd G A w) pc lv (.int i :: .ref a :: st) := by
  intro F H locs ls hI hS hl
  subst hi
  have hcl := nI_clamp (n := j) (by omega)
  exact W.aald (v := .null) (ty := .object C) F.1 F.2.1 (hI.1 a _ ha).1 ((F.2.2.2.2.2.1.1.2 t _ ht).1 N _) rfl (fun q => by cases q) (by rw [arrV_size]; exact nI_in hj hN) (by rw [hcl, arrV_read _ _ hj]; show some (va_rf (g j)) = _; rw [hv]; rfl) rfl rfl hd (kk F H locs ls hI hS hl)
theorem k_iast {w : Wd} {a N j : Nat} {i : Int32} {x : Int32} {g : Nat → Int32} (hd : decode cc pc = .ok (.iastore, 1)) (ha : w a = some (.inl (0, N, fun q => .int (g q)))) (hi : i = nI j) (hj : j < N) (hN : N < 2 ^ 31) (kk : K p l e s m args below meth c R own cc nL rt G A Q k n (Hd G A (us w a (.inl (0, N, fun q => .int (va_up g j x q))))) (pc + 1) lv st) : K p l e s m args below meth c R own cc nL rt G A Q k n (Hd G A w) pc lv (.int x :: .int i :: .ref a :: st) := by
  intro F H locs ls hI hS hl
  subst hi
  have hcl := nI_clamp (n := j) (by omega)
  refine W.iast F.1 F.2.1 (hI.1 a _ ha).1 ((F.2.2.2.2.2.1.1.2 0 _ rfl).1 N _) (fun q => by cases q) (by rw [arrV_size]; exact nI_in hj hN) rfl rfl hd fun H1 e1 z oq => ?_
  refine kk F H1 _ ls (hI.set (hI.1 a _ ha).2 ?_ z oq) (hS.put z oq (hI.1 a _ ha).2) hl
  show H1[a]? = some (arrV _ _ _)
  rw [e1, hcl, arrV_store]
  congr 2
  funext q
  by_cases hq : q = j
  · subst hq
    simp [updV, va_up]
  · simp [updV, va_up, hq]
theorem k_last {w : Wd} {a N j : Nat} {i : Int32} {x : Int64} {g : Nat → Int64} (hd : decode cc pc = .ok (.lastore, 1)) (ha : w a = some (.inl (1, N, fun q => .long (g q)))) (hi : i = nI j) (hj : j < N) (hN : N < 2 ^ 31) (kk : K p l e s m args below meth c R own cc nL rt G A Q k n (Hd G A (us w a (.inl (1, N, fun q => .long (va_up g j x q))))) (pc + 1) lv st) : K p l e s m args below meth c R own cc nL rt G A Q k n (Hd G A w) pc lv (.long x :: .int i :: .ref a :: st) := by
  intro F H locs ls hI hS hl
  subst hi
  have hcl := nI_clamp (n := j) (by omega)
  refine W.last F.1 F.2.1 (hI.1 a _ ha).1 ((F.2.2.2.2.2.1.1.2 1 _ rfl).1 N _) (fun q => by cases q) (by rw [arrV_size]; exact nI_in hj hN) rfl rfl hd fun H1 e1 z oq => ?_
  refine kk F H1 _ ls (hI.set (hI.1 a _ ha).2 ?_ z oq) (hS.put z oq (hI.1 a _ ha).2) hl
  show H1[a]? = some (arrV _ _ _)
  rw [e1, hcl, arrV_store]
  congr 2
  funext q
  by_cases hq : q = j
  · subst hq
    simp [updV, va_up]
  · simp [updV, va_up, hq]
theorem k_zast {w : Wd} {a N j : Nat} {i : Int32} {x : Int32} {g : Nat → Int32} (hd : decode cc pc = .ok (.bastore, 1)) (ha : w a = some (.inl (2, N, fun q => .int (g q)))) (hi : i = nI j) (hj : j < N) (hN : N < 2 ^ 31) (hx : narrow .boolean (.int x) = .int x) (kk : K p l e s m args below meth c R own cc nL rt G A Q k n (Hd G A (us w a (.inl (2, N, fun q => .int (va_up g j x q))))) (pc + 1) lv st) : K p l e s m args below meth c R own cc nL rt G A Q k n (Hd G A w) pc lv (.int x :: .int i :: .ref a :: st) := by
  intro F H locs ls hI hS hl
  subst hi
  have hcl := nI_clamp (n := j) (by omega)
  refine W.zast F.1 F.2.1 (hI.1 a _ ha).1 ((F.2.2.2.2.2.1.1.2 2 _ rfl).1 N _) (fun q => by cases q) (by rw [arrV_size]; exact nI_in hj hN) rfl rfl hd fun H1 e1 z oq => ?_
  refine kk F H1 _ ls (hI.set (hI.1 a _ ha).2 ?_ z oq) (hS.put z oq (hI.1 a _ ha).2) hl
  show H1[a]? = some (arrV _ _ _)
  rw [e1, hcl, arrV_store]
  congr 2
  funext q
  by_cases hq : q = j
  · subst hq
    simp [updV, va_up, hx]
  · simp [updV, va_up, hq]
theorem k_aast {w : Wd} {a N M j t v ci : Nat} {C : String} {T : u_T} {vs : List Value} {i : Int32} {g : Nat → Option Nat} (ht : (tysG G)[t]? = some (G.2 t, .object C)) (hc : classes[ci]? = some (C, T, M)) (hd : decode cc pc = .ok (.aastore, 1)) (ha : w a = some (.inl (t, N, fun q => va_rf (g q)))) (hv : w v = some (.inr (ci, vs))) (hi : i = nI j) (hj : j < N) (hN : N < 2 ^ 31) (kk : K p l e s m args below meth c R own cc nL rt G A Q k n (Hd G A (us w a (.inl (t, N, fun q => va_rf (va_up g j (some v) q))))) (pc + 1) lv st) : K p l e s m args below meth c R own cc nL rt G A Q k n (Hd G A w) pc lv (.ref v :: .int i :: .ref a :: st) := by
  intro F H locs ls hI hS hl
  subst hi
  have hcl := nI_clamp (n := j) (by omega)
  have hK := F.2.2.2.2.2.1.1
  obtain ⟨r', hr', cellV, g1, g2, g3, -⟩ := (hI.1 v _ hv).1
  have hcls := (hK.1 ci _ hc).2
  obtain ⟨kA, comp, k1, k2, k3, -⟩ := (hK.2 t _ ht).2
  have hcomp : comp = G.1.1 ci := Option.some.inj (k3.symm.trans hcls.1)
  subst hcomp
  obtain ⟨kC, hkC, -⟩ := hcls.2
  refine W.aast F.1 F.2.1 (hI.1 a _ ha).1 (fun q h => by cases h) (fun h => by cases h) k1 k2 rfl hkC ⟨nI_pos (by omega), by rw [arrV_size, hcl]; exact hj⟩ g1 (fun q h => by rw [g3] at h; cases h) (by rw [g2]; exact hkC) (by rw [g2]; exact va_assign hcls) rfl rfl hd fun H1 e1 z oq => ?_
  refine kk F H1 _ ls (hI.set (hI.1 a _ ha).2 ?_ z oq) (hS.put z oq (hI.1 a _ ha).2) hl
  show H1[a]? = some (arrV _ _ _)
  rw [e1, hcl, arrV_store]
  congr 2
  funext q
  by_cases hq : q = j
  · subst hq
    simp [updV, va_up, va_rf]
  · simp [updV, va_up, hq]
theorem k_aastN {w : Wd} {a N j t : Nat} {C : String} {i : Int32} {g : Nat → Option Nat} (ht : (tysG G)[t]? = some (G.2 t, .object C)) (hd : decode cc pc = .ok (.aastore, 1)) (ha : w a = some (.inl (t, N, fun q => va_rf (g q)))) (hi : i = nI j) (hj : j < N) (hN : N < 2 ^ 31) (kk : K p l e s m args below meth c R own cc nL rt G A Q k n (Hd G A (us w a (.inl (t, N, fun q => va_rf (va_up g j none q))))) (pc + 1) lv st) : K p l e s m args below meth c R own cc nL rt G A Q k n (Hd G A w) pc lv (.null :: .int i :: .ref a :: st) := by
  intro F H locs ls hI hS hl
  subst hi
  have hcl := nI_clamp (n := j) (by omega)
  refine va_WaastN (C := C) F.1 F.2.1 (hI.1 a _ ha).1 ((F.2.2.2.2.2.1.1.2 t _ ht).1 N _) (fun h => by cases h) (by rw [arrV_size]; exact nI_in hj hN) rfl rfl hd fun H1 e1 z oq => ?_
  refine kk F H1 _ ls (hI.set (hI.1 a _ ha).2 ?_ z oq) (hS.put z oq (hI.1 a _ ha).2) hl
  show H1[a]? = some (arrV _ _ _)
  rw [e1, hcl, arrV_store]
  congr 2
  funext q
  by_cases hq : q = j
  · subst hq
    simp [updV, va_up, va_rf]
  · simp [updV, va_up, hq]
theorem k_alen {w : Wd} {a N t : Nat} {f : Nat → Value} {ty : FieldType} (ht : (tysG G)[t]? = some (G.2 t, ty)) (hd : decode cc pc = .ok (.arraylength, 1)) (ha : w a = some (.inl (t, N, f))) (kk : K p l e s m args below meth c R own cc nL rt G A Q k n (Hd G A w) (pc + 1) lv (.int (nI N) :: st)) : K p l e s m args below meth c R own cc nL rt G A Q k n (Hd G A w) pc lv (.ref a :: st) := fun F H locs ls hI hS hl => W.alen (n := nI N) F.1 F.2.1 (hI.1 a _ ha).1 ((F.2.2.2.2.2.1.1.2 t _ ht).1 N _) (by rw [arrV_size]; rfl) rfl rfl hd (kk F H locs ls hI hS hl)
theorem Hd.fresh {w : Wd} {H : Heap} (h : Hd G A w H) : w H.size = none := by
  cases hw : w H.size with
  | none => rfl
  | some x => exact absurd (ce_lt (h.1 _ _ hw).1) (Nat.lt_irrefl _)
theorem k_new {w : Wd} {ci index N : Nat} {C : String} {T : u_T} {fs : List Value} (ty0 : Nat → FieldType) (hc : classes[ci]? = some (C, T, N)) (hin : ∀ w ∈ u_ws C T N, w ∈ GW) (hty : ∀ k, k < N → parseFieldDescriptor (T k).2.2.1 = some (ty0 k)) (hcl : Cond.classLink own index C ∈ GW) (hinst : Cond.instantiable C N ∈ GW) (hini : Cond.initialized C ∈ GW) (hfs : ∀ j, j < N → defaultValue (ty0 j) = vp_V fs j) (hcells : k + 1 ≤ R.cells) (hslots : n + N ≤ R.slots) (hd : decode cc pc = .ok (.new index, 3)) (kk : ∀ q, w q = none → K p l e s m args below meth c R own cc nL rt G A Q (k + 1) (n + N) (Hd G A (us w q (.inr (ci, fs)))) (pc + 3) lv (.ref q :: st)) : K p l e s m args below meth c R own cc nL rt G A Q k n (Hd G A w) pc lv st := by
  intro F H locs ls hI hS hl
  have hts := F.2.2.2.2.1
  have hKn := F.2.2.2.2.2.1.1.1 ci _ hc
  refine W.newcK F.1 F.2.1 F.2.2.2.1 (hts _ hcl) (hts _ hinst) (hts _ hini) rfl hd hcells hslots hKn.2.1 rfl fun H1 kC hkC e1 z1 o1 => ?_
  refine kk H.size hI.fresh F H1 locs ls (hI.push ⟨_, hc, (u_born ty0 hts hin hKn hkC e1 hty).to hfs⟩ z1 o1) ⟨Nat.le_trans hS.1 (by omega), fun x h1 h2 => (o1 x (Nat.lt_of_lt_of_le h1 hS.1)).trans (hS.2.1 x h1 h2), hS.2.2⟩ hl
theorem k_newa {w : Wd} {atype : ArrayType} {ty : FieldType} {t N : Nat} {i : Int32} (hat : newarray.typeOf atype = ty) (harr : Cond.arrayClass (newarray.typeOf atype) ∈ GW) (ht : (tysG G)[t]? = some (G.2 t, ty)) (hra : ∀ U cA, va_RA U cA ty → U.vm.findClass ("[" ++ ty.toString) = some cA) (hi : i = nI N) (hN : N * componentBytes ty ≤ 536870912) (hN2 : N < 2 ^ 31) (hcells : k + 1 ≤ R.cells) (hslots : n + N ≤ R.slots) (hd : decode cc pc = .ok (.newarray atype, 2)) (kk : ∀ q, w q = none → K p l e s m args below meth c R own cc nL rt G A Q (k + 1) (n + N) (Hd G A (us w q (.inl (t, N, fun _ => defaultValue ty)))) (pc + 2) lv (.ref q :: st)) : K p l e s m args below meth c R own cc nL rt G A Q k n (Hd G A w) pc lv (.int i :: st) := by
  intro F H locs ls hI hS hl
  subst hat
  subst hi
  refine va_newaK F.1 F.2.1 (F.2.2.2.2.1 _ harr) rfl hd rfl (nI_pos hN2) (nI_clamp hN2) hN hcells hslots rfl fun H1 cA e1 z1 o1 hAr hNm => ?_
  have hcA : cA = G.2 t := Option.some.inj (hNm.symm.trans (hra s (G.2 t) (F.2.2.2.2.2.1.1.2 t _ ht).2))
  subst hcA
  exact kk H.size hI.fresh F H1 locs ls (hI.push e1 z1 o1) ⟨Nat.le_trans hS.1 (by omega), fun x h1 h2 => (o1 x (Nat.lt_of_lt_of_le h1 hS.1)).trans (hS.2.1 x h1 h2), hS.2.2⟩ hl
theorem k_anew {w : Wd} {index t N : Nat} {C : String} {i : Int32} (hcl : Cond.classLink own index C ∈ GW) (hao : ∀ U, KK G U → va_AO C U) (ht : (tysG G)[t]? = some (G.2 t, .object C)) (hi : i = nI N) (hN : N * 4 ≤ 536870912) (hN2 : N < 2 ^ 31) (hcells : k + 1 ≤ R.cells) (hslots : n + N ≤ R.slots) (hd : decode cc pc = .ok (.anewarray index, 3)) (kk : ∀ q, w q = none → K p l e s m args below meth c R own cc nL rt G A Q (k + 1) (n + N) (Hd G A (us w q (.inl (t, N, fun _ => .null)))) (pc + 3) lv (.ref q :: st)) : K p l e s m args below meth c R own cc nL rt G A Q k n (Hd G A w) pc lv (.int i :: st) := by
  intro F H locs ls hI hS hl
  subst hi
  have hcl2 := nI_clamp (n := N) hN2
  refine W.anew F.1 F.2.1 F.2.2.2.1 (F.2.2.2.2.1 _ hcl) (va_AO.use (hao s F.2.2.2.2.2.1)) rfl hd rfl (nI_pos hN2) (by rw [hcl2]; exact hN) hcells (by rw [hcl2]; exact hslots) fun cA kA comp f1 f2 f3 f4 => ?_
  obtain ⟨kA', comp', g1, g2, g3, g4⟩ := (F.2.2.2.2.2.1.1.2 t _ ht).2
  have hcA : cA = G.2 t := Option.some.inj (f1.symm.trans g4)
  subst hcA
  rw [hcl2]
  generalize hH1 : H.push ({ cls := G.2 t, slots := Array.replicate N .null, vm := .none } : Cell) = H1
  have z1 : H1.size = H.size + 1 := by rw [← hH1, Array.size_push]
  have e1 : H1[H.size]? = some (arrV (G.2 t) N (fun _ => .null)) := by rw [← hH1, Array.getElem?_push_size, ← arrV_new]
  have o1 : ∀ q : Nat, q < H.size → H1[q]? = H[q]? := fun q hq => by rw [← hH1, Array.getElem?_push, if_neg (Nat.ne_of_lt hq)]
  exact kk H.size hI.fresh F H1 locs ls (hI.push e1 z1 o1) ⟨Nat.le_trans hS.1 (by omega), fun x h1 h2 => (o1 x (Nat.lt_of_lt_of_le h1 hS.1)).trans (hS.2.1 x h1 h2), hS.2.2⟩ hl
end KROWS
