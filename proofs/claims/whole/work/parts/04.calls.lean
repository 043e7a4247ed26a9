/-! contracts: the arguments vs, the heap as I says: the method returns v, the heap as J says, nothing outside A changed -/
def rmm (d mc ms : Nat) : Room := { frames := d, cells := mc, slots := ms, locals := 40 * d }
def Qd (v : Option Value) (J : Heap → Prop) (A : Nat → Prop) : Array Value → State → Outcome → State → Prop := fun _ st oc t => (oc = .returned v ∧ J t.heap) ∧ va_F A st t
def Ct (d mc ms : Nat) (y : MethodName) (cc : ByteArray) (nL : Nat) (rt : Option FieldType) (G : Gd) (A : Nat → Prop) (vs : List Value) (I : Heap → Prop) (v : Option Value) (J : Heap → Prop) : Prop :=
  ∀ l : Launch, Met l y (Cond.code y cc nL rt :: GW) (rmm d mc ms) (va_Pc vs (fun U => I U.heap ∧ KK G U)) (Qd v J A) mc ms A
def lp0 : List Value → List (Option Value)
  | [] => []
  | .long x :: vs => some (.long x) :: none :: lp0 vs
  | .double x :: vs => some (.double x) :: none :: lp0 vs
  | v :: vs => some v :: lp0 vs
theorem lp0_mem : ∀ (vs : List Value) (b i : Nat) (v : Value), (lp0 vs)[i]? = some (some v) → (b + i, v) ∈ lv_args b vs := by
  intro vs
  induction vs with
  | nil => intro b i v h; simp [lp0] at h
  | cons u vs ih =>
    intro b i v h
    have two : ∀ {z : Value}, z.category = 2 → (some z :: none :: lp0 vs)[i]? = some (some v) → (b + i, v) ∈ lv_args b (z :: vs) := by
      intro z hz h
      match i, h with
      | 0, h => cases h; exact List.mem_cons_self
      | 1, h => simp at h
      | i + 2, h =>
        have h2 := ih (b + 2) i v (by simpa using h)
        have e : b + 2 + i = b + (i + 2) := by omega
        rw [e] at h2
        show _ ∈ _ :: lv_args (if z.category = 2 then b + 2 else b + 1) vs
        rw [if_pos hz]
        exact List.mem_cons_of_mem _ h2
    have one : ∀ {z : Value}, z.category = 1 → (some z :: lp0 vs)[i]? = some (some v) → (b + i, v) ∈ lv_args b (z :: vs) := by
      intro z hz h
      match i, h with
      | 0, h => cases h; exact List.mem_cons_self
      | i + 1, h =>
        have h2 := ih (b + 1) i v (by simpa using h)
        have e : b + 1 + i = b + (i + 1) := by omega
        rw [e] at h2
        show _ ∈ _ :: lv_args (if z.category = 2 then b + 2 else b + 1) vs
        rw [if_neg (by rw [hz]; decide)]
        exact List.mem_cons_of_mem _ h2
    cases u with
    | long x => exact two rfl h
    | double x => exact two rfl h
    | _ => exact one rfl h
theorem lp_entry (vs : List Value) {n : Nat} (q : Nat) (h : (lg_sl vs).length ≤ n) : lp_has ((lg_sl vs ++ List.replicate (n - (lg_sl vs).length) Slot.unset).toArray) n (lp0 vs ++ List.replicate q none) := by
  have h0 := lv_entry vs h
  refine ⟨h0.1, h0.2.1, fun i v hv => ?_⟩
  by_cases hi : i < (lp0 vs).length
  · rw [List.getElem?_append_left hi] at hv
    have h1 := lp0_mem vs 0 i v hv
    rw [Nat.zero_add] at h1
    exact h0.2.2 _ h1
  · rw [List.getElem?_append_right (by omega)] at hv
    rw [List.getElem?_replicate] at hv
    split at hv <;> cases hv
theorem Ct.of {d mc ms : Nat} {y : MethodName} {cc : ByteArray} {nL : Nat} {rt : Option FieldType} {G : Gd} {A : Nat → Prop} {vs : List Value} {I : Heap → Prop} {v : Option Value} {J : Heap → Prop} (q : Nat) {lv : List (Option Value)} (hlv : lp0 vs ++ List.replicate q none = lv) (hpl : plainName y.cls = true) (hlen : (lg_sl vs).length ≤ nL)
    (body : ∀ (p : Program) (l : Launch) (e : Env) (s : State) (m : MethodId) (below : List Frame) (meth : Method) (c : Code), (y.name = "<init>" → meth.name = "<init>") → K p l e s m vs.toArray below meth c (rmm d mc ms) y.cls cc nL rt G A (MQ below (Qd v J A) vs.toArray s mc ms A) 0 0 I 0 lv []) : Ct d mc ms y cc nL rt G A vs I v J := by
  intro l
  refine Met.ofW (cc := cc) (maxL := nL) (ret := rt) hpl rfl ?_
  intro p e s m args below meth c s₁ B hml hv
  obtain ⟨rfl, hI, hK⟩ := hv
  have hts := atoms_spec (ws := Cond.code y cc nL rt :: GW) B.pre
  rw [lg_entry_eq]
  subst hlv
  exact body p l e s m below meth c (fun h => by rw [← h]; exact (name_of_methodNamed B.named B.method).1) ⟨B.exec, B.bytes, hml, findClass_of_methodNamed B.named, fun w hw => hts w (List.mem_cons_of_mem _ hw), hK, B.returns, B.notSynchronized⟩ s.heap [] _ hI va_S.rf (lp_entry vs q hlen)
section KRET
variable {p : Program} {l : Launch} {e : Env} {s : State} {m : MethodId} {args : Array Value} {below : List Frame} {meth : Method} {c : Code} {R : Room} {own : String} {cc : ByteArray} {nL : Nat} {rt : Option FieldType} {G : Gd} {A : Nat → Prop} {Q : State → Prop} {k n mc ms : Nat} {I J : Heap → Prop} {pc : Nat} {lv : List (Option Value)} {st : List Value}
theorem k_iret {x r : Int32} (hd : decode cc pc = .ok (.ireturn, 1)) (hx : x = r) (hJ : ∀ H, I H → J H) (hk : k ≤ mc) (hn : n ≤ ms) : K p l e s m args below meth c R own cc nL (some .int) G A (MQ below (Qd (some (.int r)) J A) args s mc ms A) k n I pc lv [.int x] := by
  intro F H locs ls hI hS hl
  subst hx
  refine W.widen hk hn ?_
  exact W.iret F.1 F.2.1 F.2.2.2.2.2.2.1 (fun t ht hW => ⟨⟨rfl, by rw [ht]; exact hJ H hI⟩, hS.F ht⟩) hS.2.2 hd F.2.2.2.2.2.2.2
theorem k_lret {x r : Int64} (hd : decode cc pc = .ok (.lreturn, 1)) (hx : x = r) (hJ : ∀ H, I H → J H) (hk : k ≤ mc) (hn : n ≤ ms) : K p l e s m args below meth c R own cc nL (some .long) G A (MQ below (Qd (some (.long r)) J A) args s mc ms A) k n I pc lv [.long x] := by
  intro F H locs ls hI hS hl
  subst hx
  refine W.widen hk hn ?_
  exact W.lret F.1 F.2.1 F.2.2.2.2.2.2.1 (fun t ht hW => ⟨⟨rfl, by rw [ht]; exact hJ H hI⟩, hS.F ht⟩) hS.2.2 hd F.2.2.2.2.2.2.2
theorem k_zret {x r : Int32} (hd : decode cc pc = .ok (.ireturn, 1)) (hx : x = r) (hz : narrow .boolean (.int r) = .int r) (hJ : ∀ H, I H → J H) (hk : k ≤ mc) (hn : n ≤ ms) : K p l e s m args below meth c R own cc nL (some .boolean) G A (MQ below (Qd (some (.int r)) J A) args s mc ms A) k n I pc lv [.int x] := by
  intro F H locs ls hI hS hl
  subst hx
  refine W.widen hk hn ?_
  exact W.zret F.1 F.2.1 F.2.2.2.2.2.2.1 hz (fun t ht hW => ⟨⟨rfl, by rw [ht]; exact hJ H hI⟩, hS.F ht⟩) hS.2.2 hd F.2.2.2.2.2.2.2
theorem k_vret (hd : decode cc pc = .ok (.return_, 1)) (hJ : ∀ H, I H → J H) (hk : k ≤ mc) (hn : n ≤ ms) : K p l e s m args below meth c R own cc nL none G A (MQ below (Qd none J A) args s mc ms A) k n I pc lv [] := by
  intro F H locs ls hI hS hl
  refine W.widen hk hn ?_
  exact W.vret F.1 F.2.1 F.2.2.2.2.2.2.1 (fun t ht hW => ⟨⟨rfl, by rw [ht]; exact hJ H hI⟩, hS.F ht⟩) hS.2.2 hd F.2.2.2.2.2.2.2
theorem k_aret {C : String} {x : Value} {r : Option Nat} (hd : decode cc pc = .ok (.areturn, 1)) (hx : x = va_rf r) (hJ : ∀ H, I H → J H) (hk : k ≤ mc) (hn : n ≤ ms) : K p l e s m args below meth c R own cc nL (some (.object C)) G A (MQ below (Qd (some (va_rf r)) J A) args s mc ms A) k n I pc lv [x] := by
  intro F H locs ls hI hS hl
  subst hx
  refine W.widen hk hn ?_
  exact W.aret F.1 F.2.1 F.2.2.2.2.2.2.1 (Or.inl ⟨_, rfl⟩) (va_rf_or r) (fun t ht hW => ⟨⟨rfl, by rw [ht]; exact hJ H hI⟩, hS.F ht⟩) hS.2.2 hd F.2.2.2.2.2.2.2
end KRET
/-! call sites: what the tables say of them -/
def SiteV (own C : String) (index : Nat) (y : MethodName) (bytes : ByteArray) (maxL : Nat) (ret : Option FieldType) (ar : Nat) : Prop := Cond.methodLink own index y ∈ GW ∧ Cond.instanceMethod y ∈ GW ∧ Cond.selects C y y ∈ GW ∧ Cond.initialized C ∈ GW ∧ Cond.code y bytes maxL ret ∈ GW ∧ (y.cls = C ∧ y.cls ≠ "java/lang/invoke/MethodHandle" ∧ y.cls ≠ "java/lang/invoke/VarHandle" ∧ (parseMethodDescriptor y.desc).map (fun d => d.parameters.length) = some ar)
def SiteI (own : String) (index : Nat) (y : MethodName) (bytes : ByteArray) (maxL ar : Nat) : Prop := Cond.methodLink own index y ∈ GW ∧ Cond.instanceMethod y ∈ GW ∧ Cond.initialized y.cls ∈ GW ∧ Cond.code y bytes maxL none ∈ GW ∧ y.name = "<init>" ∧ (y.cls ≠ "java/lang/invoke/MethodHandle" ∧ y.cls ≠ "java/lang/invoke/VarHandle" ∧ (parseMethodDescriptor y.desc).map (fun d => d.parameters.length) = some ar)
def SiteS (own : String) (index : Nat) (y : MethodName) (bytes : ByteArray) (maxL : Nat) (ret : Option FieldType) (ar : Nat) : Prop := Cond.methodLink own index y ∈ GW ∧ Cond.static y ∈ GW ∧ Cond.initialized own ∈ GW ∧ Cond.code y bytes maxL ret ∈ GW ∧ (y.cls = own ∧ y.cls ≠ "java/lang/invoke/MethodHandle" ∧ y.cls ≠ "java/lang/invoke/VarHandle" ∧ (parseMethodDescriptor y.desc).map (fun d => d.parameters.length) = some ar)
def SiteSN (own host : String) (index : Nat) (y : MethodName) (bytes : ByteArray) (maxL : Nat) (ret : Option FieldType) (ar : Nat) : Prop := Cond.methodLinkNest own index y host ∈ NW ∧ Cond.static y ∈ GW ∧ Cond.initialized y.cls ∈ GW ∧ Cond.code y bytes maxL ret ∈ GW ∧ (y.cls ≠ "java/lang/invoke/MethodHandle" ∧ y.cls ≠ "java/lang/invoke/VarHandle" ∧ (parseMethodDescriptor y.desc).map (fun d => d.parameters.length) = some ar)
theorem gw_self {c : Cond} (hc : c ∈ GW) : GoodIn GW (c :: GW) := gw_in (fun _ h => h) hc
section KCALL
variable {p : Program} {l : Launch} {e : Env} {s : State} {m : MethodId} {args : Array Value} {below : List Frame} {meth : Method} {c : Code} {R : Room} {own : String} {cc : ByteArray} {nL : Nat} {rt : Option FieldType} {G : Gd} {A A1 : Nat → Prop} {Q : State → Prop} {k n d mc ms : Nat} {I I1 I2 J : Heap → Prop} {pc : Nat} {lv : List (Option Value)} {rest : List Value}
variable {y : MethodName} {bytes : ByteArray} {maxL ar index : Nat} {ret : Option FieldType} {C host : String} {b : Nat} {As : List Value} {v : Option Value} {H : Heap} {locs : List Loc} {ls : Array Slot} {st0 : List Value} {a : Array Value}
theorem run_go (hr : va_Run p l e R s m args below meth c H locs k n mc ms (F0 m pc ls st0) rest (Qd v J A1 a) A1) (hS : va_S A s.heap H locs) (hA : ∀ q, A1 q → A q)
    (kk : ∀ (H1 : Heap) (locs1 : List Loc), J H1 → H.size ≤ H1.size → (∀ q : Nat, q < H.size → ¬ A1 q → H1[q]? = H[q]?) → va_S A s.heap H1 locs1 → W p l e R s m args below meth c H1 locs1 (k + mc) (n + ms) Q (F0 m (pc + 3) ls (v.toList ++ rest))) : W p l e R s m args below meth c H locs k n Q (F0 m pc ls st0) := by
  intro T hT X
  obtain ⟨v', st₀, t, T', L, h0, X', hL, e1, e2, ⟨⟨hv, hj⟩, hz, hk⟩, st⟩ := hr T hT X
  cases hv
  rw [h0] at hz hk
  obtain ⟨t2, a1, b1⟩ := kk T'.heap (locs ++ L) (by rw [e1]; exact hj) (by rw [e1]; exact hz) (fun q h1 h2 => by rw [e1]; exact hk q h1 h2)
    ⟨Nat.le_trans hS.1 (by rw [e1]; exact hz), fun q h1 h2 => by rw [e1, hk q (Nat.lt_of_lt_of_le h1 hS.1) (fun z => h2 (hA q z))]; exact hS.2.1 q h1 h2, fun q hq => by
      rcases List.mem_append.mp hq with h | h
      · exact hS.2.2 q h
      · exact hA _ (hL q h)⟩ T' rfl X'
  exact ⟨t2, st t2 a1, b1⟩
/-- a call of an instance method, with the frame: what the callee doesn't own is as it was -/
theorem k_callV' (S : SiteV own C index y bytes maxL ret ar) (hC : Ct d mc ms y bytes maxL ret G A1 (.ref b :: As) I1 v J) (hd : decode cc pc = .ok (.invokevirtual index, 3)) (hn : As.length = ar) (hst : st0 = As.reverse ++ .ref b :: rest) (hrest : (rest.map fun v => v.category).sum ≤ 8) (hfr : d + 1 ≤ R.frames) (hlo : 8 + (maxL + 11) + 40 * d ≤ R.locals) (hce : k + mc ≤ R.cells) (hsl : n + ms ≤ R.slots)
    (hrecv : ∀ H, I H → KK G s → ∃ cell : Cell, H[b]? = some cell ∧ cell.vm.isStatics = false ∧ s.vm.findClass C = some cell.cls) (hpre : ∀ H, I H → I1 H) (hA : ∀ q, A1 q → A q)
    (hpost : ∀ H H1, I H → J H1 → H.size ≤ H1.size → (∀ q : Nat, q < H.size → ¬ A1 q → H1[q]? = H[q]?) → I2 H1)
    (kk : K p l e s m args below meth c R own cc nL rt G A Q (k + mc) (n + ms) I2 (pc + 3) lv (v.toList ++ rest)) : K p l e s m args below meth c R own cc nL rt G A Q k n I pc lv st0 := by
  intro F H locs ls hI hS hl
  have hts := F.2.2.2.2.1
  obtain ⟨s1, s2, s3, s4, s5, s6⟩ := S
  have hT : GoodIn GW (wsV own index C y (Cond.code y bytes maxL ret :: GW)) := by
    intro w hw
    have : w ∈ GW := by
      rcases List.mem_append.mp hw with h | h
      · simp only [List.mem_cons, List.not_mem_nil, or_false] at h
        rcases h with rfl | rfl | rfl | rfl
        · exact s1
        · exact s2
        · exact s3
        · exact s4
      · rcases List.mem_cons.mp h with h | h
        · rw [h]; exact s5
        · exact h
    exact ⟨this, good_of_word (gw_good this)⟩
  refine run_go (va_runV (As := As) (rest := rest) (b := b) ⟨F.1, F.2.1, F.2.2.1, F.2.2.2.1, hts⟩ (hC l) (cwV ar hts hT rfl rfl rfl s6 ⟨hfr, hlo⟩) ⟨fun a U g mk q => ⟨q.1, q.2.1, q.2.2.call⟩, hrecv H hI F.2.2.2.2.2.1, fun U hU hW => ⟨rfl, by rw [hU]; exact hpre H hI, F.2.2.2.2.2.1.warm hW⟩⟩ rfl hn hl.1 hst (lv_room hrest) hd ⟨hce, hsl⟩) hS hA (fun H1 locs1 hJ hz hk hS1 => kk F H1 locs1 ls (hpost H H1 hI hJ hz hk) hS1 hl)
theorem k_callI' (S : SiteI own index y bytes maxL ar) (hC : Ct d mc ms y bytes maxL none G A1 (.ref b :: As) I1 v J) (hd : decode cc pc = .ok (.invokespecial index, 3)) (hn : As.length = ar) (hst : st0 = As.reverse ++ .ref b :: rest) (hrest : (rest.map fun v => v.category).sum ≤ 8) (hfr : d + 1 ≤ R.frames) (hlo : 8 + (maxL + 11) + 40 * d ≤ R.locals) (hce : k + mc ≤ R.cells) (hsl : n + ms ≤ R.slots)
    (hpre : ∀ H, I H → I1 H) (hA : ∀ q, A1 q → A q) (hpost : ∀ H H1, I H → J H1 → H.size ≤ H1.size → (∀ q : Nat, q < H.size → ¬ A1 q → H1[q]? = H[q]?) → I2 H1)
    (kk : K p l e s m args below meth c R own cc nL rt G A Q (k + mc) (n + ms) I2 (pc + 3) lv (v.toList ++ rest)) : K p l e s m args below meth c R own cc nL rt G A Q k n I pc lv st0 := by
  intro F H locs ls hI hS hl
  have hts := F.2.2.2.2.1
  obtain ⟨s1, s2, s3, s4, s5, s6⟩ := S
  refine run_go (va_runI (As := As) (rest := rest) (b := b) ⟨F.1, F.2.1, F.2.2.1, F.2.2.2.1, hts⟩ (hC l) (cwI ar hts (gw_self s4) rfl rfl rfl (hts _ s3) (hts _ s1) (hts _ s2) s5 s6 ⟨hfr, hlo⟩) ⟨fun a U g mk q => ⟨q.1, q.2.1, q.2.2.call⟩, fun U hU hW => ⟨rfl, by rw [hU]; exact hpre H hI, F.2.2.2.2.2.1.warm hW⟩⟩ rfl hn hl.1 hst (lv_room hrest) hd ⟨hce, hsl⟩) hS hA (fun H1 locs1 hJ hz hk hS1 => kk F H1 locs1 ls (hpost H H1 hI hJ hz hk) hS1 hl)
theorem k_callS (S : SiteS own index y bytes maxL ret ar) (hC : Ct d mc ms y bytes maxL ret G A As I v J) (hd : decode cc pc = .ok (.invokestatic index, 3)) (hn : As.length = ar) (hst : st0 = As.reverse ++ rest) (hrest : (rest.map fun v => v.category).sum ≤ 8) (hfr : d + 1 ≤ R.frames) (hlo : 8 + (maxL + 11) + 40 * d ≤ R.locals) (hce : k + mc ≤ R.cells) (hsl : n + ms ≤ R.slots)
    (kk : K p l e s m args below meth c R own cc nL rt G A Q (k + mc) (n + ms) J (pc + 3) lv (v.toList ++ rest)) : K p l e s m args below meth c R own cc nL rt G A Q k n I pc lv st0 := by
  intro F H locs ls hI hS hl
  have hts := F.2.2.2.2.1
  obtain ⟨s1, s2, s3, s4, s5⟩ := S
  have hT : GoodIn GW (wsS own index y (Cond.code y bytes maxL ret :: GW)) := by
    intro w hw
    have : w ∈ GW := by
      rcases List.mem_append.mp hw with h | h
      · simp only [List.mem_cons, List.not_mem_nil, or_false] at h
        rcases h with rfl | rfl | rfl
        · exact s1
        · exact s2
        · exact s3
      · rcases List.mem_cons.mp h with h | h
        · rw [h]; exact s4
        · exact h
    exact ⟨this, good_of_word (gw_good this)⟩
  refine run_go (va_runS (As := As) (rest := rest) ⟨F.1, F.2.1, F.2.2.1, F.2.2.2.1, hts⟩ (hC l) (cwS ar hts hT rfl rfl rfl s5 ⟨hfr, hlo⟩) ⟨fun a U g mk q => ⟨q.1, q.2.1, q.2.2.call⟩, fun U hU hW => ⟨rfl, by rw [hU]; exact hI, F.2.2.2.2.2.1.warm hW⟩⟩ rfl hn hl.1 hst (lv_room hrest) hd ⟨hce, hsl⟩) hS (fun _ h => h) (fun H1 locs1 hJ hz hk hS1 => kk F H1 locs1 ls hJ hS1 hl)
theorem k_callSN (S : SiteSN own host index y bytes maxL ret ar) (hC : Ct d mc ms y bytes maxL ret G A As I v J) (hd : decode cc pc = .ok (.invokestatic index, 3)) (hn : As.length = ar) (hst : st0 = As.reverse ++ rest) (hrest : (rest.map fun v => v.category).sum ≤ 8) (hfr : d + 1 ≤ R.frames) (hlo : 8 + (maxL + 11) + 40 * d ≤ R.locals) (hce : k + mc ≤ R.cells) (hsl : n + ms ≤ R.slots)
    (kk : K p l e s m args below meth c R own cc nL rt G A Q (k + mc) (n + ms) J (pc + 3) lv (v.toList ++ rest)) : K p l e s m args below meth c R own cc nL rt G A Q k n I pc lv st0 := by
  intro F H locs ls hI hS hl
  have hts := F.2.2.2.2.1
  obtain ⟨s1, s2, s3, s4, s5⟩ := S
  refine run_go (va_runSN (As := As) (rest := rest) ⟨F.1, F.2.1, F.2.2.1, F.2.2.2.1, hts⟩ (hC l) ⟨va_cnB ar hts (gw_self s4) rfl rfl rfl (F.2.2.2.2.2.1.2.1 _ s1) (hts _ s3) s5 ⟨hfr, hlo⟩, hts _ s2, trivial⟩ ⟨fun a U g mk q => ⟨q.1, q.2.1, q.2.2.call⟩, fun U hU hW => ⟨rfl, by rw [hU]; exact hI, F.2.2.2.2.2.1.warm hW⟩⟩ rfl hn hl.1 hst (lv_room hrest) hd ⟨hce, hsl⟩) hS (fun _ h => h) (fun H1 locs1 hJ hz hk hS1 => kk F H1 locs1 ls hJ hS1 hl)
theorem Hd.recv {w : Wd} {ci : Nat} {fs : List Value} {r : vw_C} (hc : classes[ci]? = some r) (hw : w b = some (.inr (ci, fs))) (h : Hd G A w H) (hK : KK G s) : ∃ cell : Cell, H[b]? = some cell ∧ cell.vm.isStatics = false ∧ s.vm.findClass r.1 = some cell.cls := va_recv hK.1 (h.one hw) hc (q0 := 0) rfl
/-- the same, all in one world -/
theorem k_callV {w : Wd} {ci N : Nat} {T : u_T} {fs : List Value} (S : SiteV own C index y bytes maxL ret ar) (hC : Ct d mc ms y bytes maxL ret G A (.ref b :: As) (Hd G A w) v J) (hd : decode cc pc = .ok (.invokevirtual index, 3)) (hc : classes[ci]? = some (C, T, N)) (hw : w b = some (.inr (ci, fs))) (hn : As.length = ar) (hst : st0 = As.reverse ++ .ref b :: rest) (hrest : (rest.map fun v => v.category).sum ≤ 8) (hfr : d + 1 ≤ R.frames) (hlo : 8 + (maxL + 11) + 40 * d ≤ R.locals) (hce : k + mc ≤ R.cells) (hsl : n + ms ≤ R.slots)
    (kk : K p l e s m args below meth c R own cc nL rt G A Q (k + mc) (n + ms) J (pc + 3) lv (v.toList ++ rest)) : K p l e s m args below meth c R own cc nL rt G A Q k n (Hd G A w) pc lv st0 := k_callV' S hC hd hn hst hrest hfr hlo hce hsl (fun H h hK => Hd.recv hc hw h hK) (fun _ h => h) (fun _ h => h) (fun _ _ _ h _ _ => h) kk
theorem k_callI {w : Wd} (S : SiteI own index y bytes maxL ar) (hC : Ct d mc ms y bytes maxL none G A (.ref b :: As) (Hd G A w) v J) (hd : decode cc pc = .ok (.invokespecial index, 3)) (hn : As.length = ar) (hst : st0 = As.reverse ++ .ref b :: rest) (hrest : (rest.map fun v => v.category).sum ≤ 8) (hfr : d + 1 ≤ R.frames) (hlo : 8 + (maxL + 11) + 40 * d ≤ R.locals) (hce : k + mc ≤ R.cells) (hsl : n + ms ≤ R.slots)
    (kk : K p l e s m args below meth c R own cc nL rt G A Q (k + mc) (n + ms) J (pc + 3) lv (v.toList ++ rest)) : K p l e s m args below meth c R own cc nL rt G A Q k n (Hd G A w) pc lv st0 := k_callI' S hC hd hn hst hrest hfr hlo hce hsl (fun _ h => h) (fun _ h => h) (fun _ _ _ h _ _ => h) kk
theorem k_objInit {index : Nat} {a : Nat} (hlink : Cond.methodLink own index objectInit ∈ GW) (hinst : Cond.instanceMethod objectInit ∈ GW) (hcode : Cond.code objectInit ⟨#[0xb1]⟩ 1 none ∈ GW) (hd : decode cc pc = .ok (.invokespecial index, 3)) (hfr : 1 ≤ R.frames) (hlo : (rest.map fun v => v.category).sum + 12 ≤ R.locals) (kk : K p l e s m args below meth c R own cc nL rt G A Q k n I (pc + 3) lv rest) : K p l e s m args below meth c R own cc nL rt G A Q k n I pc lv (.ref a :: rest) := fun F H locs ls hI hS hl => W.objInit F.1 F.2.1 F.2.2.2.1 (F.2.2.2.2.1 _ hlink) (F.2.2.2.2.1 _ hinst) (F.2.2.2.2.1 _ hcode) rfl (by rw [F.2.2.1]; exact hl.1) rfl hd hfr (by show 2 * 0 + _ + 12 ≤ _; omega) (kk F H locs ls hI hS hl)
end KCALL
theorem si_L_9 : SiteI RL 9 yX4_init cX4_init 1 0 := ⟨gw_10, gw_11, gw_1, gw_12, rfl, by decide +kernel⟩
theorem si_X4_15 : SiteI RX4 15 yX3_init cX3_init 3 1 := ⟨gw_18, gw_19, gw_2, gw_20, rfl, by decide +kernel⟩
theorem si_X3_21 : SiteI RX3 21 yX2_init cX2_init 2 1 := ⟨gw_25, gw_26, gw_3, gw_27, rfl, by decide +kernel⟩
theorem si_X4_24 : SiteI RX4 24 yX1_init cX1_init 4 2 := ⟨gw_67, gw_68, gw_5, gw_69, rfl, by decide +kernel⟩
theorem si_X1_25 : SiteI RX1 25 yX2_init cX2_init 2 1 := ⟨gw_72, gw_26, gw_3, gw_27, rfl, by decide +kernel⟩
theorem sv_L_15 : SiteV RL RX4 15 yX4_put cX4_put 6 (some .int) 4 := ⟨gw_127, gw_128, gw_129, gw_1, gw_130, by decide +kernel⟩
theorem sv_X4_35 : SiteV RX4 RX1 35 yX1_find cX1_find 5 (some (.object "EmberCache$Item")) 1 := ⟨gw_131, gw_132, gw_133, gw_5, gw_134, by decide +kernel⟩
theorem sv_X1_41 : SiteV RX1 RX2 41 yX2_findInLog cX2_findInLog 5 (some (.object "EmberCache$Item")) 1 := ⟨gw_135, gw_136, gw_137, gw_3, gw_138, by decide +kernel⟩
theorem sv_X4_39 : SiteV RX4 RX1 39 yX1_kill cX1_kill 2 (some .boolean) 1 := ⟨gw_139, gw_140, gw_141, gw_5, gw_142, by decide +kernel⟩
theorem si_X4_45 : SiteI RX4 45 yX0_init cX0_init 8 4 := ⟨gw_145, gw_146, gw_7, gw_147, rfl, by decide +kernel⟩
theorem sn_X0_9 : SiteSN RX0 RX4 9 yX4_mixOf cX4_mixOf 4 (some .long) 1 := ⟨nw_149, gw_150, gw_1, gw_151, by decide +kernel⟩
theorem sn_X0_19 : SiteSN RX0 RX4 19 yX4_setOfMix cX4_setOfMix 2 (some .int) 1 := ⟨nw_153, gw_154, gw_1, gw_155, by decide +kernel⟩
theorem sn_X0_27 : SiteSN RX0 RX4 27 yX4_filterBits cX4_filterBits 4 (some .long) 1 := ⟨nw_157, gw_158, gw_1, gw_159, by decide +kernel⟩
theorem sv_X4_48 : SiteV RX4 RX1 48 yX1_append cX1_append 3 (none) 1 := ⟨gw_204, gw_205, gw_206, gw_5, gw_207, by decide +kernel⟩
theorem sv_X1_55 : SiteV RX1 RX2 55 yX2_hasRoomFor cX2_hasRoomFor 2 (some .boolean) 1 := ⟨gw_208, gw_209, gw_210, gw_3, gw_211, by decide +kernel⟩
theorem sv_X2_49 : SiteV RX2 RX2 49 yX2_places cX2_places 4 (some .int) 0 := ⟨gw_212, gw_213, gw_214, gw_3, gw_215, by decide +kernel⟩
theorem sv_X1_59 : SiteV RX1 RX1 59 yX1_writeOpenPage cX1_writeOpenPage 3 (none) 0 := ⟨gw_216, gw_218, gs_0, gw_5, gw_219, by decide +kernel⟩
theorem sv_X1_72 : SiteV RX1 RX2 72 yX2_clear cX2_clear 1 (none) 0 := ⟨gw_220, gw_221, gw_222, gw_3, gw_223, by decide +kernel⟩
theorem sv_X1_65 : SiteV RX1 RX1 65 yX1_emptyHead cX1_emptyHead 3 (none) 0 := ⟨gw_224, gw_226, gs_1, gw_5, gw_227, by decide +kernel⟩
theorem sv_X1_75 : SiteV RX1 RX2 75 yX2_addAll cX2_addAll 3 (none) 1 := ⟨gw_228, gw_229, gw_230, gw_3, gw_231, by decide +kernel⟩
theorem sv_X2_27 : SiteV RX2 RX2 27 yX2_at cX2_at 2 (some (.object "EmberCache$Item")) 1 := ⟨gw_232, gw_233, gw_234, gw_3, gw_235, by decide +kernel⟩
theorem sv_X2_31 : SiteV RX2 RX2 31 yX2_add cX2_add 2 (none) 1 := ⟨gw_236, gw_237, gw_238, gw_3, gw_239, by decide +kernel⟩
theorem sv_X1_82 : SiteV RX1 RX1 82 yX1_settle cX1_settle 3 (none) 1 := ⟨gw_240, gw_242, gs_2, gw_5, gw_243, by decide +kernel⟩
theorem sv_X1_85 : SiteV RX1 RX2 85 yX2_at cX2_at 2 (some (.object "EmberCache$Item")) 1 := ⟨gw_244, gw_233, gw_234, gw_3, gw_235, by decide +kernel⟩
theorem sv_X1_92 : SiteV RX1 RX1 92 yX1_gather cX1_gather 5 (none) 2 := ⟨gw_245, gw_247, gs_3, gw_5, gw_248, by decide +kernel⟩
theorem sv_X1_122 : SiteV RX1 RX2 122 yX2_addInLog cX2_addInLog 6 (none) 3 := ⟨gw_249, gw_250, gw_251, gw_3, gw_252, by decide +kernel⟩
theorem sv_X1_96 : SiteV RX1 RX1 96 yX1_killGroup cX1_killGroup 2 (none) 0 := ⟨gw_253, gw_255, gs_4, gw_5, gw_256, by decide +kernel⟩
theorem sv_X1_111 : SiteV RX1 RX1 111 yX1_kill cX1_kill 2 (some .boolean) 1 := ⟨gw_257, gw_140, gw_141, gw_5, gw_142, by decide +kernel⟩
theorem sv_X1_99 : SiteV RX1 RX3 99 yX3_moveIn cX3_moveIn 6 (none) 2 := ⟨gw_258, gw_259, gw_260, gw_2, gw_261, by decide +kernel⟩
theorem sv_X3_73 : SiteV RX3 RX3 73 yX3_layOutOthers cX3_layOutOthers 5 (none) 2 := ⟨gw_262, gw_264, gs_5, gw_2, gw_265, by decide +kernel⟩
theorem sv_X3_92 : SiteV RX3 RX2 92 yX2_clear cX2_clear 1 (none) 0 := ⟨gw_266, gw_221, gw_222, gw_3, gw_223, by decide +kernel⟩
theorem sv_X3_43 : SiteV RX3 RX2 43 yX2_at cX2_at 2 (some (.object "EmberCache$Item")) 1 := ⟨gw_267, gw_233, gw_234, gw_3, gw_235, by decide +kernel⟩
theorem sv_X3_40 : SiteV RX3 RX2 40 yX2_indexOf cX2_indexOf 5 (some .int) 1 := ⟨gw_268, gw_269, gw_270, gw_3, gw_271, by decide +kernel⟩
theorem sv_X3_99 : SiteV RX3 RX2 99 yX2_add cX2_add 2 (none) 1 := ⟨gw_272, gw_237, gw_238, gw_3, gw_239, by decide +kernel⟩
theorem sv_X3_77 : SiteV RX3 RX2 77 yX2_addAll cX2_addAll 3 (none) 1 := ⟨gw_273, gw_229, gw_230, gw_3, gw_231, by decide +kernel⟩
theorem sv_X3_81 : SiteV RX3 RX2 81 yX2_places cX2_places 4 (some .int) 0 := ⟨gw_274, gw_213, gw_214, gw_3, gw_215, by decide +kernel⟩
theorem sv_X3_85 : SiteV RX3 RX3 85 yX3_dropPass cX3_dropPass 9 (some .int) 5 := ⟨gw_275, gw_277, gs_6, gw_2, gw_278, by decide +kernel⟩
theorem sv_X3_109 : SiteV RX3 RX2 109 yX2_blank cX2_blank 2 (none) 1 := ⟨gw_279, gw_280, gw_281, gw_3, gw_282, by decide +kernel⟩
theorem sv_X3_89 : SiteV RX3 RX3 89 yX3_refill cX3_refill 4 (none) 1 := ⟨gw_283, gw_285, gs_7, gw_2, gw_286, by decide +kernel⟩
theorem sv_X3_66 : SiteV RX3 RX2 66 yX2_filterOfKeys cX2_filterOfKeys 5 (some .long) 0 := ⟨gw_287, gw_288, gw_289, gw_3, gw_290, by decide +kernel⟩
theorem sv_X1_108 : SiteV RX1 RX1 108 yX1_putAnew cX1_putAnew 2 (none) 1 := ⟨gw_291, gw_293, gs_8, gw_5, gw_294, by decide +kernel⟩
theorem sv_X1_68 : SiteV RX1 RX2 68 yX2_add cX2_add 2 (none) 1 := ⟨gw_295, gw_237, gw_238, gw_3, gw_239, by decide +kernel⟩
theorem sv_X1_118 : SiteV RX1 RX3 118 yX3_takeOut cX3_takeOut 6 (some .boolean) 2 := ⟨gw_296, gw_297, gw_298, gw_2, gw_299, by decide +kernel⟩
theorem sv_X3_50 : SiteV RX3 RX3 50 yX3_read cX3_read 8 (some (.object "EmberCache$Item")) 1 := ⟨gw_300, gw_301, gw_302, gw_2, gw_303, by decide +kernel⟩
theorem sn_X3_32 : SiteSN RX3 RX4 32 yX4_mixOf cX4_mixOf 4 (some .long) 1 := ⟨nw_304, gw_150, gw_1, gw_151, by decide +kernel⟩
theorem sn_X3_36 : SiteSN RX3 RX4 36 yX4_setOfMix cX4_setOfMix 2 (some .int) 1 := ⟨nw_305, gw_154, gw_1, gw_155, by decide +kernel⟩
theorem sn_X3_47 : SiteSN RX3 RX4 47 yX4_filterBits cX4_filterBits 4 (some .long) 1 := ⟨nw_306, gw_158, gw_1, gw_159, by decide +kernel⟩
theorem sv_X3_60 : SiteV RX3 RX2 60 yX2_closeUpOver cX2_closeUpOver 3 (none) 1 := ⟨gw_307, gw_308, gw_309, gw_3, gw_310, by decide +kernel⟩
theorem sv_L_20 : SiteV RL RX4 20 yX4_get cX4_get 4 (some .int) 1 := ⟨gw_311, gw_312, gw_313, gw_1, gw_314, by decide +kernel⟩
theorem sv_X4_52 : SiteV RX4 RX3 52 yX3_read cX3_read 8 (some (.object "EmberCache$Item")) 1 := ⟨gw_315, gw_301, gw_302, gw_2, gw_303, by decide +kernel⟩
theorem sv_L_25 : SiteV RL RX4 25 yX4_got cX4_got 2 (some .int) 1 := ⟨gw_316, gw_317, gw_318, gw_1, gw_319, by decide +kernel⟩
theorem sv_L_30 : SiteV RL RX4 30 yX4_remove cX4_remove 5 (some .int) 1 := ⟨gw_320, gw_321, gw_322, gw_1, gw_323, by decide +kernel⟩
theorem sv_X4_77 : SiteV RX4 RX3 77 yX3_takeOut cX3_takeOut 6 (some .boolean) 2 := ⟨gw_324, gw_297, gw_298, gw_2, gw_299, by decide +kernel⟩
theorem sv_L_34 : SiteV RL RX4 34 yX4_mix cX4_mix 3 (some .long) 1 := ⟨gw_325, gw_326, gw_327, gw_1, gw_328, by decide +kernel⟩
theorem ss_X4_81 : SiteS RX4 81 yX4_mixOf cX4_mixOf 4 (some .long) 1 := ⟨gw_329, gw_150, gw_1, gw_151, by decide +kernel⟩
theorem sv_L_39 : SiteV RL RX4 39 yX4_unmix cX4_unmix 5 (some .long) 1 := ⟨gw_330, gw_331, gw_332, gw_1, gw_333, by decide +kernel⟩
theorem sv_L_43 : SiteV RL RX4 43 yX4_setOf cX4_setOf 3 (some .int) 1 := ⟨gw_335, gw_336, gw_337, gw_1, gw_338, by decide +kernel⟩
theorem ss_X4_87 : SiteS RX4 87 yX4_setOfMix cX4_setOfMix 2 (some .int) 1 := ⟨gw_339, gw_154, gw_1, gw_155, by decide +kernel⟩
theorem sv_L_47 : SiteV RL RX4 47 yX4_where cX4_where 3 (some .int) 1 := ⟨gw_340, gw_341, gw_342, gw_1, gw_343, by decide +kernel⟩
theorem sv_X4_91 : SiteV RX4 RX3 91 yX3_find cX3_find 4 (some (.object "EmberCache$Item")) 1 := ⟨gw_344, gw_345, gw_346, gw_2, gw_347, by decide +kernel⟩
theorem sv_L_51 : SiteV RL RX4 51 yX4_mark cX4_mark 4 (some .int) 1 := ⟨gw_348, gw_349, gw_350, gw_1, gw_351, by decide +kernel⟩
theorem sv_L_55 : SiteV RL RX4 55 yX4_stands cX4_stands 2 (some .int) 1 := ⟨gw_352, gw_353, gw_354, gw_1, gw_355, by decide +kernel⟩
theorem ss_X4_92 : SiteS RX4 92 yX4_isSet cX4_isSet 1 (some .boolean) 1 := ⟨gw_356, gw_357, gw_1, gw_358, by decide +kernel⟩
theorem sv_L_59 : SiteV RL RX4 59 yX4_key cX4_key 4 (some .long) 2 := ⟨gw_359, gw_360, gw_361, gw_1, gw_362, by decide +kernel⟩
theorem sv_X4_105 : SiteV RX4 RX2 105 yX2_at cX2_at 2 (some (.object "EmberCache$Item")) 1 := ⟨gw_363, gw_233, gw_234, gw_3, gw_235, by decide +kernel⟩
theorem sv_L_64 : SiteV RL RX4 64 yX4_filter cX4_filter 2 (some .long) 1 := ⟨gw_364, gw_365, gw_366, gw_1, gw_367, by decide +kernel⟩
theorem sv_L_69 : SiteV RL RX4 69 yX4_alive cX4_alive 2 (some .int) 1 := ⟨gw_368, gw_369, gw_370, gw_1, gw_371, by decide +kernel⟩
theorem sv_X4_121 : SiteV RX4 RX2 121 yX2_countInLog cX2_countInLog 4 (some .int) 0 := ⟨gw_372, gw_373, gw_374, gw_3, gw_375, by decide +kernel⟩
theorem sv_X4_125 : SiteV RX4 RX1 125 yX1_countInSegment cX1_countInSegment 4 (some .int) 1 := ⟨gw_376, gw_377, gw_378, gw_5, gw_379, by decide +kernel⟩
theorem sv_X1_126 : SiteV RX1 RX2 126 yX2_countInLog cX2_countInLog 4 (some .int) 0 := ⟨gw_380, gw_373, gw_374, gw_3, gw_375, by decide +kernel⟩
theorem sv_L_73 : SiteV RL RX4 73 yX4_count cX4_count 2 (some .int) 1 := ⟨gw_381, gw_382, gw_383, gw_1, gw_384, by decide +kernel⟩
theorem sv_X4_135 : SiteV RX4 RX2 135 yX2_places cX2_places 4 (some .int) 0 := ⟨gw_385, gw_213, gw_214, gw_3, gw_215, by decide +kernel⟩
theorem sv_L_77 : SiteV RL RX4 77 yX4_close cX4_close 1 (some .int) 0 := ⟨gw_386, gw_387, gw_388, gw_1, gw_389, by decide +kernel⟩
theorem sv_L_82 : SiteV RL RX4 82 yX4_crash cX4_crash 2 (some .int) 0 := ⟨gw_390, gw_391, gw_392, gw_1, gw_393, by decide +kernel⟩
theorem sv_X4_144 : SiteV RX4 RX1 144 yX1_wipe cX1_wipe 2 (none) 0 := ⟨gw_394, gw_395, gw_396, gw_5, gw_397, by decide +kernel⟩
theorem sv_X4_147 : SiteV RX4 RX3 147 yX3_wipe cX3_wipe 2 (none) 0 := ⟨gw_398, gw_399, gw_400, gw_2, gw_401, by decide +kernel⟩
theorem sv_L_86 : SiteV RL RX4 86 yX4_open cX4_open 1 (some .int) 0 := ⟨gw_402, gw_403, gw_404, gw_1, gw_405, by decide +kernel⟩
theorem sv_L_90 : SiteV RL RX4 90 yX4_check cX4_check 2 (some .int) 0 := ⟨gw_406, gw_407, gw_408, gw_1, gw_409, by decide +kernel⟩
theorem sv_X4_148 : SiteV RX4 RX1 148 yX1_keysDiffer cX1_keysDiffer 2 (some .boolean) 0 := ⟨gw_410, gw_411, gw_412, gw_5, gw_413, by decide +kernel⟩
theorem sv_X1_133 : SiteV RX1 RX2 133 yX2_belongsTo cX2_belongsTo 4 (some .boolean) 1 := ⟨gw_414, gw_415, gw_416, gw_3, gw_417, by decide +kernel⟩
theorem sv_X2_55 : SiteV RX2 RX2 55 yX2_indexOf cX2_indexOf 5 (some .int) 1 := ⟨gw_418, gw_269, gw_270, gw_3, gw_271, by decide +kernel⟩
theorem sv_X4_152 : SiteV RX4 RX1 152 yX1_pagesFit cX1_pagesFit 2 (some .boolean) 0 := ⟨gw_419, gw_420, gw_421, gw_5, gw_422, by decide +kernel⟩
theorem sv_X1_130 : SiteV RX1 RX2 130 yX2_places cX2_places 4 (some .int) 0 := ⟨gw_423, gw_213, gw_214, gw_3, gw_215, by decide +kernel⟩
theorem sv_X4_155 : SiteV RX4 RX3 155 yX3_pagesFit cX3_pagesFit 2 (some .boolean) 0 := ⟨gw_424, gw_425, gw_426, gw_2, gw_427, by decide +kernel⟩
theorem sv_X4_156 : SiteV RX4 RX3 156 yX3_keysBelong cX3_keysBelong 2 (some .boolean) 0 := ⟨gw_428, gw_429, gw_430, gw_2, gw_431, by decide +kernel⟩
theorem sv_X3_112 : SiteV RX3 RX2 112 yX2_belongsTo cX2_belongsTo 4 (some .boolean) 1 := ⟨gw_432, gw_415, gw_416, gw_3, gw_417, by decide +kernel⟩
theorem sv_X4_159 : SiteV RX4 RX3 159 yX3_filtersAreRight cX3_filtersAreRight 2 (some .boolean) 0 := ⟨gw_433, gw_434, gw_435, gw_2, gw_436, by decide +kernel⟩
theorem sv_X4_162 : SiteV RX4 RX1 162 yX1_countIsRight cX1_countIsRight 3 (some .boolean) 0 := ⟨gw_437, gw_438, gw_439, gw_5, gw_440, by decide +kernel⟩
theorem sv_X4_165 : SiteV RX4 RX3 165 yX3_countIsRight cX3_countIsRight 3 (some .boolean) 0 := ⟨gw_441, gw_442, gw_443, gw_2, gw_444, by decide +kernel⟩
theorem si_L_12 : SiteI RL 12 yX5_init cX5_init 1 0 := ⟨gw_447, gw_448, gw_6, gw_449, rfl, by decide +kernel⟩
theorem sv_L_38 : SiteV RL RX5 38 yX5_mix cX5_mix 5 (some .long) 1 := ⟨gw_540, gw_541, gw_542, gw_6, gw_543, by decide +kernel⟩
theorem sv_L_42 : SiteV RL RX5 42 yX5_unmix cX5_unmix 7 (some .long) 1 := ⟨gw_545, gw_546, gw_547, gw_6, gw_548, by decide +kernel⟩
theorem sv_L_46 : SiteV RL RX5 46 yX5_setOf cX5_setOf 3 (some .int) 1 := ⟨gw_550, gw_551, gw_552, gw_6, gw_553, by decide +kernel⟩
theorem sv_X5_79 : SiteV RX5 RX5 79 yX5_mix cX5_mix 5 (some .long) 1 := ⟨gw_554, gw_541, gw_542, gw_6, gw_543, by decide +kernel⟩
theorem sv_L_19 : SiteV RL RX5 19 yX5_put cX5_put 7 (some .int) 4 := ⟨gw_556, gw_557, gw_558, gw_6, gw_559, by decide +kernel⟩
theorem sv_X5_133 : SiteV RX5 RX5 133 yX5_inLog cX5_inLog 5 (some .int) 1 := ⟨gw_560, gw_562, gs_9, gw_6, gw_563, by decide +kernel⟩
theorem sv_X5_122 : SiteV RX5 RX5 122 yX5_append cX5_append 6 (none) 4 := ⟨gw_564, gw_566, gs_10, gw_6, gw_567, by decide +kernel⟩
theorem sv_X5_103 : SiteV RX5 RX5 103 yX5_writeOpenPage cX5_writeOpenPage 2 (none) 0 := ⟨gw_568, gw_570, gs_11, gw_6, gw_571, by decide +kernel⟩
theorem sv_X5_109 : SiteV RX5 RX5 109 yX5_empty cX5_empty 4 (none) 1 := ⟨gw_572, gw_574, gs_12, gw_6, gw_575, by decide +kernel⟩
theorem sv_X5_113 : SiteV RX5 RX5 113 yX5_forgetDead cX5_forgetDead 3 (none) 0 := ⟨gw_576, gw_578, gs_13, gw_6, gw_579, by decide +kernel⟩
theorem sv_X5_116 : SiteV RX5 RX5 116 yX5_handle cX5_handle 5 (none) 1 := ⟨gw_580, gw_582, gs_14, gw_6, gw_583, by decide +kernel⟩
theorem sv_X5_88 : SiteV RX5 RX5 88 yX5_setOf cX5_setOf 3 (some .int) 1 := ⟨gw_584, gw_551, gw_552, gw_6, gw_553, by decide +kernel⟩
theorem sv_X5_119 : SiteV RX5 RX5 119 yX5_move cX5_move 4 (none) 1 := ⟨gw_585, gw_587, gs_15, gw_6, gw_588, by decide +kernel⟩
theorem sv_X5_136 : SiteV RX5 RX5 136 yX5_addNew cX5_addNew 8 (none) 6 := ⟨gw_589, gw_591, gs_16, gw_6, gw_592, by decide +kernel⟩
theorem sv_X5_140 : SiteV RX5 RX5 140 yX5_placesOfNew cX5_placesOfNew 3 (some .int) 0 := ⟨gw_593, gw_595, gs_17, gw_6, gw_596, by decide +kernel⟩
theorem sv_X5_144 : SiteV RX5 RX5 144 yX5_dropOne cX5_dropOne 5 (none) 0 := ⟨gw_597, gw_599, gs_18, gw_6, gw_600, by decide +kernel⟩
theorem sv_X5_147 : SiteV RX5 RX5 147 yX5_writePage cX5_writePage 4 (none) 1 := ⟨gw_601, gw_603, gs_19, gw_6, gw_604, by decide +kernel⟩
theorem sv_X5_126 : SiteV RX5 RX5 126 yX5_takeOut cX5_takeOut 7 (some .boolean) 2 := ⟨gw_605, gw_607, gs_20, gw_6, gw_608, by decide +kernel⟩
theorem sv_X5_150 : SiteV RX5 RX5 150 yX5_mayHave cX5_mayHave 5 (some .boolean) 1 := ⟨gw_609, gw_611, gs_21, gw_6, gw_612, by decide +kernel⟩
theorem sv_X5_85 : SiteV RX5 RX5 85 yX5_bitsOf cX5_bitsOf 5 (some .long) 1 := ⟨gw_613, gw_615, gs_22, gw_6, gw_616, by decide +kernel⟩
theorem sv_X5_92 : SiteV RX5 RX5 92 yX5_filterOf cX5_filterOf 5 (some .long) 1 := ⟨gw_617, gw_619, gs_23, gw_6, gw_620, by decide +kernel⟩
theorem sv_X5_154 : SiteV RX5 RX5 154 yX5_inPage cX5_inPage 5 (some .int) 1 := ⟨gw_621, gw_623, gs_24, gw_6, gw_624, by decide +kernel⟩
theorem sv_L_24 : SiteV RL RX5 24 yX5_get cX5_get 5 (some .int) 1 := ⟨gw_625, gw_626, gw_627, gw_6, gw_628, by decide +kernel⟩
theorem sv_L_29 : SiteV RL RX5 29 yX5_got cX5_got 2 (some .int) 1 := ⟨gw_629, gw_630, gw_631, gw_6, gw_632, by decide +kernel⟩
theorem sv_L_33 : SiteV RL RX5 33 yX5_remove cX5_remove 5 (some .int) 1 := ⟨gw_633, gw_634, gw_635, gw_6, gw_636, by decide +kernel⟩
theorem sv_L_50 : SiteV RL RX5 50 yX5_where cX5_where 3 (some .int) 1 := ⟨gw_637, gw_638, gw_639, gw_6, gw_640, by decide +kernel⟩
theorem sv_L_54 : SiteV RL RX5 54 yX5_mark cX5_mark 5 (some .int) 1 := ⟨gw_641, gw_642, gw_643, gw_6, gw_644, by decide +kernel⟩
theorem sv_L_58 : SiteV RL RX5 58 yX5_stands cX5_stands 2 (some .int) 1 := ⟨gw_645, gw_646, gw_647, gw_6, gw_648, by decide +kernel⟩
theorem ss_X5_170 : SiteS RX5 170 yX5_isSet cX5_isSet 1 (some .boolean) 1 := ⟨gw_649, gw_650, gw_6, gw_651, by decide +kernel⟩
theorem sv_L_63 : SiteV RL RX5 63 yX5_key cX5_key 3 (some .long) 2 := ⟨gw_652, gw_653, gw_654, gw_6, gw_655, by decide +kernel⟩
theorem sv_L_68 : SiteV RL RX5 68 yX5_filter cX5_filter 2 (some .long) 1 := ⟨gw_656, gw_657, gw_658, gw_6, gw_659, by decide +kernel⟩
theorem sv_L_72 : SiteV RL RX5 72 yX5_alive cX5_alive 4 (some .int) 1 := ⟨gw_660, gw_661, gw_662, gw_6, gw_663, by decide +kernel⟩
theorem sv_L_76 : SiteV RL RX5 76 yX5_count cX5_count 2 (some .int) 1 := ⟨gw_664, gw_665, gw_666, gw_6, gw_667, by decide +kernel⟩
theorem sv_X5_174 : SiteV RX5 RX5 174 yX5_aliveInLog cX5_aliveInLog 3 (some .int) 0 := ⟨gw_668, gw_670, gs_25, gw_6, gw_671, by decide +kernel⟩
theorem sv_X5_177 : SiteV RX5 RX5 177 yX5_inPages cX5_inPages 3 (some .int) 0 := ⟨gw_672, gw_674, gs_26, gw_6, gw_675, by decide +kernel⟩
theorem sv_L_81 : SiteV RL RX5 81 yX5_close cX5_close 1 (some .int) 0 := ⟨gw_676, gw_677, gw_678, gw_6, gw_679, by decide +kernel⟩
theorem sv_L_85 : SiteV RL RX5 85 yX5_crash cX5_crash 3 (some .int) 0 := ⟨gw_680, gw_681, gw_682, gw_6, gw_683, by decide +kernel⟩
theorem sv_L_89 : SiteV RL RX5 89 yX5_open cX5_open 1 (some .int) 0 := ⟨gw_684, gw_685, gw_686, gw_6, gw_687, by decide +kernel⟩
theorem sv_L_93 : SiteV RL RX5 93 yX5_check cX5_check 7 (some .int) 0 := ⟨gw_688, gw_689, gw_690, gw_6, gw_691, by decide +kernel⟩
