section CTX
theorem Ct.cases {d mc ms : Nat} {y : MethodName} {cc : ByteArray} {nL : Nat} {rt : Option FieldType} {G : Gd} {A : Nat → Prop} {vs : List Value} {I : Heap → Prop} {v : Option Value} {J : Heap → Prop} {ι : Type} {P : ι → Prop} {Is : ι → Heap → Prop} (h : ∀ H, I H → ∃ i, P i ∧ Is i H) (hC : ∀ i, P i → Ct d mc ms y cc nL rt G A vs (Is i) v J) : Ct d mc ms y cc nL rt G A vs I v J := fun l p e ha hc hk s m args below hf happ hP hK => by
  obtain ⟨i, hp, hi⟩ := h _ hP.2.1
  exact hC i hp l p e ha hc hk s m args below hf happ ⟨hP.1, hi, hP.2.2⟩ hK
theorem Ct.post {d mc ms : Nat} {y : MethodName} {cc : ByteArray} {nL : Nat} {rt : Option FieldType} {G : Gd} {A : Nat → Prop} {vs : List Value} {I : Heap → Prop} {v v' : Option Value} {J J' : Heap → Prop} (hv : v = v') (h : ∀ H, J H → J' H) (hC : Ct d mc ms y cc nL rt G A vs I v J) : Ct d mc ms y cc nL rt G A vs I v' J' := fun l p e ha hc hk s m args below hf happ hP hK => by
  subst hv
  obtain ⟨n, o, h1, h2, h3, ⟨⟨⟨e1, e2⟩, e3⟩, e4⟩⟩ := hC l p e ha hc hk s m args below hf happ hP hK
  exact ⟨n, o, h1, h2, h3, ⟨⟨e1, h _ e2⟩, e3⟩, e4⟩
theorem Ct.pre {d mc ms : Nat} {y : MethodName} {cc : ByteArray} {nL : Nat} {rt : Option FieldType} {G : Gd} {A : Nat → Prop} {vs : List Value} {I I' : Heap → Prop} {v : Option Value} {J : Heap → Prop} (h : ∀ H, I' H → I H) (hC : Ct d mc ms y cc nL rt G A vs I v J) : Ct d mc ms y cc nL rt G A vs I' v J := fun l p e ha hc hk s m args below hf happ hP hK => hC l p e ha hc hk s m args below hf happ ⟨hP.1, h _ hP.2.1, hP.2.2⟩ hK
variable {d : Nat} {y : MethodName} {cc : ByteArray} {nL : Nat} {rt : Option FieldType} {G : Gd} {A : Nat → Prop} {vs : List Value} {v : Option Value} {J : Heap → Prop} {mo : Nat} {ad sl : Nat → Nat} {S : SS} {nw : List Ne}
theorem Ct.mpn (hC : ∀ fi ai al, Rep S nw fi ai al → Ct d 0 0 y cc nL rt G A vs (MH G A mo ad sl fi ai al) v J) : Ct d 0 0 y cc nL rt G A vs (MPN G A mo ad sl S nw) v J :=
  Ct.cases (ι := (Nat → Int32) × (Nat → Nat → Int32) × (Nat → Nat → Int64)) (P := fun μ => Rep S nw μ.1 μ.2.1 μ.2.2) (Is := fun μ => MH G A mo ad sl μ.1 μ.2.1 μ.2.2) (fun H hH => hH) (fun μ h => hC μ.1 μ.2.1 μ.2.2 h)
theorem Ct.mps (hC : ∀ nw, Ct d 0 0 y cc nL rt G A vs (MPN G A mo ad sl S nw) v J) : Ct d 0 0 y cc nL rt G A vs (MPS G A mo ad sl S) v J :=
  Ct.cases (ι := List Ne) (P := fun _ => True) (Is := fun nw => MPN G A mo ad sl S nw) (fun H ⟨nw, h⟩ => ⟨nw, trivial, h⟩) (fun nw _ => hC nw)
end CTX
section KCM
variable {p : Program} {l : Launch} {e : Env} {s : State} {m : MethodId} {args : Array Value} {below : List Frame} {meth : Method} {c : Code} {R : Room} {cc : ByteArray} {nL : Nat} {rt : Option FieldType} {G : Gd} {A : Nat → Prop} {Q : State → Prop} {k n d : Nat} {J : Heap → Prop} {pc : Nat} {lv : List (Option Value)} {rest : List Value} {y : MethodName} {bytes : ByteArray} {maxL ar index : Nat} {ret : Option FieldType} {As : List Value} {v : Option Value} {st0 : List Value} {mo : Nat} {ad sl : Nat → Nat} {S : SS} {nw : List Ne}
theorem k_callM (T : SiteV RX5 RX5 index y bytes maxL ret ar) (hst : MSt mo ad sl) (hC : Ct d 0 0 y bytes maxL ret G A (.ref mo :: As) (MPN G A mo ad sl S nw) v J) (hd : decode cc pc = .ok (.invokevirtual index, 3)) (hn : As.length = ar) (hs : st0 = As.reverse ++ .ref mo :: rest) (hrest : (rest.map fun v => v.category).sum ≤ 8) (hfr : d + 1 ≤ R.frames) (hlo : 8 + (maxL + 11) + 40 * d ≤ R.locals) (hce : k + 0 ≤ R.cells) (hsl : n + 0 ≤ R.slots)
    (kk : K p l e s m args below meth c R RX5 cc nL rt G A Q k n J (pc + 3) lv (v.toList ++ rest)) : K p l e s m args below meth c R RX5 cc nL rt G A Q k n (MPN G A mo ad sl S nw) pc lv st0 :=
  k_callV' T hC hd hn hs hrest hfr hlo hce hsl (fun H h hK => h.recv hst hK) (fun _ h => h) (fun _ h => h) (fun _ _ _ h _ _ => h) kk
theorem k_callMS (T : SiteV RX5 RX5 index y bytes maxL ret ar) (hst : MSt mo ad sl) (hC : Ct d 0 0 y bytes maxL ret G A (.ref mo :: As) (MPS G A mo ad sl S) v J) (hd : decode cc pc = .ok (.invokevirtual index, 3)) (hn : As.length = ar) (hs : st0 = As.reverse ++ .ref mo :: rest) (hrest : (rest.map fun v => v.category).sum ≤ 8) (hfr : d + 1 ≤ R.frames) (hlo : 8 + (maxL + 11) + 40 * d ≤ R.locals) (hce : k + 0 ≤ R.cells) (hsl : n + 0 ≤ R.slots)
    (kk : K p l e s m args below meth c R RX5 cc nL rt G A Q k n J (pc + 3) lv (v.toList ++ rest)) : K p l e s m args below meth c R RX5 cc nL rt G A Q k n (MPS G A mo ad sl S) pc lv st0 :=
  k_callV' T hC hd hn hs hrest hfr hlo hce hsl (fun H h hK => by obtain ⟨nw, h⟩ := h; exact h.recv hst hK) (fun _ h => h) (fun _ h => h) (fun _ _ _ h _ _ => h) kk
end KCM
/-! numbers off the arrays are numbers of the lists -/
def oI : Option Nat → Int32
  | none => -1
  | some k => nI k
theorem bI_ne (b : Bool) : bI b ≠ 0 ↔ b = true := by cases b <;> simp [bI]
theorem bI_t {b : Bool} (h : ¬ bI b = 0) : b = true := (bI_ne b).mp h
theorem bI_f {b : Bool} (h : bI b = 0) : b = false := by cases b with | true => exact absurd h (by decide) | false => rfl
theorem ent_k {ai : Nat → Nat → Int32} {al : Nat → Nat → Int64} {k : Nat} {e : En} (h : ent ai al k = enc e) : al 0 k = e.1.1 ∧ ai 1 k = nI e.1.2.1 ∧ ai 2 k = e.1.2.2.1 ∧ ai 3 k = e.1.2.2.2 ∧ ai 4 k = bI e.2.1 ∧ ai 5 k = bI e.2.2.1 ∧ ai 6 k = nI (e.2.2.2 / 4) := by
  simpa [ent, enc] using h
theorem pent_k {ai : Nat → Nat → Int32} {al : Nat → Nat → Int64} {k : Nat} {e : Pe} (h : pent ai al k = penc e) : al 11 k = e.1.1 ∧ ai 12 k = nI e.1.2.1 ∧ ai 13 k = e.1.2.2.1 ∧ ai 14 k = e.1.2.2.2 ∧ ai 15 k = bI e.2 := by
  simpa [pent, penc] using h
theorem nent_k {ai : Nat → Nat → Int32} {al : Nat → Nat → Int64} {k : Nat} {e : Ne} (h : nent ai al k = nenc e) : al 17 k = e.1.1 ∧ ai 18 k = nI e.1.2.1 ∧ ai 19 k = e.1.2.2.1 ∧ ai 20 k = e.1.2.2.2 ∧ ai 21 k = bI e.2.1 ∧ ai 22 k = bI e.2.2 := by
  simpa [nent, nenc] using h
theorem inLog_eq {l : List En} {fi : Nat → Int32} {ai : Nat → Nat → Int32} {al : Nat → Nat → Int64} (h : RepL l fi ai al) (key : Int64) : ∀ n, n ≤ l.length → inLogR ai al key n = oI (lastIx l key n) := by
  intro n
  induction n with
  | zero => intro _; rfl
  | succ n ih =>
    intro hn
    obtain ⟨e, he⟩ : ∃ e, l[n]? = some e := ⟨l[n], List.getElem?_eq_getElem (by omega)⟩
    obtain ⟨h1, -, -, -, h5, -⟩ := ent_k (h.2.2 n e he)
    simp only [inLogR, lastIx, he, h1, h5, bI_ne]
    split
    · rfl
    · exact ih (by omega)
theorem fil_eq {P : Nat → List Pe} {ai : Nat → Nat → Int32} {al : Nat → Nat → Int64} (h : RepP P ai al) {s : Nat} (hs : s < 64) : ∀ n, n ≤ (P s).length → filR al s n = filS ((P s).take n) := by
  intro n
  induction n with
  | zero => intro _; rfl
  | succ n ih =>
    intro hn
    obtain ⟨e, he⟩ : ∃ e, (P s)[n]? = some e := ⟨(P s)[n], List.getElem?_eq_getElem (by omega)⟩
    obtain ⟨h1, -⟩ := pent_k ((h s hs).2.2 n e he)
    simp only [filR, ih (by omega), h1]
    rw [List.take_add_one, he]
    simp [filS]
theorem may_eq {P : Nat → List Pe} {ai : Nat → Nat → Int32} {al : Nat → Nat → Int64} (h : RepP P ai al) (key : Int64) : mayR al key (P (setN key)).length = mayS (P (setN key)) key := by
  unfold mayR mayS
  rw [fil_eq h (setN_lt key) _ (Nat.le_refl _), List.take_length]
theorem inPage_eq {P : Nat → List Pe} {ai : Nat → Nat → Int32} {al : Nat → Nat → Int64} (h : RepP P ai al) {s : Nat} (hs : s < 64) (key : Int64) : ∀ j, j ≤ (P s).length → inPageR al key s (P s).length j = oI ((((P s).drop ((P s).length - j)).findIdx? (fun e => e.1.1 == key)).map (fun i => 8 * s + ((P s).length - j + i))) := by
  intro j
  induction j with
  | zero => intro _; simp [inPageR, oI]
  | succ j ih =>
    intro hj
    generalize hm : (P s).length - (j + 1) = m
    have hml : m < (P s).length := by omega
    have hm1 : (P s).length - j = m + 1 := by omega
    obtain ⟨h1, -⟩ := pent_k ((h s hs).2.2 m _ (List.getElem?_eq_getElem hml))
    rw [hm1] at ih
    rw [List.drop_eq_getElem_cons hml, List.findIdx?_cons]
    simp only [inPageR, hm, h1, beq_iff_eq]
    by_cases hk : (P s)[m].1.1 = key
    · simp [hk, oI]
    · rw [if_neg hk, if_neg hk, ih (by omega), Option.map_map]
      congr 2
      funext i
      simp only [Function.comp]
      omega
theorem inPage_eq' {P : Nat → List Pe} {ai : Nat → Nat → Int32} {al : Nat → Nat → Int64} (h : RepP P ai al) (key : Int64) : inPageR al key (setN key) (P (setN key)).length (P (setN key)).length = oI ((ixS (P (setN key)) key).map (fun i => 8 * setN key + i)) := by
  rw [inPage_eq h (setN_lt key) key _ (Nat.le_refl _)]
  simp [ixS]
section REFB
variable {G : Gd} {A : Nat → Prop} {mo : Nat} {ad sl : Nat → Nat} {S : SS} {nw : List Ne}
theorem n_mix (hst : MSt mo ad sl) (key : Int64) : Ct 0 0 0 yX5_mix cX5_mix 5 (some .long) G A [.ref mo, .long key] (MPN G A mo ad sl S nw) (some (.long (mixI key))) (MPN G A mo ad sl S nw) :=
  Ct.mpn fun fi ai al h => Ct.post rfl (MPN.of h) (c_mix hst key)
theorem n_unmix (hst : MSt mo ad sl) (key : Int64) : Ct 0 0 0 yX5_unmix cX5_unmix 7 (some .long) G A [.ref mo, .long key] (MPN G A mo ad sl S nw) (some (.long (unmixI key))) (MPN G A mo ad sl S nw) :=
  Ct.mpn fun fi ai al h => Ct.post rfl (MPN.of h) (c_unmix hst key)
theorem n_setOf (hst : MSt mo ad sl) (key : Int64) : Ct 1 0 0 yX5_setOf cX5_setOf 3 (some .int) G A [.ref mo, .long key] (MPN G A mo ad sl S nw) (some (.int (nI (setN key)))) (MPN G A mo ad sl S nw) :=
  Ct.mpn fun fi ai al h => Ct.post rfl (MPN.of h) (c_setOf hst key)
theorem n_filterOf (hst : MSt mo ad sl) (s : Nat) (hs : s < 64) : Ct 2 0 0 yX5_filterOf cX5_filterOf 5 (some .long) G A [.ref mo, .int (nI s)] (MPN G A mo ad sl S nw) (some (.long (filS (sP S s)))) (MPN G A mo ad sl S nw) :=
  Ct.mpn fun fi ai al h => Ct.post (by rw [fil_eq h.2.2.1 hs _ (Nat.le_refl _), List.take_length]) (MPN.of h) (c_filterOf hst s (sP S s).length hs (h.2.2.1 s hs).1 (h.2.2.1 s hs).2.1)
theorem n_mayHave (hst : MSt mo ad sl) (key : Int64) : Ct 3 0 0 yX5_mayHave cX5_mayHave 5 (some .boolean) G A [.ref mo, .long key] (MPN G A mo ad sl S nw) (some (.int (bI (mayS (sP S (setN key)) key)))) (MPN G A mo ad sl S nw) :=
  Ct.mpn fun fi ai al h => Ct.post (by rw [may_eq h.2.2.1]) (MPN.of h) (c_mayHave hst key (sP S (setN key)).length (h.2.2.1 _ (setN_lt key)).1 (h.2.2.1 _ (setN_lt key)).2.1)
theorem n_inLog (hst : MSt mo ad sl) (key : Int64) : Ct 0 0 0 yX5_inLog cX5_inLog 5 (some .int) G A [.ref mo, .long key] (MPN G A mo ad sl S nw) (some (.int (oI (lastIx (sL S) key (sL S).length)))) (MPN G A mo ad sl S nw) :=
  Ct.mpn fun fi ai al h => Ct.post (by rw [inLog_eq h.1 key _ (Nat.le_refl _)]) (MPN.of h) (c_inLog hst key (sL S).length h.1.1 h.1.2.1)
theorem n_inPage (hst : MSt mo ad sl) (key : Int64) : Ct 2 0 0 yX5_inPage cX5_inPage 5 (some .int) G A [.ref mo, .long key] (MPN G A mo ad sl S nw) (some (.int (oI ((ixS (sP S (setN key)) key).map (fun i => 8 * setN key + i))))) (MPN G A mo ad sl S nw) :=
  Ct.mpn fun fi ai al h => Ct.post (by rw [inPage_eq' h.2.2.1]) (MPN.of h) (c_inPage hst key (sP S (setN key)).length (h.2.2.1 _ (setN_lt key)).1 (h.2.2.1 _ (setN_lt key)).2.1)
end REFB
