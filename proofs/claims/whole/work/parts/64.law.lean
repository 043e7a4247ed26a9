def R_law : String := "EmberCacheLaw"
def lw_P (b : Addr) (xs : List Int32) (args : Array Value) (s : State) : Prop := args = #[.ref b] ∧ s.IntsAt b xs ∧ xs.length ≤ 3072 ∧ (Jvm.Cond.and given_1 narrow_1).before args s = true
def lw_Q (_ : Array Value) (s : State) (o : Outcome) (t : State) : Prop := o = .returned (some (.int 1)) ∧ Framed s o t [] 600000 7302250
def lw_Z (below : List Frame) (a : Array Value) (s : State) : State → Prop := fun t => ∃ o, t.status = .running ∧ Ended t below o ∧ lw_Q a s o t
/-- the law's own end, with 1 on the stack, nothing written that was there before, its room as the claim has it -/
theorem lw_ret {p : Program} {l : Launch} {e : Env} {s : State} {m : MethodId} {below : List Frame} {meth : Method} {c : Code} {b : Nat} (hx : p.tables.exec = Jvm.exec) (hb : c.code = code) (hr : meth.sig.returnType = ret) (hlocks : meth.locks = false) {pc : Nat} {H : Heap} {ls : Array Slot} (hdg : decode code pc = .ok (.ireturn, 1)) : W p l e room_1 s m #[Value.ref b] below meth c H [] 600000 7302250 (lw_Z below #[Value.ref b] s) (F0 m pc ls [.int 1]) := by
  intro T hT X
  obtain ⟨fs, hret, hrun, hended, hW, hframe⟩ := X.leave (v := some (.int 1)) (hlocks := hlocks) (fun h => by rw [hr] at h; cases h)
  have hmeth' : T.vm.method? m = some meth := X.method'
  refine ⟨T.setFrames fs, ?_, .returned (some (.int 1)), hrun, hended, rfl, ⟨_, rfl⟩, hW, hframe⟩
  jvm_step X.here [X.here.top, hx, hb, hdg, hmeth', hr, ret, narrow_b1]
  (try refine ⟨rfl, ?_⟩); (try refine ⟨rfl, ?_⟩)
  first | (intro acts; rw [hret _ acts rfl rfl rfl]) | rw [hret _ _ rfl rfl rfl]
  exact Steps.refl _
/-- what holds at the law's entry: the machine, the code, the tables' words (any of lw_tbl by 'hts w (by decide +kernel)'), the script of L ints xs at the cell b, what the Statement gives of the start (any of its parts by flat_of_before) -/
def lw_At (p : Program) (s : State) (m : MethodId) (meth : Method) (c : Code) (b L : Nat) (xs : Nat → Int32) : Prop :=
  p.tables.exec = Jvm.exec ∧ c.code = code ∧ meth.sig.returnType = ret ∧ c.maxLocals = 4 ∧ s.vm.findClass R_law = some m.cls ∧ (∀ w ∈ lw_tbl, w.before #[Value.ref b] s = true) ∧ va_X b L xs s s.heap ∧ b < s.heap.size ∧ meth.locks = false ∧ (Jvm.Cond.and given_1 narrow_1).before #[Value.ref b] s = true
section LAWD
variable {p : Program} {l : Launch} {e : Env} {s : State} {m : MethodId} {below : List Frame} {meth : Method} {c : Code} {G : Gd} {ad ar ow cap : Nat → Nat} {N0 N1 N2 mo : Nat} {adm slm : Nat → Nat} {b L : Nat} {xs : Nat → Int32}
set_option maxRecDepth 4000 in
theorem law_loop (hcap : CPa ad cap) (hmst : MSt mo adm slm) (hdom : DomM N1 N2 mo adm slm) (h01 : N0 ≤ N1) (hsz : s.heap.size = N0) (hX : va_X b L xs s s.heap) (hbl : b < s.heap.size) (hL : L ≤ 3072) : ∀ (j t : Nat) (kd : Nat → Nat) (it : Nat → Da) (σ : CS) (S : SS), L ≤ 6 * t + j → 6 * t ≤ L + 5 → LIv ad ar ow cap kd it σ S → K p l e s m #[Value.ref b] below meth c room_1 RL cL_law 4 ret G (lwA N0) (lw_Z below #[Value.ref b] s) (300 + t) (14000 + 9 * t) (fun H => CH G (ACl N0 N1 N2) ad ar ow cap kd it σ H ∧ MPS G (AMo N1) mo adm slm S H) 18 [some (.ref b), some (.ref (ad 0)), some (.ref mo), some (.int (nI (6 * t)))] [] := by
  have fin : ∀ (t : Nat) (kd : Nat → Nat) (it : Nat → Da) (σ : CS) (S : SS), 6 * t ≤ L + 5 → K p l e s m #[Value.ref b] below meth c room_1 RL cL_law 4 ret G (lwA N0) (lw_Z below #[Value.ref b] s) (300 + t) (14000 + 9 * t) (fun H => CH G (ACl N0 N1 N2) ad ar ow cap kd it σ H ∧ MPS G (AMo N1) mo adm slm S H) 784 [some (.ref b), some (.ref (ad 0)), some (.ref mo), some (.int (nI (6 * t)))] [] := by
    intro t kd it σ S ht
    refine k_iconst (v := 1) (pc := 784) dL_law_784 (by decide) ?_
    intro F H locs ls hI hS hl
    refine va_forget (fun q hq => by rw [hsz]; exact hS.2.2 q hq) ?_
    exact W.widen (by omega) (by omega) (lw_ret F.1 F.2.1 F.2.2.2.2.2.2.1 F.2.2.2.2.2.2.2 dL_law_785)
  have head : ∀ (t : Nat) (kd : Nat → Nat) (it : Nat → Da) (σ : CS) (S : SS), 6 * t ≤ L + 5 → (6 * t + 6 ≤ L → K p l e s m #[Value.ref b] below meth c room_1 RL cL_law 4 ret G (lwA N0) (lw_Z below #[Value.ref b] s) (300 + t) (14000 + 9 * t) (fun H => CH G (ACl N0 N1 N2) ad ar ow cap kd it σ H ∧ MPS G (AMo N1) mo adm slm S H) 27 [some (.ref b), some (.ref (ad 0)), some (.ref mo), some (.int (nI (6 * t)))] []) → K p l e s m #[Value.ref b] below meth c room_1 RL cL_law 4 ret G (lwA N0) (lw_Z below #[Value.ref b] s) (300 + t) (14000 + 9 * t) (fun H => CH G (ACl N0 N1 N2) ad ar ow cap kd it σ H ∧ MPS G (AMo N1) mo adm slm S H) 18 [some (.ref b), some (.ref (ad 0)), some (.ref mo), some (.int (nI (6 * t)))] [] := by
    intro t kd it σ S ht kk
    refine k_iload_n (pc := 18) dL_law_18 rfl ?_
    refine k_aload_n (pc := 19) dL_law_19 rfl ?_
    refine k_slen hX hbl (by show ¬ N0 ≤ b; omega) (pc := 20) dL_law_20 ?_
    refine k_bipush (v := 6) (pc := 21) dL_law_21 (by decide) ?_
    refine k_isub (pc := 23) dL_law_23 ?_
    refine k_icmp_gt (tgt := 784) (pc := 24) dL_law_24 (by decide) (fun z => fin t kd it σ S ht) (fun z => ?_)
    exact kk (Nat.not_lt.mp fun q => z ((len_gt (by omega) (by omega)).mpr q))
  intro j
  induction j with
  | zero =>
    intro t kd it σ S hj ht hv
    exact head t kd it σ S ht (fun q => by omega)
  | succ j ih =>
    intro t kd it σ S hj ht hv
    refine head t kd it σ S ht (fun ht6 => ?_)
    have nxt : ∀ (kd2 : Nat → Nat) (it2 : Nat → Da) (σ2 : CS) (S2 : SS) (k2 n2 : Nat), LIv ad ar ow cap kd2 it2 σ2 S2 → k2 ≤ 300 + t + 1 → n2 ≤ 14000 + 9 * t + 9 → K p l e s m #[Value.ref b] below meth c room_1 RL cL_law 4 ret G (lwA N0) (lw_Z below #[Value.ref b] s) k2 n2 (fun H => CH G (ACl N0 N1 N2) ad ar ow cap kd2 it2 σ2 H ∧ MPS G (AMo N1) mo adm slm S2 H) 778 [some (.ref b), some (.ref (ad 0)), some (.ref mo), some (.int (nI (6 * t)))] [] := by
      intro kd2 it2 σ2 S2 k2 n2 hv2 hk hn
      refine k_iinc (pc := 778) dL_law_778 rfl (idx (6 * t) 6) (by decide) rfl ?_
      refine k_goto (tgt := 18) (pc := 781) dL_law_781 (by decide) ?_
      exact k_widen hk hn (ih (t + 1) kd2 it2 σ2 S2 (by omega) (by omega) hv2)
    refine k_aload_n (pc := 27) dL_law_27 rfl ?_
    refine k_iload_n (pc := 28) dL_law_28 rfl ?_
    refine k_sld (j := 6 * t) hX hbl (by show ¬ N0 ≤ b; omega) rfl (by omega) (by omega) (pc := 29) dL_law_29 ?_
    refine k_bipush (v := 31) (pc := 30) dL_law_30 (by decide) ?_
    refine k_iand (pc := 32) dL_law_32 ?_
    generalize xs (6 * t) &&& 31 = x
    by_cases h0 : x = nI 0
    · rw [h0]
      refine k_tableIn (tgt := 120) (pc := 33) dL_law_33 (by decide) (by decide) rfl (by decide) ?_
      exact law_put hcap hmst hdom h01 hsz hX hbl hL ht6 hv nxt
    by_cases h1 : x = nI 1
    · rw [h1]
      refine k_tableIn (tgt := 203) (pc := 33) dL_law_33 (by decide) (by decide) rfl (by decide) ?_
      exact law_get hcap hmst hdom h01 hsz hX hbl hL ht6 hv nxt
    by_cases h2 : x = nI 2
    · rw [h2]
      refine k_tableIn (tgt := 256) (pc := 33) dL_law_33 (by decide) (by decide) rfl (by decide) ?_
      exact law_got hcap hmst hdom h01 hsz hX hbl hL ht6 hv nxt
    by_cases h3 : x = nI 3
    · rw [h3]
      refine k_tableIn (tgt := 279) (pc := 33) dL_law_33 (by decide) (by decide) rfl (by decide) ?_
      exact law_remove hcap hmst hdom h01 hsz hX hbl hL ht6 hv nxt
    by_cases h4 : x = nI 4
    · rw [h4]
      refine k_tableIn (tgt := 332) (pc := 33) dL_law_33 (by decide) (by decide) rfl (by decide) ?_
      exact law_mix hcap hmst hdom h01 hsz hX hbl hL ht6 hv nxt
    by_cases h5 : x = nI 5
    · rw [h5]
      refine k_tableIn (tgt := 386) (pc := 33) dL_law_33 (by decide) (by decide) rfl (by decide) ?_
      exact law_unmix hcap hmst hdom h01 hsz hX hbl hL ht6 hv nxt
    by_cases h6 : x = nI 6
    · rw [h6]
      refine k_tableIn (tgt := 440) (pc := 33) dL_law_33 (by decide) (by decide) rfl (by decide) ?_
      exact law_setOf hcap hmst hdom h01 hsz hX hbl hL ht6 hv nxt
    by_cases h7 : x = nI 7
    · rw [h7]
      refine k_tableIn (tgt := 493) (pc := 33) dL_law_33 (by decide) (by decide) rfl (by decide) ?_
      exact law_where hcap hmst hdom h01 hsz hX hbl hL ht6 hv nxt
    by_cases h8 : x = nI 8
    · rw [h8]
      refine k_tableIn (tgt := 546) (pc := 33) dL_law_33 (by decide) (by decide) rfl (by decide) ?_
      exact law_mark hcap hmst hdom h01 hsz hX hbl hL ht6 hv nxt
    by_cases h9 : x = nI 9
    · rw [h9]
      refine k_tableIn (tgt := 599) (pc := 33) dL_law_33 (by decide) (by decide) rfl (by decide) ?_
      exact law_stands hcap hmst hdom h01 hsz hX hbl hL ht6 hv nxt
    by_cases h10 : x = nI 10
    · rw [h10]
      refine k_tableIn (tgt := 622) (pc := 33) dL_law_33 (by decide) (by decide) rfl (by decide) ?_
      exact law_key hcap hmst hdom h01 hsz hX hbl hL ht6 hv nxt
    by_cases h11 : x = nI 11
    · rw [h11]
      refine k_tableIn (tgt := 656) (pc := 33) dL_law_33 (by decide) (by decide) rfl (by decide) ?_
      exact law_filter hcap hmst hdom h01 hsz hX hbl hL ht6 hv nxt
    by_cases h12 : x = nI 12
    · rw [h12]
      refine k_tableIn (tgt := 680) (pc := 33) dL_law_33 (by decide) (by decide) rfl (by decide) ?_
      exact law_alive hcap hmst hdom h01 hsz hX hbl hL ht6 hv nxt
    by_cases h13 : x = nI 13
    · rw [h13]
      refine k_tableIn (tgt := 703) (pc := 33) dL_law_33 (by decide) (by decide) rfl (by decide) ?_
      exact law_count hcap hmst hdom h01 hsz hX hbl hL ht6 hv nxt
    by_cases h14 : x = nI 14
    · rw [h14]
      refine k_tableIn (tgt := 726) (pc := 33) dL_law_33 (by decide) (by decide) rfl (by decide) ?_
      exact law_close hcap hmst hdom h01 hsz hX hbl hL ht6 hv nxt
    by_cases h15 : x = nI 15
    · rw [h15]
      refine k_tableIn (tgt := 739) (pc := 33) dL_law_33 (by decide) (by decide) rfl (by decide) ?_
      exact law_crash hcap hmst hdom h01 hsz hX hbl hL ht6 hv nxt
    by_cases h16 : x = nI 16
    · rw [h16]
      refine k_tableIn (tgt := 752) (pc := 33) dL_law_33 (by decide) (by decide) rfl (by decide) ?_
      exact law_open hcap hmst hdom h01 hsz hX hbl hL ht6 hv nxt
    by_cases h17 : x = nI 17
    · rw [h17]
      refine k_tableIn (tgt := 765) (pc := 33) dL_law_33 (by decide) (by decide) rfl (by decide) ?_
      exact law_check hcap hmst hdom h01 hsz hX hbl hL ht6 hv nxt
    refine k_tableOut (tgt := 778) (pc := 33) dL_law_33 (t_cases fun q hq => ?_) (by decide) ?_
    · match q, hq with
      | 0, _ => exact h0
      | 1, _ => exact h1
      | 2, _ => exact h2
      | 3, _ => exact h3
      | 4, _ => exact h4
      | 5, _ => exact h5
      | 6, _ => exact h6
      | 7, _ => exact h7
      | 8, _ => exact h8
      | 9, _ => exact h9
      | 10, _ => exact h10
      | 11, _ => exact h11
      | 12, _ => exact h12
      | 13, _ => exact h13
      | 14, _ => exact h14
      | 15, _ => exact h15
      | 16, _ => exact h16
      | 17, _ => exact h17
      | q + 18, hq => omega
    · exact nxt kd it σ S _ _ hv (by omega) (by omega)
end LAWD
theorem whole_start {p : Program} {e : Env} {s : State} {m : MethodId} {below : List Frame} {meth : Method} {c : Code} (l : Launch) {b L : Nat} {xs : Nat → Int32} (hL : L ≤ 3072) (C0 : lw_At p s m meth c b L xs) : W p l e room_1 s m #[Value.ref b] below meth c s.heap [] 0 0 (lw_Z below #[Value.ref b] s) (entryFrame m ([Value.ref b] : List Value).toArray 4) := by
  obtain ⟨q1, q2, q3, q4, q5, q6, q7, q8, q9, -⟩ := C0
  obtain ⟨G, hK⟩ := kk_start q6
  have main : K p l e s m #[Value.ref b] below meth c room_1 RL cL_law 4 ret G (lwA s.heap.size) (lw_Z below #[Value.ref b] s) 0 0 (Hd G (lwA s.heap.size) (fun _ => none)) 0 [some (.ref b), none, none, none] [] := by
    refine k_newS (fs := [.null, .null, .null, .int 0, .int 0, .int 0, .int 0]) tyX4 (ci := 4) rfl inX4 tyX4_ok gw_8 gw_9 gw_1 (by decide) (by decide) (by decide) (pc := 0) dL_law_0 fun x hx hx0 => ?_
    refine k_I (I2 := Hd G (lwA s.heap.size) (us (fun _ => none) x (.inr (4, [.null, .null, .null, .int 0, .int 0, .int 0, .int 0])))) (fun H h => h.2) ?_
    refine k_dup (pc := 3) dL_law_3 rfl ?_
    refine k_callI si_L_9 (e_init x (fun _ => ((0, 0, 0, 0) : Da)) (us_same _ _ _)) (pc := 4) dL_law_4 rfl rfl (Nat.le_of_ble_eq_true rfl) (by decide) (by decide) (by decide) (by decide) ?_
    refine k_ex fun μ => ?_
    refine k_pure fun hC => ?_
    obtain ⟨ad, ar, ow, cap, kd, g, o⟩ := μ
    obtain ⟨hst, hcw, ⟨p1, p2, p3, p4, p5, p6⟩, hax, hno⟩ := hC
    dsimp only at hst hcw p1 p2 p3 p4 p5 p6 hax hno ⊢
    subst hax
    refine k_astore_n (pc := 7) dL_law_7 (by decide) rfl ?_
    refine k_openC fun sz ct hrl => ?_
    refine k_newS (fs := mfs []) tyX5 (ci := 5) rfl inX5 tyX5_ok gw_445 gw_446 gw_6 (by decide) (by decide) (by decide) (pc := 8) dL_law_8 fun mo hmo hmo0 => ?_
    refine k_dup (pc := 11) dL_law_11 rfl ?_
    refine k_callI' (A1 := AMo mo) (I2 := fun H => ∃ ν : Nat × (Nat → Nat) × (Nat → Nat), (MSt mo ν.2.1 ν.2.2 ∧ DomM mo ν.1 mo ν.2.1 ν.2.2) ∧ (CH G (ACl s.heap.size mo ν.1) ad ar ow cap kd (fun _ => ((0, 0, 0, 0) : Da)) (sg0 g o) H ∧ MPS G (AMo mo) mo ν.2.1 ν.2.2 S00 H)) si_L_12 (c_init (G := G) (A := AMo mo) (w := fun _ => none) mo) (pc := 12) dL_law_12 rfl rfl (Nat.le_of_ble_eq_true rfl) (by decide) (by decide) (by decide) (by decide) (fun H h => ?_) (fun q hq => Nat.le_trans hmo0 hq) (fun H H1 h hj hz hk => ?_) ?_
    · refine Hd.re (h.2.sub (fun a y hy => ?_)) (fun a y hy => ?_) (fun q hq => ?_)
      · by_cases ha : a = mo
        · subst ha
          rw [us_same] at hy ⊢
          exact hy
        · rw [us_ne _ _ ha] at hy
          cases hy
      · by_cases ha : a = mo
        · rw [ha]
          exact Nat.le_refl _
        · rw [us_ne _ _ ha] at hy
          cases hy
      · show mo ≤ q
        rw [h.1] at hq
        omega
    · obtain ⟨μ, hm, hp⟩ := hj
      refine ⟨(H1.size, μ.1, μ.2), ⟨hm, ⟨Nat.le_refl _, ?_⟩, fun a h1 h2 => ?_⟩, ⟨(sz, ct), hrl, ?_⟩, hp⟩
      · rw [h.1] at hz
        show mo < H1.size
        omega
      · by_cases ha : a = mo
        · rw [h.1] at hz
          show mo ≤ a ∧ a < H1.size
          omega
        · obtain ⟨nw, ν, hr, hH⟩ := hp
          have hcell : mw mo μ.1 μ.2 ν.1 ν.2.1 ν.2.2 a = some (mcell ν.2.1 ν.2.2 (μ.2 a)) := by
            unfold mw
            rw [if_neg ha, if_pos ⟨h1, h2⟩]
          exact ⟨(hH.1 a _ hcell).2, ce_lt (hH.1 a _ hcell).1⟩
      · have hlt : ∀ a y, cw ad ar ow cap kd (fun _ => ((0, 0, 0, 0) : Da)) (sg0 g o) sz ct a = some y → a < mo ∧ s.heap.size ≤ a ∧ us (cw ad ar ow cap kd (fun _ => ((0, 0, 0, 0) : Da)) (sg0 g o) sz ct) mo (.inr (5, mfs [])) a = some y := fun a y hy => by
          have hne : a ≠ mo := fun z => by rw [z, hmo] at hy; cases hy
          have hu : us (cw ad ar ow cap kd (fun _ => ((0, 0, 0, 0) : Da)) (sg0 g o) sz ct) mo (.inr (5, mfs [])) a = some y := by rw [us_ne _ _ hne]; exact hy
          obtain ⟨c1, c2⟩ := h.2.1 a y hu
          have c3 := ce_lt c1
          rw [h.1] at c3
          exact ⟨by omega, c2, hu⟩
        have hH2 : Hd G (lwA s.heap.size) (cw ad ar ow cap kd (fun _ => ((0, 0, 0, 0) : Da)) (sg0 g o) sz ct) H := h.2.sub (fun a y hy => (hlt a y hy).2.2)
        have hH3 := hH2.frame (B := AMo mo) hz hk (fun a y hy z => by have := (hlt a y hy).1; have z2 : mo ≤ a := z; omega)
        refine hH3.re (fun a y hy => ?_) (fun q hq => ?_)
        · obtain ⟨c1, c2, -⟩ := hlt a y hy
          exact ⟨c2, fun z => by omega⟩
        · rw [h.1] at hz
          exact ⟨by omega, fun z => by have : q < H1.size := z.2; omega⟩
    refine k_ex fun ν => ?_
    refine k_pure fun hv => ?_
    obtain ⟨N2, adm, slm⟩ := ν
    obtain ⟨hmst, hdom⟩ := hv
    dsimp only at hmst hdom ⊢
    refine k_astore_n (pc := 15) dL_law_15 (by decide) rfl ?_
    refine k_iconst (v := 0) (pc := 16) dL_law_16 (by decide) ?_
    refine k_istore_n (pc := 17) dL_law_17 (by decide) rfl ?_
    refine k_widen (k2 := 300 + 0) (n2 := 14000 + 9 * 0) (by decide) (by decide) ?_
    exact law_loop ⟨p2, p1, p3, p4⟩ hmst hdom hmo0 rfl q7 q8 hL L 0 kd (fun _ => ((0, 0, 0, 0) : Da)) (sg0 g o) S00 (by omega) (by omega) ⟨hst, hcw, ⟨p5, p6⟩, Rel.start.1, (Rel.start (ad := ad) (kd := kd) (it := fun _ => ((0, 0, 0, 0) : Da)) (g := g) (o := o)).2, fun a ha => absurd ha (hno a)⟩
  rw [lg_entry_eq]
  exact main ⟨q1, q2, q4, q5, fun w hw => q6 w (gw_tbl hw), hK, q3, q9⟩ s.heap [] _ ⟨fun a x hx => (by cases hx), fun q hq => hq⟩ va_S.rf (lp_entry [Value.ref b] 3 (Nat.le_of_ble_eq_true rfl))
set_option maxHeartbeats 4000000 in
theorem lw_walk (l : Launch) (b : Addr) (xs : List Int32) : MetFree l x (headSpec (Jvm.Cond.code x code maxLocals ret :: tables_1) room_1) (lw_P b xs) (fun _ _ _ _ _ => True) lw_Q := by
  refine MetFree.of_bodyS (code := code) (maxLocals := maxLocals) (ret := ret) (by decide) ?_ ?_
  · intro args s m h hn
    obtain ⟨meth, c, h1, h2, h3, h4, h5, h6, -, -⟩ := Cond.code_spec hn (atoms_spec (ws := Jvm.Cond.code x code maxLocals ret :: tables_1) h _ List.mem_cons_self)
    exact ⟨meth, c, h1, h2, h3, h4, h5, h6⟩
  · intro p e s m args below meth c s₁ B hml0 hP _
    obtain ⟨rfl, hx, hbd, hgv⟩ := hP
    obtain ⟨scr, harrAt, hlist, hof, hsmall⟩ := hx
    obtain ⟨hcb, hkn, -, -⟩ := State.arrayAt?_spec harrAt
    have hown : s.vm.findClass R_law = some m.cls := findClass_of_methodNamed B.named
    have hts0 : ∀ c ∈ (Jvm.Cond.code x code maxLocals ret :: tables_1), c.before #[Value.ref b] s = true := atoms_spec (ws := Jvm.Cond.code x code maxLocals ret :: tables_1) B.pre
    have hts : ∀ w ∈ lw_tbl, w.before #[Value.ref b] s = true := k2_hts_sels lw_privs (fun w hw => hts0 w (List.mem_cons_of_mem _ hw)) lw_privs_ok
    have hml : c.maxLocals = 4 := B.maxLocals_eq (hts0 _ List.mem_cons_self)
    have X₀ : Stand p l e room_1 s m #[Value.ref b] below meth c s₁ [] 0 0 := Stand.of_body B
    have hh0 : s₁.heap = s.heap := by rw [B.state]; rfl
    have hsz : scr.slots.size = xs.length := by rw [← Array.length_toList, hlist, List.length_map]
    have hval : ∀ j : Nat, j < xs.length → scr.slots[j]? = some (.int (xs.getD j 0)) := fun j hj => by
      rw [← Array.getElem?_toList, hlist]
      simp [hj]
    have hbl : b < s.heap.size := (Array.getElem?_eq_some_iff.mp hcb).1
    have hX : va_X b xs.length (fun j => xs.getD j 0) s s.heap := ⟨scr, hcb, hof, hkn, hsz, hval⟩
    have K : W p l e room_1 s m #[Value.ref b] below meth c s₁.heap [] 0 0 (lw_Z below #[Value.ref b] s) (entryFrame m ([Value.ref b] : List Value).toArray 4) := by
      rw [hh0]
      exact whole_start l hbd ⟨B.exec, B.bytes, B.returns, hml, hown, hts, hX, hbl, B.notSynchronized, hgv⟩
    obtain ⟨t, a1, o, b1, b2, b3⟩ := K s₁ rfl X₀
    exact ⟨t, o, a1, b1, b2, b3⟩
theorem lw_pre_spec {args : Array Value} {s : State} (h : (Jvm.Cond.and given_1 narrow_1).before args s = true) (hr : rest_1_c.before args s = true) : ∃ (b : Addr) (xs : List Int32), lw_P b xs args s := by
  have hs := flat_of_before _ h
  have hq := flat_of_before _ hr
  have hc : (Cond.count 1).before args s = true := hs _ (by decide +kernel)
  have harr : (Cond.arrayOf (.arg 0) .int).before args s = true := hs _ (by decide +kernel)
  have hle : (Cond.le (.length (.arg 0)) (.int 3072)).before args s = true := hs _ (by decide +kernel)
  have hlen : (Cond.isInt (.length (.arg 0))).before args s = true := hq _ (by decide +kernel)
  have hall : (Cond.all (.arg 0) (.isInt (.elem (.arg 0) (.index 0)))).before args s = true := hq _ (by decide +kernel)
  obtain ⟨b, xs, hb, hx⟩ := State.ints_of_pre rfl harr hlen hall
  have hsm : xs.length < 2 ^ 31 := hx.choose_spec.2.2.2
  have hev : (Term.length (.arg 0)).eval args s none [] s = some (.int xs.length.toInt32) := hx.length_eval hb
  have hv := Cond.le_ints hev (show (Term.int 3072).eval args s none [] s = some (.int 3072) from rfl)
  have hd : xs.length.toInt32 ≤ 3072 := by
    simpa [Cond.before, Cond.holds, hv] using hle
  have hN : xs.length ≤ 3072 := (Int32.ofNat_le_ofNat hsm (by decide)).mp (show Int32.ofNat xs.length ≤ Int32.ofNat 3072 from hd)
  exact ⟨b, xs, Cond.one_arg hc (show args[0]? = some (.ref b) from hb), hx, hN, h⟩
theorem lw_comes (l : Launch) : Comes l x (Jvm.Cond.code x code maxLocals ret :: tables_1) room_1 (fun tb e args s => Calls_1 tb e args s ∧ rest_1 tb e args s ∧ Pre_1 tb e args s)
    (fun _ _ args s o t => lw_Q args s o t) := by
  intro p e ha hc hk s m args below hf hfit hheap happ hpre
  obtain ⟨b, xs, hP⟩ := lw_pre_spec hpre.2.2 hpre.2.1
  obtain ⟨k, o, h1, h2, h3, hQ⟩ := lw_walk l b xs p e ha hc hk s m args below hf ((Spec.applies_iff_loose hf).mp happ).1 hP trivial
  exact ⟨k, o, h1, h2, h3, hQ⟩
theorem lw_frame {s t : State} {o : Outcome} {args : Array Value} (h : Framed s o t [] 600000 7302250) :
    Framed s o t (fieldLocs frame_1_writes args s ++ arrayLocs frame_1_arrays args s ++ staticLocs frame_1_statics s) 600000 7302250 := h
theorem lw_limb (L : Cond) (hL : ∀ (args : Array Value) (s t : State), L.after args s (.returned (some (.int 1))) t = true) :
    ArmFor flags0 classFile x code maxLocals ret World_1 tables_1 room_1 Calls_1 rest_1 Pre_1
      (fun tb e a s o t => postC L tb e a s o t ∧ Framed s o t (fieldLocs frame_1_writes a s ++ arrayLocs frame_1_arrays a s ++ staticLocs frame_1_statics s) 600000 7302250) := by
  intro l _ _ _ p e ha hc hk s m args below hf hfit hheap happ hpre
  obtain ⟨k, o, h1, h2, h3, rfl, hF⟩ := lw_comes l p e ha hc hk s m args below hf hfit hheap happ hpre
  exact ⟨k, _, h1, h2, h3, hL args s _, lw_frame hF⟩
theorem i_vc : Claimed_1_1 ∧ Claimed_1_2 := ⟨lw_limb limb_1_1 (fun args s t => by simp [limb_1_1, Cond.after, Cond.holds, Cond.value]), lw_limb limb_1_2 (fun args s t => Cond.after_iff.mpr (by
  first | (rw [show limb_1_2 = Cond.eq .result (.int 1) from rfl, Cond.eq_ints (x := 1) (y := 1) rfl rfl]; simp; done) | (simp [limb_1_2, Cond.value, Term.eval]; done)))⟩
