def SPo (w : Wd) (sp t : Nat) (w2 : Wd) (pq f : Nat) (rs : Rs) : Prop := WE w w2 sp ∧ w2 sp = some (.inr (3, [.ref pq, .ref f, .ref t, .ref (rwA rs 64), .int 0])) ∧ (∃ g : Nat → Option Nat, w2 pq = some (.inl (4, 64, fun j => va_rf (g j))) ∧ ∀ j, j < 64 → g j = some (rwA rs j)) ∧ w2 f = some (.inl (1, 64, fun _ => .long 0)) ∧ RO rs w2 ∧ rs.length = 65 ∧ (∀ y ∈ rs, w y.1 = none ∧ w y.2.1 = none) ∧ (w pq = none ∧ w f = none) ∧ ∀ i y, rs[i]? = some y → y.2.2 = if i < 64 then 8 else 272
def LGo (w : Wd) (lg sp t : Nat) (w2 : Wd) (pq f : Nat) (rs : Rs) : Prop := WE w w2 lg ∧ w2 lg = some (.inr (1, [.ref pq, .ref f, .ref (rwA rs 32), .ref (rwA rs 33), .ref (rwA rs 34), .ref sp, .ref t, .int 0, .int 0])) ∧ (∃ g : Nat → Option Nat, w2 pq = some (.inl (4, 32, fun j => va_rf (g j))) ∧ ∀ j, j < 32 → g j = some (rwA rs j)) ∧ w2 f = some (.inl (0, 8, fun _ => .int 0)) ∧ RO rs w2 ∧ rs.length = 35 ∧ (∀ y ∈ rs, w y.1 = none ∧ w y.2.1 = none) ∧ (w pq = none ∧ w f = none) ∧ ∀ i y, rs[i]? = some y → y.2.2 = if i < 33 then 8 else if i < 34 then 32 else 264
theorem RO.put {rs : Rs} {w : Wd} {o : Nat} {x y : Ce} (h : RO rs w) (ho : w o = some x) (h1 : ∀ r, x ≠ rowC r) (h2 : ∀ b, x ≠ arrC b) : RO rs (us w o y) := h.keep (o := o) WE.put (rs_ne h ho h1 h2)
theorem RO.new {rs : Rs} {w : Wd} {q : Nat} {y : Ce} (h : RO rs w) (hq : w q = none) : RO rs (us w q y) := h.keep (o := q) WE.put (fun z hz => ⟨fun e => (by have := (h.2 z hz).1; rw [e, hq] at this; cases this), fun e => (by have := (h.2 z hz).2; rw [e, hq] at this; cases this)⟩)
theorem cap_snoc {rs : Rs} {f : Nat → Nat} {y : Nat × Nat × Nat} (h : ∀ i z, rs[i]? = some z → z.2.2 = f i) (hy : y.2.2 = f rs.length) : ∀ i z, (rs ++ [y])[i]? = some z → z.2.2 = f i := by
  intro i z hz
  rcases Nat.lt_trichotomy i rs.length with hi | hi | hi
  · rw [List.getElem?_append_left hi] at hz
    exact h i z hz
  · subst hi
    rw [List.getElem?_append_right (Nat.le_refl _)] at hz
    simp at hz
    rw [← hz]
    exact hy
  · rw [List.getElem?_eq_none (by simp; omega)] at hz
    cases hz
section CINJ
variable {p : Program} {l : Launch} {e : Env} {s : State} {m : MethodId} {args : Array Value} {below : List Frame} {meth : Method} {c : Code} {R : Room} {G : Gd} {A : Nat → Prop} {Q : State → Prop} {k n : Nat} {w : Wd}
set_option maxRecDepth 4000 in
theorem e_sp (sp t : Nat) (hsp : w sp = some (.inr (3, [.null, .null, .null, .null, .int 0]))) : Ct 2 132 1042 yX3_init cX3_init 3 (none) G A [.ref sp, .ref t] (Hd G A w) (none) (fun H => ∃ μ : Wd × Nat × Nat × Rs, SPo w sp t μ.1 μ.2.1 μ.2.2.1 μ.2.2.2 ∧ Hd G A μ.1 H) := by
  refine Ct.of 1 rfl rfl (Nat.le_of_ble_eq_true rfl) ?_
  intro p l e s m below meth c hini
  refine k_aload_n (pc := 0) dX3_init_0 rfl ?_
  refine k_objInit gw_21 gw_14 gw_15 (pc := 1) dX3_init_1 (by decide) (by decide) ?_
  refine k_aload_n (pc := 4) dX3_init_4 rfl ?_
  refine k_aload_n (pc := 5) dX3_init_5 rfl ?_
  refine p_X3_9 (hini rfl) (pc := 6) dX3_init_6 hsp rfl rfl (Nat.le_of_ble_eq_true rfl) ?_
  refine k_aload_n (pc := 9) dX3_init_9 rfl ?_
  refine k_bipush (v := 64) (pc := 10) dX3_init_10 (by decide) ?_
  refine k_anew (t := 4) (N := 64) gw_22 (fun U h => h.2.2.2) rfl rfl (by decide) (by decide) (by decide) (by decide) (pc := 12) dX3_init_12 fun pq hpq => ?_
  have hps : pq ≠ sp := fun z => by rw [z, us_same] at hpq; cases hpq
  have hwp : w pq = none := by rw [us_ne _ _ hps] at hpq; exact hpq
  refine p_X3_17 (hini rfl) (pc := 15) dX3_init_15 (fs := [.null, .null, .ref t, .null, .int 0]) ((us_ne _ _ (Ne.symm hps)).trans (us_same _ _ _)) rfl rfl (Nat.le_of_ble_eq_true rfl) ?_
  have hL : LPr w sp 64 (fun z => .inr (3, [.ref z, .null, .ref t, .null, .int 0])) (us (us (us w sp (.inr (3, [.null, .null, .ref t, .null, .int 0]))) pq (.inl (4, 64, fun _ => .null))) sp (.inr (3, [.ref pq, .null, .ref t, .null, .int 0]))) pq [] :=
    ⟨WE.put.trans ((WE.new hpq).trans WE.put), us_same _ _ _, hwp, ⟨fun _ => none, by rw [us_ne _ _ hps, us_same]; rfl, fun j hj => by cases hj⟩, RO.nil, (fun y hy => (by cases hy)), (fun y hy => (by cases hy))⟩
  have loop : ∀ (j i : Nat) (w2 : Wd) (rs : Rs), i + j = 64 → rs.length = i → LPr w sp 64 (fun z => .inr (3, [.ref z, .null, .ref t, .null, .int 0])) w2 pq rs → K p l e s m ([.ref sp, .ref t] : List Value).toArray below meth c (rmm 2 132 1042) yX3_init.cls cX3_init 3 (none) G A (MQ below (Qd (none) (fun H => ∃ μ : Wd × Nat × Nat × Rs, SPo w sp t μ.1 μ.2.1 μ.2.2.1 μ.2.2.2 ∧ Hd G A μ.1 H) A) ([.ref sp, .ref t] : List Value).toArray s 132 1042 A) (1 + 2 * i) (64 + 10 * i) (Hd G A w2) 20 [some (.ref sp), some (.ref t), some (.int (nI i))] [] := by
    intro j
    induction j with
    | zero =>
      intro i w2 rs hi hrs hL
      have hi6 : i = 64 := by omega
      subst hi6
      obtain ⟨l1, l2, l3, ⟨g, l4, l5⟩, l6, l7, l8⟩ := hL
      refine k_iload_n (pc := 20) dX3_init_20 rfl ?_
      refine k_bipush (v := 64) (pc := 21) dX3_init_21 (by decide) ?_
      refine k_icmp_ge (tgt := 47) (pc := 23) dX3_init_23 (by decide) (fun _ => ?_) (fun c => absurd (by decide) c)
      refine k_aload_n (pc := 47) dX3_init_47 rfl ?_
      refine k_bipush (v := 64) (pc := 48) dX3_init_48 (by decide) ?_
      refine k_newa (atype := .long) (ty := .long) (t := 1) (N := 64) rfl gw_64 rfl mra_j rfl (by decide) (by decide) (by decide) (by decide) (pc := 50) dX3_init_50 fun f hf => ?_
      have hfs : f ≠ sp := fun z => by rw [z, l2] at hf; cases hf
      refine p_X3_24 (hini rfl) (pc := 52) dX3_init_52 (fs := [.ref pq, .null, .ref t, .null, .int 0]) ((us_ne _ _ (Ne.symm hfs)).trans l2) rfl rfl (Nat.le_of_ble_eq_true rfl) ?_
      have r3 : RO rs (us (us w2 f (.inl (1, 64, fun _ => .long 0))) sp (.inr (3, [.ref pq, .ref f, .ref t, .null, .int 0]))) := (l6.new hf).put ((us_ne _ _ (Ne.symm hfs)).trans l2) (fun r z => by cases z) (fun r z => by cases z)
      have e3 : WE w2 (us (us w2 f (.inl (1, 64, fun _ => .long 0))) sp (.inr (3, [.ref pq, .ref f, .ref t, .null, .int 0]))) sp := (WE.new hf).trans WE.put
      have s3 : us (us w2 f (.inl (1, 64, fun _ => .long 0))) sp (.inr (3, [.ref pq, .ref f, .ref t, .null, .int 0])) sp = some (.inr (3, [.ref pq, .ref f, .ref t, .null, .int 0])) := us_same _ _ _
      have f3 : us (us w2 f (.inl (1, 64, fun _ => .long 0))) sp (.inr (3, [.ref pq, .ref f, .ref t, .null, .int 0])) f = some (.inl (1, 64, fun _ => .long 0)) := by rw [us_ne _ _ hfs, us_same]
      refine k_I (I2 := Hd G A (us (us w2 f (.inl (1, 64, fun _ => .long 0))) sp (.inr (3, [.ref pq, .ref f, .ref t, .null, .int 0])))) (fun H hH => hH) ?_
      generalize us (us w2 f (.inl (1, 64, fun _ => .long 0))) sp (.inr (3, [.ref pq, .ref f, .ref t, .null, .int 0])) = w3 at r3 e3 s3 f3 ⊢
      refine k_aload_n (pc := 55) dX3_init_55 rfl ?_
      refine k_new (fs := [.null, .int 0]) tyX2 (ci := 2) rfl inX2 tyX2_ok gw_22 gw_24 gw_3 (by decide) (by decide) (by decide) (pc := 56) dX3_init_56 fun q hq => ?_
      refine k_dup (pc := 59) dX3_init_59 rfl ?_
      refine k_sipush (v := 272) (pc := 60) dX3_init_60 (by decide) ?_
      refine k_callI si_X3_21 (e_row q 272 (by decide)) (pc := 63) dX3_init_63 rfl rfl (Nat.le_of_ble_eq_true rfl) (by decide) (by decide) (by decide) (by decide) ?_
      refine k_ex fun r => ?_
      refine k_pure fun hr => ?_
      obtain ⟨hr, hrq⟩ := hr
      have hqs : q ≠ sp := fun z => by rw [z, s3] at hq; cases hq
      have hrs2 : r ≠ sp := fun z => by rw [z, s3] at hr; cases hr
      have s4 : us (us w3 q (rowC r)) r (arrC 272) sp = some (.inr (3, [.ref pq, .ref f, .ref t, .null, .int 0])) := by rw [us_ne _ _ (Ne.symm hrs2), us_ne _ _ (Ne.symm hqs)]; exact s3
      refine p_X3_28 (hini rfl) (pc := 66) dX3_init_66 (fs := [.ref pq, .ref f, .ref t, .null, .int 0]) s4 rfl rfl (Nat.le_of_ble_eq_true rfl) ?_
      have e5 : WE w3 (us (us (us w3 q (rowC r)) r (arrC 272)) sp (.inr (3, [.ref pq, .ref f, .ref t, .ref q, .int 0]))) sp := (WE.row hq hr).trans WE.put
      have r5 : RO (rs ++ [(q, r, 272)]) (us (us (us w3 q (rowC r)) r (arrC 272)) sp (.inr (3, [.ref pq, .ref f, .ref t, .ref q, .int 0]))) := (r3.add hq hr hrq).put s4 (fun r z => by cases z) (fun r z => by cases z)
      have s6 : us (us (us w3 q (rowC r)) r (arrC 272)) sp (.inr (3, [.ref pq, .ref f, .ref t, .ref q, .int 0])) sp = some (.inr (3, [.ref pq, .ref f, .ref t, .ref (rwA (rs ++ [(q, r, 272)]) 64), .int 0])) := by rw [us_same, show rwA (rs ++ [(q, r, 272)]) 64 = q from by rw [← hrs]; exact rwA_last]
      exact k_vret (pc := 69) dX3_init_69 (fun H hH => ⟨(us (us (us w3 q (rowC r)) r (arrC 272)) sp (.inr (3, [.ref pq, .ref f, .ref t, .ref q, .int 0])), pq, f, rs ++ [(q, r, 272)]), ⟨l1.trans (e3.trans e5), s6, ⟨g, e5 _ _ (e3 _ _ l4 hps) hps, fun j hj => (by rw [rwA_snoc (by omega)]; exact l5 j (by omega))⟩, e5 _ _ f3 hfs, r5, (by rw [List.length_append, hrs]; rfl), (fun y hy => (by
          rcases List.mem_append.mp hy with hy | hy
          · exact l8 y hy
          · simp at hy
            subst hy
            exact ⟨fresh_of (l1.trans e3) (by rw [s3]; simp) hq, fresh_of (l1.trans e3) (by rw [s3]; simp) hr⟩)), ⟨l3, fresh_of l1 (by rw [l2]; simp) hf⟩, cap_snoc (f := fun i => if i < 64 then 8 else 272) (fun i z hz => (by rw [l7 z (List.mem_of_getElem? hz)]; have := (List.getElem?_eq_some_iff.mp hz).1; rw [if_pos (by omega)])) (by rw [hrs]; rfl)⟩, hH⟩) (by decide) (by decide)
    | succ j ih =>
      intro i w2 rs hi hrs hL
      have hL0 := hL
      obtain ⟨l1, l2, l3, ⟨g, l4, l5⟩, l6, l7, l8⟩ := hL0
      refine k_iload_n (pc := 20) dX3_init_20 rfl ?_
      refine k_bipush (v := 64) (pc := 21) dX3_init_21 (by decide) ?_
      refine k_icmp_ge (tgt := 47) (pc := 23) dX3_init_23 (by decide) (fun c => absurd c (nI_ge (a := i) (b := 64) (by omega) (by decide))) (fun _ => ?_)
      refine k_aload_n (pc := 26) dX3_init_26 rfl ?_
      refine g_X3_17 (pc := 27) dX3_init_27 l2 rfl ?_
      refine k_iload_n (pc := 30) dX3_init_30 rfl ?_
      refine k_new (fs := [.null, .int 0]) tyX2 (ci := 2) rfl inX2 tyX2_ok gw_22 gw_24 gw_3 (by decide) (by show 1 + 2 * i + 1 ≤ 132; omega) (by show 64 + 10 * i + 2 ≤ 1042; omega) (pc := 31) dX3_init_31 fun q hq => ?_
      refine k_dup (pc := 34) dX3_init_34 rfl ?_
      refine k_bipush (v := 8) (pc := 35) dX3_init_35 (by decide) ?_
      refine k_callI si_X3_21 (e_row q 8 (by decide)) (pc := 37) dX3_init_37 rfl rfl (Nat.le_of_ble_eq_true rfl) (by decide) (by decide) (by show 1 + 2 * i + 1 + 1 ≤ 132; omega) (by show 64 + 10 * i + 2 + 8 ≤ 1042; omega) ?_
      refine k_ex fun r => ?_
      refine k_pure fun hr => ?_
      obtain ⟨hr, hrq⟩ := hr
      have hqp : q ≠ pq := fun z => by rw [z, l4] at hq; cases hq
      have hrp : r ≠ pq := fun z => by rw [z, l4] at hr; cases hr
      refine k_aast (t := 4) (ci := 2) rfl rfl (pc := 40) dX3_init_40 (g := g) (vs := [.ref r, .int 0]) (by rw [us_ne _ _ (Ne.symm hrp), us_ne _ _ (Ne.symm hqp)]; exact l4) (by rw [us_ne _ _ (Ne.symm hrq), us_same]; rfl) rfl (by omega) (by decide) ?_
      have hL2 := LPr.step hL (fun N f z => by cases z) l4 l5 hq hr hrq
      rw [hrs] at hL2
      have step := ih (i + 1) _ _ (by omega) (by rw [List.length_append, hrs]; rfl) hL2
      rw [show 1 + 2 * (i + 1) = 1 + 2 * i + 1 + 1 from by omega, show 64 + 10 * (i + 1) = 64 + 10 * i + 2 + 8 from by omega] at step
      refine k_iinc (pc := 41) dX3_init_41 rfl (nI_inc _) (by decide) rfl ?_
      refine k_goto (tgt := 20) (pc := 44) dX3_init_44 (by decide) ?_
      exact step
  refine k_iconst (v := 0) (pc := 18) dX3_init_18 (by decide) ?_
  refine k_istore_n (pc := 19) dX3_init_19 (by decide) rfl ?_
  exact loop 64 0 _ [] (by omega) rfl hL
set_option maxRecDepth 4000 in
theorem e_lg (lg sp t : Nat) (hlg : w lg = some (.inr (1, [.null, .null, .null, .null, .null, .null, .null, .int 0, .int 0]))) : Ct 2 72 670 yX1_init cX1_init 4 (none) G A [.ref lg, .ref sp, .ref t] (Hd G A w) (none) (fun H => ∃ μ : Wd × Nat × Nat × Rs, LGo w lg sp t μ.1 μ.2.1 μ.2.2.1 μ.2.2.2 ∧ Hd G A μ.1 H) := by
  refine Ct.of 1 rfl rfl (Nat.le_of_ble_eq_true rfl) ?_
  intro p l e s m below meth c hini
  refine k_aload_n (pc := 0) dX1_init_0 rfl ?_
  refine k_objInit gw_70 gw_14 gw_15 (pc := 1) dX1_init_1 (by decide) (by decide) ?_
  refine k_aload_n (pc := 4) dX1_init_4 rfl ?_
  refine k_aload_n (pc := 5) dX1_init_5 rfl ?_
  refine p_X1_9 (hini rfl) (pc := 6) dX1_init_6 hlg rfl rfl (Nat.le_of_ble_eq_true rfl) ?_
  refine k_aload_n (pc := 9) dX1_init_9 rfl ?_
  refine k_aload_n (pc := 10) dX1_init_10 rfl ?_
  refine p_X1_15 (hini rfl) (pc := 11) dX1_init_11 (us_same _ _ _) rfl rfl (Nat.le_of_ble_eq_true rfl) ?_
  rw [us_us]
  refine k_aload_n (pc := 14) dX1_init_14 rfl ?_
  refine k_bipush (v := 32) (pc := 15) dX1_init_15 (by decide) ?_
  refine k_anew (t := 4) (N := 32) gw_71 (fun U h => h.2.2.2) rfl rfl (by decide) (by decide) (by decide) (by decide) (pc := 17) dX1_init_17 fun pq hpq => ?_
  have hps : pq ≠ lg := fun z => by rw [z, us_same] at hpq; cases hpq
  have hwp : w pq = none := by rw [us_ne _ _ hps] at hpq; exact hpq
  refine p_X1_21 (hini rfl) (pc := 20) dX1_init_20 (fs := [.null, .null, .null, .null, .null, .ref sp, .ref t, .int 0, .int 0]) ((us_ne _ _ (Ne.symm hps)).trans (us_same _ _ _)) rfl rfl (Nat.le_of_ble_eq_true rfl) ?_
  have hL : LPr w lg 32 (fun z => .inr (1, [.ref z, .null, .null, .null, .null, .ref sp, .ref t, .int 0, .int 0])) (us (us (us w lg (.inr (1, [.null, .null, .null, .null, .null, .ref sp, .ref t, .int 0, .int 0]))) pq (.inl (4, 32, fun _ => .null))) lg (.inr (1, [.ref pq, .null, .null, .null, .null, .ref sp, .ref t, .int 0, .int 0]))) pq [] :=
    ⟨WE.put.trans ((WE.new hpq).trans WE.put), us_same _ _ _, hwp, ⟨fun _ => none, by rw [us_ne _ _ hps, us_same]; rfl, fun j hj => by cases hj⟩, RO.nil, (fun y hy => (by cases hy)), (fun y hy => (by cases hy))⟩
  have loop : ∀ (j i : Nat) (w2 : Wd) (rs : Rs), i + j = 32 → rs.length = i → LPr w lg 32 (fun z => .inr (1, [.ref z, .null, .null, .null, .null, .ref sp, .ref t, .int 0, .int 0])) w2 pq rs → K p l e s m ([.ref lg, .ref sp, .ref t] : List Value).toArray below meth c (rmm 2 72 670) yX1_init.cls cX1_init 4 (none) G A (MQ below (Qd (none) (fun H => ∃ μ : Wd × Nat × Nat × Rs, LGo w lg sp t μ.1 μ.2.1 μ.2.2.1 μ.2.2.2 ∧ Hd G A μ.1 H) A) ([.ref lg, .ref sp, .ref t] : List Value).toArray s 72 670 A) (1 + 2 * i) (32 + 10 * i) (Hd G A w2) 25 [some (.ref lg), some (.ref sp), some (.ref t), some (.int (nI i))] [] := by
    intro j
    induction j with
    | zero =>
      intro i w2 rs hi hrs hL
      have hi6 : i = 32 := by omega
      subst hi6
      obtain ⟨l1, l2, l3, ⟨g, l4, l5⟩, l6, l7, l8⟩ := hL
      refine k_iload_n (pc := 25) dX1_init_25 rfl ?_
      refine k_bipush (v := 32) (pc := 26) dX1_init_26 (by decide) ?_
      refine k_icmp_ge (tgt := 52) (pc := 28) dX1_init_28 (by decide) (fun _ => ?_) (fun c => absurd (by decide) c)
      refine k_aload_n (pc := 52) dX1_init_52 rfl ?_
      refine k_bipush (v := 8) (pc := 53) dX1_init_53 (by decide) ?_
      refine k_newa (atype := .int) (ty := .int) (t := 0) (N := 8) rfl gw_44 rfl mra_i rfl (by decide) (by decide) (by decide) (by decide) (pc := 55) dX1_init_55 fun f hf => ?_
      have hfs : f ≠ lg := fun z => by rw [z, l2] at hf; cases hf
      refine p_X1_28 (hini rfl) (pc := 57) dX1_init_57 (fs := [.ref pq, .null, .null, .null, .null, .ref sp, .ref t, .int 0, .int 0]) ((us_ne _ _ (Ne.symm hfs)).trans l2) rfl rfl (Nat.le_of_ble_eq_true rfl) ?_
      have r3 : RO rs (us (us w2 f (.inl (0, 8, fun _ => .int 0))) lg (.inr (1, [.ref pq, .ref f, .null, .null, .null, .ref sp, .ref t, .int 0, .int 0]))) := (l6.new hf).put ((us_ne _ _ (Ne.symm hfs)).trans l2) (fun r z => by cases z) (fun r z => by cases z)
      have e3 : WE w2 (us (us w2 f (.inl (0, 8, fun _ => .int 0))) lg (.inr (1, [.ref pq, .ref f, .null, .null, .null, .ref sp, .ref t, .int 0, .int 0]))) lg := (WE.new hf).trans WE.put
      have s3 : us (us w2 f (.inl (0, 8, fun _ => .int 0))) lg (.inr (1, [.ref pq, .ref f, .null, .null, .null, .ref sp, .ref t, .int 0, .int 0])) lg = some (.inr (1, [.ref pq, .ref f, .null, .null, .null, .ref sp, .ref t, .int 0, .int 0])) := us_same _ _ _
      have f3 : us (us w2 f (.inl (0, 8, fun _ => .int 0))) lg (.inr (1, [.ref pq, .ref f, .null, .null, .null, .ref sp, .ref t, .int 0, .int 0])) f = some (.inl (0, 8, fun _ => .int 0)) := by rw [us_ne _ _ hfs, us_same]
      refine k_I (I2 := Hd G A (us (us w2 f (.inl (0, 8, fun _ => .int 0))) lg (.inr (1, [.ref pq, .ref f, .null, .null, .null, .ref sp, .ref t, .int 0, .int 0])))) (fun H hH => hH) ?_
      generalize us (us w2 f (.inl (0, 8, fun _ => .int 0))) lg (.inr (1, [.ref pq, .ref f, .null, .null, .null, .ref sp, .ref t, .int 0, .int 0])) = w3 at r3 e3 s3 f3 ⊢
      refine k_aload_n (pc := 60) dX1_init_60 rfl ?_
      refine k_new (fs := [.null, .int 0]) tyX2 (ci := 2) rfl inX2 tyX2_ok gw_71 gw_24 gw_3 (by decide) (by decide) (by decide) (pc := 61) dX1_init_61 fun q hq => ?_
      refine k_dup (pc := 64) dX1_init_64 rfl ?_
      refine k_bipush (v := 8) (pc := 65) dX1_init_65 (by decide) ?_
      refine k_callI si_X1_25 (e_row q 8 (by decide)) (pc := 67) dX1_init_67 rfl rfl (Nat.le_of_ble_eq_true rfl) (by decide) (by decide) (by decide) (by decide) ?_
      refine k_ex fun r => ?_
      refine k_pure fun hr => ?_
      obtain ⟨hr, hrq⟩ := hr
      have hqs : q ≠ lg := fun z => by rw [z, s3] at hq; cases hq
      have hrs2 : r ≠ lg := fun z => by rw [z, s3] at hr; cases hr
      have s4 : us (us w3 q (rowC r)) r (arrC 8) lg = some (.inr (1, [.ref pq, .ref f, .null, .null, .null, .ref sp, .ref t, .int 0, .int 0])) := by rw [us_ne _ _ (Ne.symm hrs2), us_ne _ _ (Ne.symm hqs)]; exact s3
      refine p_X1_31 (pc := 70) dX1_init_70 (fs := [.ref pq, .ref f, .null, .null, .null, .ref sp, .ref t, .int 0, .int 0]) s4 rfl rfl (Nat.le_of_ble_eq_true rfl) ?_
      have e5 : WE w3 (us (us (us w3 q (rowC r)) r (arrC 8)) lg (.inr (1, [.ref pq, .ref f, .ref q, .null, .null, .ref sp, .ref t, .int 0, .int 0]))) lg := (WE.row hq hr).trans WE.put
      have r5 : RO (rs ++ [(q, r, 8)]) (us (us (us w3 q (rowC r)) r (arrC 8)) lg (.inr (1, [.ref pq, .ref f, .ref q, .null, .null, .ref sp, .ref t, .int 0, .int 0]))) := (r3.add hq hr hrq).put s4 (fun r z => by cases z) (fun r z => by cases z)
      have s5 : us (us (us w3 q (rowC r)) r (arrC 8)) lg (.inr (1, [.ref pq, .ref f, .ref q, .null, .null, .ref sp, .ref t, .int 0, .int 0])) lg = some (.inr (1, [.ref pq, .ref f, .ref q, .null, .null, .ref sp, .ref t, .int 0, .int 0])) := us_same _ _ _
      have l8q : w q = none := fresh_of (l1.trans e3) (by rw [s3]; simp) hq
      have l8r : w r = none := fresh_of (l1.trans e3) (by rw [s3]; simp) hr
      refine k_I (I2 := Hd G A (us (us (us w3 q (rowC r)) r (arrC 8)) lg (.inr (1, [.ref pq, .ref f, .ref q, .null, .null, .ref sp, .ref t, .int 0, .int 0])))) (fun H hH => hH) ?_
      generalize us (us (us w3 q (rowC r)) r (arrC 8)) lg (.inr (1, [.ref pq, .ref f, .ref q, .null, .null, .ref sp, .ref t, .int 0, .int 0])) = w5 at r5 e5 s5 ⊢
      refine k_aload_n (pc := 73) dX1_init_73 rfl ?_
      refine k_new (fs := [.null, .int 0]) tyX2 (ci := 2) rfl inX2 tyX2_ok gw_71 gw_24 gw_3 (by decide) (by decide) (by decide) (pc := 74) dX1_init_74 fun q1 hq1 => ?_
      refine k_dup (pc := 77) dX1_init_77 rfl ?_
      refine k_bipush (v := 32) (pc := 78) dX1_init_78 (by decide) ?_
      refine k_callI si_X1_25 (e_row q1 32 (by decide)) (pc := 80) dX1_init_80 rfl rfl (Nat.le_of_ble_eq_true rfl) (by decide) (by decide) (by decide) (by decide) ?_
      refine k_ex fun r1 => ?_
      refine k_pure fun hr1 => ?_
      obtain ⟨hr1, hrq1⟩ := hr1
      have hqs1 : q1 ≠ lg := fun z => by rw [z, s5] at hq1; cases hq1
      have hrs1 : r1 ≠ lg := fun z => by rw [z, s5] at hr1; cases hr1
      have s6 : us (us w5 q1 (rowC r1)) r1 (arrC 32) lg = some (.inr (1, [.ref pq, .ref f, .ref q, .null, .null, .ref sp, .ref t, .int 0, .int 0])) := by rw [us_ne _ _ (Ne.symm hrs1), us_ne _ _ (Ne.symm hqs1)]; exact s5
      refine p_X1_35 (hini rfl) (pc := 83) dX1_init_83 (fs := [.ref pq, .ref f, .ref q, .null, .null, .ref sp, .ref t, .int 0, .int 0]) s6 rfl rfl (Nat.le_of_ble_eq_true rfl) ?_
      have e7 : WE w5 (us (us (us w5 q1 (rowC r1)) r1 (arrC 32)) lg (.inr (1, [.ref pq, .ref f, .ref q, .ref q1, .null, .ref sp, .ref t, .int 0, .int 0]))) lg := (WE.row hq1 hr1).trans WE.put
      have r7 : RO (rs ++ [(q, r, 8)] ++ [(q1, r1, 32)]) (us (us (us w5 q1 (rowC r1)) r1 (arrC 32)) lg (.inr (1, [.ref pq, .ref f, .ref q, .ref q1, .null, .ref sp, .ref t, .int 0, .int 0]))) := (r5.add hq1 hr1 hrq1).put s6 (fun r z => by cases z) (fun r z => by cases z)
      have s7 : us (us (us w5 q1 (rowC r1)) r1 (arrC 32)) lg (.inr (1, [.ref pq, .ref f, .ref q, .ref q1, .null, .ref sp, .ref t, .int 0, .int 0])) lg = some (.inr (1, [.ref pq, .ref f, .ref q, .ref q1, .null, .ref sp, .ref t, .int 0, .int 0])) := us_same _ _ _
      have l8q1 : w q1 = none := fresh_of (l1.trans (e3.trans e5)) (by rw [s5]; simp) hq1
      have l8r1 : w r1 = none := fresh_of (l1.trans (e3.trans e5)) (by rw [s5]; simp) hr1
      refine k_I (I2 := Hd G A (us (us (us w5 q1 (rowC r1)) r1 (arrC 32)) lg (.inr (1, [.ref pq, .ref f, .ref q, .ref q1, .null, .ref sp, .ref t, .int 0, .int 0])))) (fun H hH => hH) ?_
      generalize us (us (us w5 q1 (rowC r1)) r1 (arrC 32)) lg (.inr (1, [.ref pq, .ref f, .ref q, .ref q1, .null, .ref sp, .ref t, .int 0, .int 0])) = w7 at r7 e7 s7 ⊢
      refine k_aload_n (pc := 86) dX1_init_86 rfl ?_
      refine k_new (fs := [.null, .int 0]) tyX2 (ci := 2) rfl inX2 tyX2_ok gw_71 gw_24 gw_3 (by decide) (by decide) (by decide) (pc := 87) dX1_init_87 fun q2 hq2 => ?_
      refine k_dup (pc := 90) dX1_init_90 rfl ?_
      refine k_sipush (v := 264) (pc := 91) dX1_init_91 (by decide) ?_
      refine k_callI si_X1_25 (e_row q2 264 (by decide)) (pc := 94) dX1_init_94 rfl rfl (Nat.le_of_ble_eq_true rfl) (by decide) (by decide) (by decide) (by decide) ?_
      refine k_ex fun r2 => ?_
      refine k_pure fun hr2 => ?_
      obtain ⟨hr2, hrq2⟩ := hr2
      have hqs2 : q2 ≠ lg := fun z => by rw [z, s7] at hq2; cases hq2
      have hrs3 : r2 ≠ lg := fun z => by rw [z, s7] at hr2; cases hr2
      have s8 : us (us w7 q2 (rowC r2)) r2 (arrC 264) lg = some (.inr (1, [.ref pq, .ref f, .ref q, .ref q1, .null, .ref sp, .ref t, .int 0, .int 0])) := by rw [us_ne _ _ (Ne.symm hrs3), us_ne _ _ (Ne.symm hqs2)]; exact s7
      refine p_X1_38 (hini rfl) (pc := 97) dX1_init_97 (fs := [.ref pq, .ref f, .ref q, .ref q1, .null, .ref sp, .ref t, .int 0, .int 0]) s8 rfl rfl (Nat.le_of_ble_eq_true rfl) ?_
      have e9 : WE w7 (us (us (us w7 q2 (rowC r2)) r2 (arrC 264)) lg (.inr (1, [.ref pq, .ref f, .ref q, .ref q1, .ref q2, .ref sp, .ref t, .int 0, .int 0]))) lg := (WE.row hq2 hr2).trans WE.put
      have r9 : RO (rs ++ [(q, r, 8)] ++ [(q1, r1, 32)] ++ [(q2, r2, 264)]) (us (us (us w7 q2 (rowC r2)) r2 (arrC 264)) lg (.inr (1, [.ref pq, .ref f, .ref q, .ref q1, .ref q2, .ref sp, .ref t, .int 0, .int 0]))) := (r7.add hq2 hr2 hrq2).put s8 (fun r z => by cases z) (fun r z => by cases z)
      have l8q2 : w q2 = none := fresh_of (l1.trans (e3.trans (e5.trans e7))) (by rw [s7]; simp) hq2
      have l8r2 : w r2 = none := fresh_of (l1.trans (e3.trans (e5.trans e7))) (by rw [s7]; simp) hr2
      have n1 : (rs ++ [(q, r, 8)]).length = 33 := by rw [List.length_append, hrs]; rfl
      have n2 : (rs ++ [(q, r, 8)] ++ [(q1, r1, 32)]).length = 34 := by rw [List.length_append, n1]; rfl
      have a2 : rwA (rs ++ [(q, r, 8)] ++ [(q1, r1, 32)] ++ [(q2, r2, 264)]) 34 = q2 := by rw [← n2]; exact rwA_last
      have a1 : rwA (rs ++ [(q, r, 8)] ++ [(q1, r1, 32)] ++ [(q2, r2, 264)]) 33 = q1 := by rw [rwA_snoc (by omega), ← n1]; exact rwA_last
      have a0 : rwA (rs ++ [(q, r, 8)] ++ [(q1, r1, 32)] ++ [(q2, r2, 264)]) 32 = q := by rw [rwA_snoc (by omega), rwA_snoc (by omega), ← hrs]; exact rwA_last
      have ej : ∀ j, j < 32 → rwA (rs ++ [(q, r, 8)] ++ [(q1, r1, 32)] ++ [(q2, r2, 264)]) j = rwA rs j := fun j hj => by rw [rwA_snoc (by omega), rwA_snoc (by omega), rwA_snoc (by omega)]
      have hcp : ∀ i y, (rs ++ [(q, r, 8)] ++ [(q1, r1, 32)] ++ [(q2, r2, 264)])[i]? = some y → y.2.2 = if i < 33 then 8 else if i < 34 then 32 else 264 := by
        refine cap_snoc (cap_snoc (cap_snoc (f := fun i => if i < 33 then 8 else if i < 34 then 32 else 264) (fun i z hz => ?_) (by rw [hrs]; rfl)) (by rw [n1]; rfl)) (by rw [n2]; rfl)
        rw [l7 z (List.mem_of_getElem? hz)]
        have := (List.getElem?_eq_some_iff.mp hz).1
        rw [if_pos (by omega)]
      have hfr : ∀ y ∈ rs ++ [(q, r, 8)] ++ [(q1, r1, 32)] ++ [(q2, r2, 264)], w y.1 = none ∧ w y.2.1 = none := by
        intro y hy
        rcases List.mem_append.mp hy with hy | hy
        · rcases List.mem_append.mp hy with hy | hy
          · rcases List.mem_append.mp hy with hy | hy
            · exact l8 y hy
            · simp at hy; subst hy; exact ⟨l8q, l8r⟩
          · simp at hy; subst hy; exact ⟨l8q1, l8r1⟩
        · simp at hy; subst hy; exact ⟨l8q2, l8r2⟩
      have e39 := e3.trans (e5.trans (e7.trans e9))
      have e59 := e5.trans (e7.trans e9)
      have s9 : us (us (us w7 q2 (rowC r2)) r2 (arrC 264)) lg (.inr (1, [.ref pq, .ref f, .ref q, .ref q1, .ref q2, .ref sp, .ref t, .int 0, .int 0])) lg = some (.inr (1, [.ref pq, .ref f, .ref (rwA (rs ++ [(q, r, 8)] ++ [(q1, r1, 32)] ++ [(q2, r2, 264)]) 32), .ref (rwA (rs ++ [(q, r, 8)] ++ [(q1, r1, 32)] ++ [(q2, r2, 264)]) 33), .ref (rwA (rs ++ [(q, r, 8)] ++ [(q1, r1, 32)] ++ [(q2, r2, 264)]) 34), .ref sp, .ref t, .int 0, .int 0])) := by rw [us_same, a0, a1, a2]
      exact k_vret (pc := 100) dX1_init_100 (fun H hH => ⟨(us (us (us w7 q2 (rowC r2)) r2 (arrC 264)) lg (.inr (1, [.ref pq, .ref f, .ref q, .ref q1, .ref q2, .ref sp, .ref t, .int 0, .int 0])), pq, f, rs ++ [(q, r, 8)] ++ [(q1, r1, 32)] ++ [(q2, r2, 264)]), ⟨l1.trans e39, s9, ⟨g, e39 _ _ l4 hps, fun j hj => (by rw [ej j hj]; exact l5 j (by omega))⟩, e59 _ _ f3 hfs, r9, (by rw [List.length_append, n2]; rfl), hfr, ⟨l3, fresh_of l1 (by rw [l2]; simp) hf⟩, hcp⟩, hH⟩) (by decide) (by decide)
    | succ j ih =>
      intro i w2 rs hi hrs hL
      have hL0 := hL
      obtain ⟨l1, l2, l3, ⟨g, l4, l5⟩, l6, l7, l8⟩ := hL0
      refine k_iload_n (pc := 25) dX1_init_25 rfl ?_
      refine k_bipush (v := 32) (pc := 26) dX1_init_26 (by decide) ?_
      refine k_icmp_ge (tgt := 52) (pc := 28) dX1_init_28 (by decide) (fun c => absurd c (nI_ge (a := i) (b := 32) (by omega) (by decide))) (fun _ => ?_)
      refine k_aload_n (pc := 31) dX1_init_31 rfl ?_
      refine g_X1_21 (pc := 32) dX1_init_32 l2 rfl ?_
      refine k_iload_n (pc := 35) dX1_init_35 rfl ?_
      refine k_new (fs := [.null, .int 0]) tyX2 (ci := 2) rfl inX2 tyX2_ok gw_71 gw_24 gw_3 (by decide) (by show 1 + 2 * i + 1 ≤ 72; omega) (by show 32 + 10 * i + 2 ≤ 670; omega) (pc := 36) dX1_init_36 fun q hq => ?_
      refine k_dup (pc := 39) dX1_init_39 rfl ?_
      refine k_bipush (v := 8) (pc := 40) dX1_init_40 (by decide) ?_
      refine k_callI si_X1_25 (e_row q 8 (by decide)) (pc := 42) dX1_init_42 rfl rfl (Nat.le_of_ble_eq_true rfl) (by decide) (by decide) (by show 1 + 2 * i + 1 + 1 ≤ 72; omega) (by show 32 + 10 * i + 2 + 8 ≤ 670; omega) ?_
      refine k_ex fun r => ?_
      refine k_pure fun hr => ?_
      obtain ⟨hr, hrq⟩ := hr
      have hqp : q ≠ pq := fun z => by rw [z, l4] at hq; cases hq
      have hrp : r ≠ pq := fun z => by rw [z, l4] at hr; cases hr
      refine k_aast (t := 4) (ci := 2) rfl rfl (pc := 45) dX1_init_45 (g := g) (vs := [.ref r, .int 0]) (by rw [us_ne _ _ (Ne.symm hrp), us_ne _ _ (Ne.symm hqp)]; exact l4) (by rw [us_ne _ _ (Ne.symm hrq), us_same]; rfl) rfl (by omega) (by decide) ?_
      have hL2 := LPr.step hL (fun N f z => by cases z) l4 l5 hq hr hrq
      rw [hrs] at hL2
      have step := ih (i + 1) _ _ (by omega) (by rw [List.length_append, hrs]; rfl) hL2
      rw [show 1 + 2 * (i + 1) = 1 + 2 * i + 1 + 1 from by omega, show 32 + 10 * (i + 1) = 32 + 10 * i + 2 + 8 from by omega] at step
      refine k_iinc (pc := 46) dX1_init_46 rfl (nI_inc _) (by decide) rfl ?_
      refine k_goto (tgt := 25) (pc := 49) dX1_init_49 (by decide) ?_
      exact step
  refine k_iconst (v := 0) (pc := 23) dX1_init_23 (by decide) ?_
  refine k_istore_n (pc := 24) dX1_init_24 (by decide) rfl ?_
  exact loop 32 0 _ [] (by omega) rfl hL
end CINJ
