def sg0 (g : Nat → Nat) (o : Nat) : CS := (fun _ => false, fun _ => false, fun _ => [], fun _ => 0, fun _ => 0, fun _ => 0, g, o, 0, 0, 0, false, (0, 0, 0))
def adF (x sp lg t pq f rg wr : Nat) (rs : Rs) (j : Nat) : Nat := if j < 8 then [x, sp, lg, t, pq, f, rg, wr].getD j 0 else rwA rs (ixR j)
/-- the bounds of the rows -/
def CPs (ad cap : Nat → Nat) (g : Nat → Nat) (o : Nat) : Prop := (∀ s, s < 64 → cap (ad (11 + s)) = 8) ∧ cap (ad 8) = 272 ∧ cap (ad 9) = 264 ∧ cap (ad 10) = 32 ∧ (∀ j, j < 32 → cap (g j) = 8) ∧ cap o = 8
def C00 (x : Nat) (ad ar ow cap kd g : Nat → Nat) (o : Nat) : Prop := CSt ad ar ow cap kd ∧ CWF ad kd (sg0 g o) ∧ CPs ad cap g o ∧ ad 0 = x ∧ ∀ a, kd a ≠ 1
theorem LAy.cap {w : Wd} {rs : Rs} {ad : Nat → Nat} (h : LAy w rs ad) {i : Nat} (hi : i < 100) {b : Nat} (hb : ∀ y, rs[i]? = some y → y.2.2 = b) : capL rs (rwA rs i) = b := by
  obtain ⟨k1, k2⟩ := rwA_mem (rs := rs) (i := i) (by rw [h.2.1]; exact hi)
  unfold capL
  rw [k2, find_row h.1.rows k1]
  exact hb _ (List.getElem?_eq_getElem (by rw [h.2.1]; exact hi))
def capX (i : Nat) : Nat := if i < 64 then 8 else if i < 65 then 272 else if i < 98 then 8 else if i < 99 then 32 else 264
theorem LAy.c00 {w : Wd} {rs : Rs} {ad : Nat → Nat} (h : LAy w rs ad) (hc : ∀ i y, rs[i]? = some y → y.2.2 = capX i) : C00 (ad 0) ad (arL rs) (owL rs) (capL rs) (kdL rs ad) (fun j => rwA rs (65 + j)) (rwA rs 97) := by
  have hk : ∀ i, i < 100 → kdL rs ad (rwA rs i) = 2 := fun i hi => by
    obtain ⟨k1, k2⟩ := rwA_mem (rs := rs) (i := i) (by rw [h.2.1]; exact hi)
    rw [LAy.kd2, k2]
    exact List.mem_map_of_mem k1
  have hinj : ∀ i j, i < 100 → j < 100 → rwA rs i = rwA rs j → i = j := fun i j hi hj he => rwA_inj h.1 (by rw [h.2.1]; exact hi) (by rw [h.2.1]; exact hj) he
  have hcap : ∀ i, i < 100 → capL rs (rwA rs i) = capX i := fun i hi => h.cap hi (hc i)
  have hix : ∀ i, 8 ≤ i → i < 75 → ixR i < 65 ∨ ixR i = 98 ∨ ixR i = 99 := fun i h8 hi => by
    unfold ixR
    (repeat' split) <;> omega
  refine ⟨h.cst, ⟨⟨fun r _ a ha => (by cases ha), fun r _ _ ha => (by cases ha)⟩, fun j hj => hk _ (by omega), hk _ (by omega), (show 0 < 8 by decide), fun j => Nat.zero_le _, fun j hj i h8 hi he => ?_, fun i h8 hi he => ?_, fun j hj he => ?_, fun i j hi hj he => ?_⟩, ⟨fun s hs => ?_, ?_, ?_, ?_, fun j hj => ?_, ?_⟩, rfl, fun a ha => ?_⟩
  · rw [h.2.2.2.2 i h8 hi] at he
    have h1 := hinj _ _ (by omega) (LAy.ix h8 hi) he
    have h2 := hix i h8 hi
    omega
  · rw [h.2.2.2.2 i h8 hi] at he
    have h1 := hinj _ _ (by omega) (LAy.ix h8 hi) he
    have h2 := hix i h8 hi
    omega
  · have h1 := hinj _ _ (by omega) (by omega) he
    omega
  · have h1 := hinj _ _ (by omega) (by omega) he
    omega
  · rw [h.2.2.2.2 _ (by omega) (by omega), ixR_ad, hcap s (by omega)]
    unfold capX
    rw [if_pos hs]
  · rw [h.2.2.2.2 _ (by omega) (by omega), hcap _ (by decide)]
    rfl
  · rw [h.2.2.2.2 _ (by omega) (by omega), hcap _ (by decide)]
    rfl
  · rw [h.2.2.2.2 _ (by omega) (by omega), hcap _ (by decide)]
    rfl
  · rw [hcap _ (by omega)]
    unfold capX
    rw [if_neg (by omega), if_neg (by omega), if_pos (by omega)]
  · rw [hcap _ (by omega)]
    rfl
  · unfold kdL at ha
    split at ha
    · omega
    · split at ha
      · omega
      · split at ha
        · omega
        · omega
theorem RO.app {rs rs' : Rs} {w0 w : Wd} (h : RO rs w) (h0 : ∀ y ∈ rs, w0 y.1 ≠ none ∧ w0 y.2.1 ≠ none) (h' : RO rs' w) (h1 : ∀ y ∈ rs', w0 y.1 = none ∧ w0 y.2.1 = none) : RO (rs ++ rs') w := by
  refine ⟨?_, fun y hy => ?_⟩
  · have d1 : ∀ y ∈ rs, ∀ z ∈ rs', y.1 ≠ z.1 ∧ y.1 ≠ z.2.1 ∧ y.2.1 ≠ z.1 ∧ y.2.1 ≠ z.2.1 := fun y hy z hz => by
      obtain ⟨a1, a2⟩ := h0 y hy
      obtain ⟨b1, b2⟩ := h1 z hz
      exact ⟨fun e => a1 (e ▸ b1), fun e => a1 (e ▸ b2), fun e => a2 (e ▸ b1), fun e => a2 (e ▸ b2)⟩
    rw [List.map_append, List.map_append, List.nodup_append, List.nodup_append, List.nodup_append]
    refine ⟨⟨h.rows, h'.rows, fun a ha b hb => ?_⟩, ⟨h.arrs, h'.arrs, fun a ha b hb => ?_⟩, fun a ha b hb => ?_⟩
    · obtain ⟨y, hy, rfl⟩ := List.mem_map.mp ha
      obtain ⟨z, hz, rfl⟩ := List.mem_map.mp hb
      exact (d1 y hy z hz).1
    · obtain ⟨y, hy, rfl⟩ := List.mem_map.mp ha
      obtain ⟨z, hz, rfl⟩ := List.mem_map.mp hb
      exact (d1 y hy z hz).2.2.2
    · rcases List.mem_append.mp ha with ha | ha <;> rcases List.mem_append.mp hb with hb | hb <;> obtain ⟨y, hy, rfl⟩ := List.mem_map.mp ha <;> obtain ⟨z, hz, rfl⟩ := List.mem_map.mp hb
      · exact h.dis hy hz
      · exact (d1 y hy z hz).2.1
      · exact Ne.symm (d1 z hz y hy).2.2.1
      · exact h'.dis hy hz
  · rcases List.mem_append.mp hy with hy | hy
    · exact h.2 y hy
    · exact h'.2 y hy
theorem rwA_app1 {rs rs' : Rs} {j : Nat} (h : j < rs.length) : rwA (rs ++ rs') j = rwA rs j := by
  unfold rwA
  rw [List.getElem?_append_left h]
theorem rwA_app2 {rs rs' : Rs} {j : Nat} : rwA (rs ++ rs') (rs.length + j) = rwA rs' j := by
  unfold rwA
  rw [List.getElem?_append_right (by omega), Nat.add_sub_cancel_left]
section CINK
variable {p : Program} {l : Launch} {e : Env} {s : State} {m : MethodId} {args : Array Value} {below : List Frame} {meth : Method} {c : Code} {R : Room} {G : Gd} {A : Nat → Prop} {Q : State → Prop} {k n : Nat} {w : Wd}
/-- from the made world to the class's picture -/
theorem LAy.ch {H : Heap} {rs : Rs} {x sp lg t pq f rg wr : Nat} {it : Nat → Da} (h : LAy w rs (adF x sp lg t pq f rg wr rs))
    (hx : w x = some (.inr (4, [.ref t, .ref sp, .ref lg, .int 0, .int 0, .int 0, .int 0])))
    (hsp : w sp = some (.inr (3, [.ref pq, .ref f, .ref t, .ref (rwA rs 64), .int 0])))
    (hlg : w lg = some (.inr (1, [.ref rg, .ref wr, .ref (rwA rs 97), .ref (rwA rs 98), .ref (rwA rs 99), .ref sp, .ref t, .int 0, .int 0])))
    (ht : w t = some (.inl (0, 12, fun _ => .int 0)))
    (hpq : ∃ g : Nat → Option Nat, w pq = some (.inl (4, 64, fun j => va_rf (g j))) ∧ ∀ j, j < 64 → g j = some (rwA rs j))
    (hf : w f = some (.inl (1, 64, fun _ => .long 0)))
    (hrg : ∃ g : Nat → Option Nat, w rg = some (.inl (4, 32, fun j => va_rf (g j))) ∧ ∀ j, j < 32 → g j = some (rwA rs (65 + j)))
    (hwr : w wr = some (.inl (0, 8, fun _ => .int 0)))
    (hH : Hd G A w H) : CH G A (adF x sp lg t pq f rg wr rs) (arL rs) (owL rs) (capL rs) (kdL rs (adF x sp lg t pq f rg wr rs)) it (sg0 (fun j => rwA rs (65 + j)) (rwA rs 97)) H := by
  refine ⟨(fun _ => 0, fun _ _ => none), fun r _ => ⟨rfl, Nat.zero_le _, fun j x hx => by have hx : ([] : List (Option Nat))[j]? = some x := hx; simp at hx⟩, ?_⟩
  have hst := h.cst
  have hrow : ∀ j, 8 ≤ j → adF x sp lg t pq f rg wr rs j = rwA rs (ixR j) := fun j h8 => by unfold adF; rw [if_neg (by omega)]
  refine hH.ext fun a y hy => ?_
  have hcase : kdL rs (adF x sp lg t pq f rg wr rs) a = 2 ∨ kdL rs (adF x sp lg t pq f rg wr rs) a = 3 ∨ (∃ j, j < 8 ∧ kdL rs (adF x sp lg t pq f rg wr rs) a = 4 + j) ∨ kdL rs (adF x sp lg t pq f rg wr rs) a = 0 := by
    unfold kdL
    split
    · exact Or.inl rfl
    · split
      · exact Or.inr (Or.inl rfl)
      · split
        · next j hj => exact Or.inr (Or.inr (Or.inl ⟨j, List.mem_range.mp (List.mem_of_find?_eq_some hj), rfl⟩))
        · exact Or.inr (Or.inr (Or.inr rfl))
  rcases hcase with hk | hk | ⟨j, hj, hk⟩ | hk
  · rw [cw_at hk] at hy
    obtain ⟨z, hz, rfl⟩ := List.mem_map.mp (LAy.kd2.mp hk)
    have ea : arL rs z.1 = z.2.1 := by unfold arL; rw [find_row h.1.rows hz]; rfl
    simp only [cwk, ea] at hy
    exact ⟨_, (h.1.2 z hz).1, Or.inl (Option.some.inj hy)⟩
  · rw [cw_at hk] at hy
    obtain ⟨z, hz, rfl⟩ := List.mem_map.mp (h.kd3.mp hk)
    have eo : owL rs z.2.1 = z.1 := by unfold owL; rw [find_arr h.1.arrs hz]; rfl
    have ec : capL rs z.1 = z.2.2 := by unfold capL; rw [find_row h.1.rows hz]; rfl
    simp only [cwk, eo, ec] at hy
    exact ⟨_, (h.1.2 z hz).2, Or.inl (Option.some.inj hy)⟩
  · have ha := (h.kd8 hj a).mp hk
    rw [cw_at hk] at hy
    subst ha
    obtain ⟨g1, p1, p2⟩ := hpq
    obtain ⟨g2, q1, q2⟩ := hrg
    have : j = 0 ∨ j = 1 ∨ j = 2 ∨ j = 3 ∨ j = 4 ∨ j = 5 ∨ j = 6 ∨ j = 7 := by omega
    rcases this with rfl | rfl | rfl | rfl | rfl | rfl | rfl | rfl
    · exact ⟨_, hx, Or.inl (Option.some.inj hy)⟩
    · exact ⟨_, hsp, Or.inl (Option.some.inj hy)⟩
    · exact ⟨_, hlg, Or.inl (Option.some.inj hy)⟩
    · exact ⟨_, ht, Or.inl (Option.some.inj hy)⟩
    · exact ⟨_, p1, Or.inr ⟨_, _, _, _, rfl, (Option.some.inj hy).symm, fun i hi => by
        show va_rf (g1 i) = va_rf (some (adF x sp lg t pq f rg wr rs (11 + i)))
        rw [p2 i hi, hrow _ (by omega), ixR_ad]⟩⟩
    · exact ⟨_, hf, Or.inl (Option.some.inj hy)⟩
    · exact ⟨_, q1, Or.inr ⟨_, _, _, _, rfl, (Option.some.inj hy).symm, fun i hi => by
        show va_rf (g2 i) = va_rf (some (rwA rs (65 + i)))
        rw [q2 i hi]⟩⟩
    · exact ⟨_, hwr, Or.inl (Option.some.inj hy)⟩
  · rw [cw_at hk] at hy
    cases hy
set_option maxRecDepth 4000 in
theorem e_init (x : Nat) (it : Nat → Da) (hx : w x = some (.inr (4, [.null, .null, .null, .int 0, .int 0, .int 0, .int 0]))) : Ct 3 207 1738 yX4_init cX4_init 1 (none) G A [.ref x] (Hd G A w) (none) (fun H => ∃ μ : (Nat → Nat) × (Nat → Nat) × (Nat → Nat) × (Nat → Nat) × (Nat → Nat) × (Nat → Nat) × Nat, C00 x μ.1 μ.2.1 μ.2.2.1 μ.2.2.2.1 μ.2.2.2.2.1 μ.2.2.2.2.2.1 μ.2.2.2.2.2.2 ∧ CH G A μ.1 μ.2.1 μ.2.2.1 μ.2.2.2.1 μ.2.2.2.2.1 it (sg0 μ.2.2.2.2.2.1 μ.2.2.2.2.2.2) H) := by
  refine Ct.of 0 rfl rfl (Nat.le_of_ble_eq_true rfl) ?_
  intro p l e s m below meth c hini
  refine k_aload_n (pc := 0) dX4_init_0 rfl ?_
  refine k_objInit gw_13 gw_14 gw_15 (pc := 1) dX4_init_1 (by decide) (by decide) ?_
  refine k_aload_n (pc := 4) dX4_init_4 rfl ?_
  refine k_bipush (v := 12) (pc := 5) dX4_init_5 (by decide) ?_
  refine k_newa (atype := .int) (ty := .int) (t := 0) (N := 12) rfl gw_44 rfl mra_i rfl (by decide) (by decide) (by decide) (by decide) (pc := 7) dX4_init_7 fun t ht => ?_
  have htx : t ≠ x := fun z => by rw [z, hx] at ht; cases ht
  refine p_X4_9 (hini rfl) (pc := 9) dX4_init_9 (fs := [.null, .null, .null, .int 0, .int 0, .int 0, .int 0]) ((us_ne _ _ (Ne.symm htx)).trans hx) rfl rfl (Nat.le_of_ble_eq_true rfl) ?_
  have s2 : us (us w t (.inl (0, 12, fun _ => .int 0))) x (.inr (4, [.ref t, .null, .null, .int 0, .int 0, .int 0, .int 0])) x = some (.inr (4, [.ref t, .null, .null, .int 0, .int 0, .int 0, .int 0])) := us_same _ _ _
  have t2 : us (us w t (.inl (0, 12, fun _ => .int 0))) x (.inr (4, [.ref t, .null, .null, .int 0, .int 0, .int 0, .int 0])) t = some (.inl (0, 12, fun _ => .int 0)) := by rw [us_ne _ _ htx, us_same]
  refine k_I (I2 := Hd G A (us (us w t (.inl (0, 12, fun _ => .int 0))) x (.inr (4, [.ref t, .null, .null, .int 0, .int 0, .int 0, .int 0])))) (fun H hH => hH) ?_
  generalize us (us w t (.inl (0, 12, fun _ => .int 0))) x (.inr (4, [.ref t, .null, .null, .int 0, .int 0, .int 0, .int 0])) = w2 at s2 t2 ⊢
  refine k_aload_n (pc := 12) dX4_init_12 rfl ?_
  refine k_new (fs := [.null, .null, .null, .null, .int 0]) tyX3 (ci := 3) rfl inX3 tyX3_ok gw_16 gw_17 gw_2 (by decide) (by decide) (by decide) (pc := 13) dX4_init_13 fun sp hsp => ?_
  have hsx : sp ≠ x := fun z => by rw [z, s2] at hsp; cases hsp
  have e3 : WE w2 (us w2 sp (.inr (3, [.null, .null, .null, .null, .int 0]))) x := WE.new hsp
  have p3 : us w2 sp (.inr (3, [.null, .null, .null, .null, .int 0])) sp = some (.inr (3, [.null, .null, .null, .null, .int 0])) := us_same _ _ _
  have s3 : us w2 sp (.inr (3, [.null, .null, .null, .null, .int 0])) x = some (.inr (4, [.ref t, .null, .null, .int 0, .int 0, .int 0, .int 0])) := by rw [us_ne _ _ (Ne.symm hsx)]; exact s2
  have t3 := e3 _ _ t2 htx
  generalize us w2 sp (.inr (3, [.null, .null, .null, .null, .int 0])) = w3 at e3 p3 s3 t3 ⊢
  refine k_dup (pc := 16) dX4_init_16 rfl ?_
  refine k_aload_n (pc := 17) dX4_init_17 rfl ?_
  refine g_X4_9 (pc := 18) dX4_init_18 s3 rfl ?_
  refine k_callI si_X4_15 (e_sp sp t p3) (pc := 21) dX4_init_21 rfl rfl (Nat.le_of_ble_eq_true rfl) (by decide) (by decide) (by decide) (by decide) ?_
  refine k_ex fun μ => ?_
  refine k_pure fun hS => ?_
  obtain ⟨w4, pq, f, rsS⟩ := μ
  obtain ⟨g1, g2, ⟨gp, g3, g3b⟩, g4, g5, g6, g7, g8, g9⟩ := hS
  dsimp only at g1 g2 g3 g3b g4 g5 g6 g7 g8 g9 ⊢
  have s4 := g1 _ _ s3 (Ne.symm hsx)
  refine p_X4_18 (hini rfl) (pc := 24) dX4_init_24 (fs := [.ref t, .null, .null, .int 0, .int 0, .int 0, .int 0]) s4 rfl rfl (Nat.le_of_ble_eq_true rfl) ?_
  have hts : t ≠ sp := fun z => by rw [z, p3] at t3; cases t3
  have hpx : pq ≠ x := fun z => by rw [z, s4] at g3; cases g3
  have hfx : f ≠ x := fun z => by rw [z, s4] at g4; cases g4
  have e5 : WE w4 (us w4 x (.inr (4, [.ref t, .ref sp, .null, .int 0, .int 0, .int 0, .int 0]))) x := WE.put
  have s5 : us w4 x (.inr (4, [.ref t, .ref sp, .null, .int 0, .int 0, .int 0, .int 0])) x = some (.inr (4, [.ref t, .ref sp, .null, .int 0, .int 0, .int 0, .int 0])) := us_same _ _ _
  have t5 := e5 _ _ (g1 _ _ t3 hts) htx
  have p5 := e5 _ _ g2 hsx
  have q5 := e5 _ _ g3 hpx
  have f5 := e5 _ _ g4 hfx
  have r5 : RO rsS (us w4 x (.inr (4, [.ref t, .ref sp, .null, .int 0, .int 0, .int 0, .int 0]))) := g5.put s4 (fun r z => by cases z) (fun r z => by cases z)
  refine k_I (I2 := Hd G A (us w4 x (.inr (4, [.ref t, .ref sp, .null, .int 0, .int 0, .int 0, .int 0])))) (fun H hH => hH) ?_
  generalize us w4 x (.inr (4, [.ref t, .ref sp, .null, .int 0, .int 0, .int 0, .int 0])) = w5 at e5 s5 t5 p5 q5 f5 r5 ⊢
  refine k_aload_n (pc := 27) dX4_init_27 rfl ?_
  refine k_new (fs := [.null, .null, .null, .null, .null, .null, .null, .int 0, .int 0]) tyX1 (ci := 1) rfl inX1 tyX1_ok gw_65 gw_66 gw_5 (by decide) (by decide) (by decide) (pc := 28) dX4_init_28 fun lg hlg => ?_
  have e6 : WE w5 (us w5 lg (.inr (1, [.null, .null, .null, .null, .null, .null, .null, .int 0, .int 0]))) lg := WE.new hlg
  have lne : ∀ a y, w5 a = some y → a ≠ lg := fun a y hy z => by rw [z, hlg] at hy; cases hy
  have l6 : us w5 lg (.inr (1, [.null, .null, .null, .null, .null, .null, .null, .int 0, .int 0])) lg = some (.inr (1, [.null, .null, .null, .null, .null, .null, .null, .int 0, .int 0])) := us_same _ _ _
  have r6 : RO rsS (us w5 lg (.inr (1, [.null, .null, .null, .null, .null, .null, .null, .int 0, .int 0]))) := r5.new hlg
  generalize us w5 lg (.inr (1, [.null, .null, .null, .null, .null, .null, .null, .int 0, .int 0])) = w6 at e6 l6 r6 ⊢
  have s6 := e6 _ _ s5 (lne _ _ s5)
  have t6 := e6 _ _ t5 (lne _ _ t5)
  have p6 := e6 _ _ p5 (lne _ _ p5)
  have q6 := e6 _ _ q5 (lne _ _ q5)
  have f6 := e6 _ _ f5 (lne _ _ f5)
  refine k_dup (pc := 31) dX4_init_31 rfl ?_
  refine k_aload_n (pc := 32) dX4_init_32 rfl ?_
  refine g_X4_18 (pc := 33) dX4_init_33 s6 rfl ?_
  refine k_aload_n (pc := 36) dX4_init_36 rfl ?_
  refine g_X4_9 (pc := 37) dX4_init_37 s6 rfl ?_
  refine k_callI si_X4_24 (e_lg lg sp t l6) (pc := 40) dX4_init_40 rfl rfl (Nat.le_of_ble_eq_true rfl) (by decide) (by decide) (by decide) (by decide) ?_
  refine k_ex fun μ => ?_
  refine k_pure fun hL => ?_
  obtain ⟨w7, rg, wr, rsL⟩ := μ
  obtain ⟨j1, j2, ⟨gr, j3, j3b⟩, j4, j5, j6, j7, j8, j9⟩ := hL
  dsimp only at j1 j2 j3 j3b j4 j5 j6 j7 j8 j9 ⊢
  have s7 := j1 _ _ s6 (lne _ _ s5)
  have t7 := j1 _ _ t6 (lne _ _ t5)
  have p7 := j1 _ _ p6 (lne _ _ p5)
  have q7 := j1 _ _ q6 (lne _ _ q5)
  have f7 := j1 _ _ f6 (lne _ _ f5)
  refine p_X4_27 (hini rfl) (pc := 43) dX4_init_43 (fs := [.ref t, .ref sp, .null, .int 0, .int 0, .int 0, .int 0]) s7 rfl rfl (Nat.le_of_ble_eq_true rfl) ?_
  have hrl : ∀ y ∈ rsS, y.1 ≠ lg ∧ y.2.1 ≠ lg := rs_ne r6 l6 (fun r z => by cases z) (fun r z => by cases z)
  have r7 : RO (rsS ++ rsL) w7 := RO.app (w0 := w6) (r6.keep j1 hrl) (fun y hy => ⟨by rw [(r6.2 y hy).1]; simp, by rw [(r6.2 y hy).2]; simp⟩) j5 j7
  have hx7 : lg ≠ x := fun z => by rw [z, s7] at j2; cases j2
  have e8 : WE w7 (us w7 x (.inr (4, [.ref t, .ref sp, .ref lg, .int 0, .int 0, .int 0, .int 0]))) x := WE.put
  have r8 : RO (rsS ++ rsL) (us w7 x (.inr (4, [.ref t, .ref sp, .ref lg, .int 0, .int 0, .int 0, .int 0]))) := r7.put s7 (fun r z => by cases z) (fun r z => by cases z)
  have s8 : us w7 x (.inr (4, [.ref t, .ref sp, .ref lg, .int 0, .int 0, .int 0, .int 0])) x = some (.inr (4, [.ref t, .ref sp, .ref lg, .int 0, .int 0, .int 0, .int 0])) := us_same _ _ _
  have t8 := e8 _ _ t7 htx
  have p8 := e8 _ _ p7 hsx
  have q8 := e8 _ _ q7 hpx
  have f8 := e8 _ _ f7 hfx
  have l8 := e8 _ _ j2 hx7
  have rg8 := e8 _ _ j3 (fun z => by rw [z, s7] at j3; cases j3)
  have wr8 := e8 _ _ j4 (fun z => by rw [z, s7] at j4; cases j4)
  refine k_I (I2 := Hd G A (us w7 x (.inr (4, [.ref t, .ref sp, .ref lg, .int 0, .int 0, .int 0, .int 0])))) (fun H hH => hH) ?_
  generalize us w7 x (.inr (4, [.ref t, .ref sp, .ref lg, .int 0, .int 0, .int 0, .int 0])) = w8 at r8 s8 t8 p8 q8 f8 l8 rg8 wr8 ⊢
  have a1 : ∀ j, j < 65 → rwA (rsS ++ rsL) j = rwA rsS j := fun j hj => rwA_app1 (by omega)
  have a2 : ∀ j, rwA (rsS ++ rsL) (65 + j) = rwA rsL j := fun j => by rw [← g6]; exact rwA_app2
  have hcx : ∀ i y, (rsS ++ rsL)[i]? = some y → y.2.2 = capX i := by
    intro i y hy
    by_cases hi : i < 65
    · rw [List.getElem?_append_left (by omega)] at hy
      rw [g9 i y hy]
      unfold capX
      (repeat' split) <;> omega
    · rw [List.getElem?_append_right (by omega)] at hy
      rw [j9 _ y hy, g6]
      unfold capX
      (repeat' split) <;> omega
  have hlay : LAy w8 (rsS ++ rsL) (adF x sp lg t pq f rg wr (rsS ++ rsL)) := by
    refine ⟨r8, by rw [List.length_append, g6, j6], fun y hy => ?_, fun j hj => ?_, fun j h8 hj => if_neg (by omega)⟩
    · obtain ⟨i, hi, rfl⟩ := List.getElem_of_mem hy
      rw [hcx i _ (List.getElem?_eq_getElem hi)]
      unfold capX
      (repeat' split) <;> omega
    · have : j = 0 ∨ j = 1 ∨ j = 2 ∨ j = 3 ∨ j = 4 ∨ j = 5 ∨ j = 6 ∨ j = 7 := by omega
      rcases this with rfl | rfl | rfl | rfl | rfl | rfl | rfl | rfl
      · exact ⟨_, s8, rfl⟩
      · exact ⟨_, p8, rfl⟩
      · exact ⟨_, l8, rfl⟩
      · exact ⟨_, t8, rfl⟩
      · exact ⟨_, q8, rfl⟩
      · exact ⟨_, f8, rfl⟩
      · exact ⟨_, rg8, rfl⟩
      · exact ⟨_, wr8, rfl⟩
  have hc0 := hlay.c00 hcx
  exact k_vret (pc := 46) dX4_init_46 (fun H hH => ⟨(adF x sp lg t pq f rg wr (rsS ++ rsL), arL (rsS ++ rsL), owL (rsS ++ rsL), capL (rsS ++ rsL), kdL (rsS ++ rsL) (adF x sp lg t pq f rg wr (rsS ++ rsL)), (fun j => rwA (rsS ++ rsL) (65 + j)), rwA (rsS ++ rsL) 97), hc0, hlay.ch s8 (by rw [a1 64 (by decide)]; exact p8) (by rw [show 97 = 65 + 32 from rfl, show 98 = 65 + 33 from rfl, show 99 = 65 + 34 from rfl, a2, a2, a2]; exact l8) t8 ⟨gp, q8, fun j hj => (by rw [a1 j (by omega)]; exact g3b j hj)⟩ f8 ⟨gr, rg8, fun j hj => (by rw [a2]; exact j3b j hj)⟩ wr8 hH⟩) (by decide) (by decide)
end CINK
