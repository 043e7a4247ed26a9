def mfs (L : List (Nat × Nat)) : List Value := L.foldl (fun fs q => fs.set q.1 (.ref q.2)) [.null, .null, .null, .null, .null, .null, .null, .int 0, .null, .int 0, .int 0, .null, .null, .null, .null, .null, .null, .null, .null, .null, .null, .null, .null, .int 0, .null, .int 0, .int 0, .int 0, .int 0]
def mce (k : Nat) : Ce := mcell (fun _ _ => 0) (fun _ _ => 0) k
theorem mfs_snoc (L : List (Nat × Nat)) (k q : Nat) : mfs (L ++ [(k, q)]) = (mfs L).set k (.ref q) := by simp [mfs]
theorem mfs_len (L : List (Nat × Nat)) : (mfs L).length = 29 := by
  have : ∀ (L : List (Nat × Nat)) (fs : List Value), (L.foldl (fun fs q => fs.set q.1 (.ref q.2)) fs).length = fs.length := by
    intro L
    induction L with
    | nil => intro fs; rfl
    | cons q L ih => intro fs; rw [List.foldl_cons, ih, List.length_set]
  exact this L _
/-- what the reference's constructor has built so far -/
def MF (mo : Nat) (L : List (Nat × Nat)) (w : Wd) : Prop := w mo = some (.inr (5, mfs L)) ∧ (L.map Prod.snd).Nodup ∧ ∀ q ∈ L, q.2 ≠ mo ∧ w q.2 = some (mce q.1)
theorem MF.step {mo : Nat} {L : List (Nat × Nat)} {w : Wd} (h : MF mo L w) {q k : Nat} {x : Ce} (hq : w q = none) (hx : x = mce k) : MF mo (L ++ [(k, q)]) (us (us w q x) mo (.inr (5, (mfs L).set k (.ref q)))) := by
  obtain ⟨h1, h2, h3⟩ := h
  have hqm : q ≠ mo := fun z => by rw [z, h1] at hq; cases hq
  have hL : ∀ y ∈ L, y.2 ≠ q := fun y hy z => by rw [← z, (h3 y hy).2] at hq; cases hq
  refine ⟨?_, ?_, ?_⟩
  · rw [us_same, mfs_snoc]
  · rw [List.map_append, List.nodup_append]
    refine ⟨h2, by simp, fun a ha b hb => ?_⟩
    obtain ⟨y, hy, rfl⟩ := List.mem_map.mp ha
    simp at hb
    subst hb
    exact hL y hy
  · intro y hy
    rcases List.mem_append.mp hy with h4 | h4
    · obtain ⟨h5, h6⟩ := h3 y h4
      exact ⟨h5, by rw [us_ne _ _ h5, us_ne _ _ (hL y h4)]; exact h6⟩
    · simp at h4
      subst h4
      exact ⟨hqm, by rw [us_ne _ _ hqm, us_same, hx]⟩
def adL (L : List (Nat × Nat)) (k : Nat) : Nat := ((L.find? (fun q => q.1 == k)).map Prod.snd).getD 0
def slL (L : List (Nat × Nat)) (a : Nat) : Nat := ((L.find? (fun q => q.2 == a)).map Prod.fst).getD 7
theorem adL_mem {L : List (Nat × Nat)} {k : Nat} (h : k ∈ L.map Prod.fst) : (k, adL L k) ∈ L := by
  obtain ⟨q, hq, rfl⟩ := List.mem_map.mp h
  unfold adL
  cases hf : L.find? (fun y => y.1 == q.1) with
  | none =>
    have := List.find?_eq_none.mp hf q hq
    simp at this
  | some y =>
    have h1 := List.find?_some hf
    have h2 := List.mem_of_find?_eq_some hf
    have h3 : y.1 = q.1 := by simpa using h1
    show (q.1, y.2) ∈ L
    rw [← h3]
    exact h2
theorem slL_mem {L : List (Nat × Nat)} (hn : (L.map Prod.snd).Nodup) {q : Nat × Nat} (hq : q ∈ L) : slL L q.2 = q.1 := by
  unfold slL
  cases hf : L.find? (fun y => y.2 == q.2) with
  | none =>
    have := List.find?_eq_none.mp hf q hq
    simp at this
  | some y =>
    have h1 := List.find?_some hf
    have h2 := List.mem_of_find?_eq_some hf
    have h3 : y.2 = q.2 := by simpa using h1
    have h4 : y = q := by
      obtain ⟨i, hi, e1⟩ := List.getElem_of_mem h2
      obtain ⟨j, hj, e2⟩ := List.getElem_of_mem hq
      have e3 : (L.map Prod.snd)[i]'(by simpa using hi) = (L.map Prod.snd)[j]'(by simpa using hj) := by simp [e1, e2, h3]
      have e4 : i = j := (List.getElem_inj hn).mp e3
      subst e4
      rw [← e1, ← e2]
    show y.1 = q.1
    rw [h4]
def mSl : List Nat := [0, 1, 2, 3, 4, 5, 6, 8, 11, 12, 13, 14, 15, 16, 17, 18, 19, 20, 21, 22, 24]
theorem mtp_in {k : Nat} (h : mtp k ≠ 0) : k ∈ mSl := by
  rcases Nat.lt_or_ge k 25 with hk | hk
  · have : ∀ k, k < 25 → mtp k ≠ 0 → k ∈ mSl := by decide
    exact this k hk h
  · obtain ⟨j, rfl⟩ : ∃ j, k = j + 25 := ⟨k - 25, by omega⟩
    exact absurd rfl h
theorem MF.st {mo : Nat} {L : List (Nat × Nat)} {w : Wd} (h : MF mo L w) (hL : L.map Prod.fst = mSl) : MSt mo (adL L) (slL L) := by
  intro k hk
  have h1 := adL_mem (L := L) (k := k) (by rw [hL]; exact mtp_in hk)
  exact ⟨slL_mem h.2.1 h1, (h.2.2 _ h1).1⟩
theorem MF.mw {mo : Nat} {L : List (Nat × Nat)} {w : Wd} (h : MF mo L w) (hL : L.map Prod.fst = mSl) (hfs : mfs L = m_fs (adL L) (fun _ => 0)) (a : Nat) (x : Ce) (hx : mw mo (adL L) (slL L) (fun _ => 0) (fun _ _ => 0) (fun _ _ => 0) a = some x) : w a = some x := by
  unfold Jvm.Pilot.CEmberCacheLaw_law_r8669_e608f2.mw at hx
  split at hx
  · next e => rw [e, h.1, hfs]; exact hx
  · split at hx
    · next h2 =>
      have h1 := adL_mem (L := L) (k := slL L a) (by rw [hL]; exact mtp_in h2.1)
      rw [h2.2] at h1
      rw [(h.2.2 _ h1).2]
      exact hx
    · cases hx
theorem Hd.sub {G : Gd} {A : Nat → Prop} {w w2 : Wd} {H : Heap} (h : Hd G A w H) (hs : ∀ a x, w2 a = some x → w a = some x) : Hd G A w2 H := ⟨fun a x hx => h.1 a x (hs a x hx), h.2⟩
def S00 : SS := ([], 0, fun _ => 0, 0, fun _ => [], fun _ => 0, false, (0, 0, 0))
theorem S00_rep : Rep S00 [] (fun _ => 0) (fun _ _ => 0) (fun _ _ => 0) := by
  refine ⟨⟨rfl, Nat.zero_le _, fun k e h => by have h : ([] : List En)[k]? = some e := h; simp at h⟩, ⟨rfl, Nat.zero_le _, fun k e h => by simp at h⟩, fun s _ => ⟨rfl, Nat.zero_le _, fun k e h => by have h : ([] : List Pe)[k]? = some e := h; simp at h⟩, rfl, rfl, fun j _ => rfl, fun j _ => rfl, rfl, rfl, rfl, rfl⟩
theorem mra_i : ∀ (U : State) (cA : ClassId), va_RA U cA .int → U.vm.findClass ("[" ++ FieldType.toString .int) = some cA := fun _ _ h => h
theorem mra_j : ∀ (U : State) (cA : ClassId), va_RA U cA .long → U.vm.findClass ("[" ++ FieldType.toString .long) = some cA := fun _ _ h => h
theorem mra_z : ∀ (U : State) (cA : ClassId), va_RA U cA .boolean → U.vm.findClass ("[" ++ FieldType.toString .boolean) = some cA := fun _ _ h => h
section MINI
variable {p : Program} {l : Launch} {e : Env} {s : State} {m : MethodId} {args : Array Value} {below : List Frame} {meth : Method} {c : Code} {R : Room} {G : Gd} {A : Nat → Prop} {Q : State → Prop} {k n : Nat} {w : Wd}
set_option maxRecDepth 4000 in
theorem c_init (mo : Nat) : Ct 1 21 11744 yX5_init cX5_init 1 (none) G A [.ref mo] (Hd G A (us w mo (.inr (5, mfs [])))) (none) (fun H => ∃ μ : (Nat → Nat) × (Nat → Nat), MSt mo μ.1 μ.2 ∧ MPS G A mo μ.1 μ.2 S00 H) := by
  refine Ct.of 0 rfl rfl (Nat.le_of_ble_eq_true rfl) ?_
  intro p l e s m below meth c hini
  have hf : MF mo [] (us w mo (.inr (5, mfs []))) := ⟨us_same _ _ _, by simp, fun q hq => by cases hq⟩
  generalize us w mo (.inr (5, mfs [])) = w0 at hf ⊢
  refine k_aload_n (pc := 0) dX5_init_0 rfl ?_
  refine k_objInit gw_450 gw_14 gw_15 (pc := 1) dX5_init_1 (by decide) (by decide) ?_
  refine k_aload_n (pc := 4) dX5_init_4 rfl ?_
  refine k_sipush (v := 700) (pc := 5) dX5_init_5 (by decide) ?_
  refine k_newa (atype := .long) (ty := .long) (t := 1) (N := 700) rfl gw_64 rfl mra_j rfl (by decide) (by decide) (by decide) (by decide) (pc := 8) dX5_init_8 fun q0 hq0 => ?_
  refine p_X5_7 (hini rfl) (pc := 10) dX5_init_10 (fs := mfs []) ((us_ne _ _ (fun z => by rw [← z, hf.1] at hq0; cases hq0)).trans hf.1) rfl rfl (by rw [mfs_len]; decide) ?_
  replace hf : MF mo [(0, q0)] _ := MF.step (k := 0) (x := .inl (1, 700, fun _ => defaultValue .long)) hf hq0 rfl
  generalize us (us w0 q0 (.inl (1, 700, fun _ => defaultValue .long))) mo (.inr (5, (mfs []).set 0 (.ref q0))) = w1 at hf ⊢
  clear hq0
  refine k_aload_n (pc := 13) dX5_init_13 rfl ?_
  refine k_sipush (v := 700) (pc := 14) dX5_init_14 (by decide) ?_
  refine k_newa (atype := .int) (ty := .int) (t := 0) (N := 700) rfl gw_44 rfl mra_i rfl (by decide) (by decide) (by decide) (by decide) (pc := 17) dX5_init_17 fun q1 hq1 => ?_
  refine p_X5_13 (hini rfl) (pc := 19) dX5_init_19 (fs := mfs [(0, q0)]) ((us_ne _ _ (fun z => by rw [← z, hf.1] at hq1; cases hq1)).trans hf.1) rfl rfl (by rw [mfs_len]; decide) ?_
  replace hf : MF mo [(0, q0), (1, q1)] _ := MF.step (k := 1) (x := .inl (0, 700, fun _ => defaultValue .int)) hf hq1 rfl
  generalize us (us w1 q1 (.inl (0, 700, fun _ => defaultValue .int))) mo (.inr (5, (mfs [(0, q0)]).set 1 (.ref q1))) = w2 at hf ⊢
  clear hq1
  refine k_aload_n (pc := 22) dX5_init_22 rfl ?_
  refine k_sipush (v := 700) (pc := 23) dX5_init_23 (by decide) ?_
  refine k_newa (atype := .int) (ty := .int) (t := 0) (N := 700) rfl gw_44 rfl mra_i rfl (by decide) (by decide) (by decide) (by decide) (pc := 26) dX5_init_26 fun q2 hq2 => ?_
  refine p_X5_17 (hini rfl) (pc := 28) dX5_init_28 (fs := mfs [(0, q0), (1, q1)]) ((us_ne _ _ (fun z => by rw [← z, hf.1] at hq2; cases hq2)).trans hf.1) rfl rfl (by rw [mfs_len]; decide) ?_
  replace hf : MF mo [(0, q0), (1, q1), (2, q2)] _ := MF.step (k := 2) (x := .inl (0, 700, fun _ => defaultValue .int)) hf hq2 rfl
  generalize us (us w2 q2 (.inl (0, 700, fun _ => defaultValue .int))) mo (.inr (5, (mfs [(0, q0), (1, q1)]).set 2 (.ref q2))) = w3 at hf ⊢
  clear hq2
  refine k_aload_n (pc := 31) dX5_init_31 rfl ?_
  refine k_sipush (v := 700) (pc := 32) dX5_init_32 (by decide) ?_
  refine k_newa (atype := .int) (ty := .int) (t := 0) (N := 700) rfl gw_44 rfl mra_i rfl (by decide) (by decide) (by decide) (by decide) (pc := 35) dX5_init_35 fun q3 hq3 => ?_
  refine p_X5_20 (hini rfl) (pc := 37) dX5_init_37 (fs := mfs [(0, q0), (1, q1), (2, q2)]) ((us_ne _ _ (fun z => by rw [← z, hf.1] at hq3; cases hq3)).trans hf.1) rfl rfl (by rw [mfs_len]; decide) ?_
  replace hf : MF mo [(0, q0), (1, q1), (2, q2), (3, q3)] _ := MF.step (k := 3) (x := .inl (0, 700, fun _ => defaultValue .int)) hf hq3 rfl
  generalize us (us w3 q3 (.inl (0, 700, fun _ => defaultValue .int))) mo (.inr (5, (mfs [(0, q0), (1, q1), (2, q2)]).set 3 (.ref q3))) = w4 at hf ⊢
  clear hq3
  refine k_aload_n (pc := 40) dX5_init_40 rfl ?_
  refine k_sipush (v := 700) (pc := 41) dX5_init_41 (by decide) ?_
  refine k_newa (atype := .boolean) (ty := .boolean) (t := 2) (N := 700) rfl gw_539 rfl mra_z rfl (by decide) (by decide) (by decide) (by decide) (pc := 44) dX5_init_44 fun q4 hq4 => ?_
  refine p_X5_23 (hini rfl) (pc := 46) dX5_init_46 (fs := mfs [(0, q0), (1, q1), (2, q2), (3, q3)]) ((us_ne _ _ (fun z => by rw [← z, hf.1] at hq4; cases hq4)).trans hf.1) rfl rfl (by rw [mfs_len]; decide) ?_
  replace hf : MF mo [(0, q0), (1, q1), (2, q2), (3, q3), (4, q4)] _ := MF.step (k := 4) (x := .inl (2, 700, fun _ => defaultValue .boolean)) hf hq4 rfl
  generalize us (us w4 q4 (.inl (2, 700, fun _ => defaultValue .boolean))) mo (.inr (5, (mfs [(0, q0), (1, q1), (2, q2), (3, q3)]).set 4 (.ref q4))) = w5 at hf ⊢
  clear hq4
  refine k_aload_n (pc := 49) dX5_init_49 rfl ?_
  refine k_sipush (v := 700) (pc := 50) dX5_init_50 (by decide) ?_
  refine k_newa (atype := .boolean) (ty := .boolean) (t := 2) (N := 700) rfl gw_539 rfl mra_z rfl (by decide) (by decide) (by decide) (by decide) (pc := 53) dX5_init_53 fun q5 hq5 => ?_
  refine p_X5_27 (hini rfl) (pc := 55) dX5_init_55 (fs := mfs [(0, q0), (1, q1), (2, q2), (3, q3), (4, q4)]) ((us_ne _ _ (fun z => by rw [← z, hf.1] at hq5; cases hq5)).trans hf.1) rfl rfl (by rw [mfs_len]; decide) ?_
  replace hf : MF mo [(0, q0), (1, q1), (2, q2), (3, q3), (4, q4), (5, q5)] _ := MF.step (k := 5) (x := .inl (2, 700, fun _ => defaultValue .boolean)) hf hq5 rfl
  generalize us (us w5 q5 (.inl (2, 700, fun _ => defaultValue .boolean))) mo (.inr (5, (mfs [(0, q0), (1, q1), (2, q2), (3, q3), (4, q4)]).set 5 (.ref q5))) = w6 at hf ⊢
  clear hq5
  refine k_aload_n (pc := 58) dX5_init_58 rfl ?_
  refine k_sipush (v := 700) (pc := 59) dX5_init_59 (by decide) ?_
  refine k_newa (atype := .int) (ty := .int) (t := 0) (N := 700) rfl gw_44 rfl mra_i rfl (by decide) (by decide) (by decide) (by decide) (pc := 62) dX5_init_62 fun q6 hq6 => ?_
  refine p_X5_30 (hini rfl) (pc := 64) dX5_init_64 (fs := mfs [(0, q0), (1, q1), (2, q2), (3, q3), (4, q4), (5, q5)]) ((us_ne _ _ (fun z => by rw [← z, hf.1] at hq6; cases hq6)).trans hf.1) rfl rfl (by rw [mfs_len]; decide) ?_
  replace hf : MF mo [(0, q0), (1, q1), (2, q2), (3, q3), (4, q4), (5, q5), (6, q6)] _ := MF.step (k := 6) (x := .inl (0, 700, fun _ => defaultValue .int)) hf hq6 rfl
  generalize us (us w6 q6 (.inl (0, 700, fun _ => defaultValue .int))) mo (.inr (5, (mfs [(0, q0), (1, q1), (2, q2), (3, q3), (4, q4), (5, q5)]).set 6 (.ref q6))) = w7 at hf ⊢
  clear hq6
  refine k_aload_n (pc := 67) dX5_init_67 rfl ?_
  refine k_bipush (v := 8) (pc := 68) dX5_init_68 (by decide) ?_
  refine k_newa (atype := .int) (ty := .int) (t := 0) (N := 8) rfl gw_44 rfl mra_i rfl (by decide) (by decide) (by decide) (by decide) (pc := 70) dX5_init_70 fun q7 hq7 => ?_
  refine p_X5_33 (hini rfl) (pc := 72) dX5_init_72 (fs := mfs [(0, q0), (1, q1), (2, q2), (3, q3), (4, q4), (5, q5), (6, q6)]) ((us_ne _ _ (fun z => by rw [← z, hf.1] at hq7; cases hq7)).trans hf.1) rfl rfl (by rw [mfs_len]; decide) ?_
  replace hf : MF mo [(0, q0), (1, q1), (2, q2), (3, q3), (4, q4), (5, q5), (6, q6), (8, q7)] _ := MF.step (k := 8) (x := .inl (0, 8, fun _ => defaultValue .int)) hf hq7 rfl
  generalize us (us w7 q7 (.inl (0, 8, fun _ => defaultValue .int))) mo (.inr (5, (mfs [(0, q0), (1, q1), (2, q2), (3, q3), (4, q4), (5, q5), (6, q6)]).set 8 (.ref q7))) = w8 at hf ⊢
  clear hq7
  refine k_aload_n (pc := 75) dX5_init_75 rfl ?_
  refine k_sipush (v := 512) (pc := 76) dX5_init_76 (by decide) ?_
  refine k_newa (atype := .long) (ty := .long) (t := 1) (N := 512) rfl gw_64 rfl mra_j rfl (by decide) (by decide) (by decide) (by decide) (pc := 79) dX5_init_79 fun q8 hq8 => ?_
  refine p_X5_36 (hini rfl) (pc := 81) dX5_init_81 (fs := mfs [(0, q0), (1, q1), (2, q2), (3, q3), (4, q4), (5, q5), (6, q6), (8, q7)]) ((us_ne _ _ (fun z => by rw [← z, hf.1] at hq8; cases hq8)).trans hf.1) rfl rfl (by rw [mfs_len]; decide) ?_
  replace hf : MF mo [(0, q0), (1, q1), (2, q2), (3, q3), (4, q4), (5, q5), (6, q6), (8, q7), (11, q8)] _ := MF.step (k := 11) (x := .inl (1, 512, fun _ => defaultValue .long)) hf hq8 rfl
  generalize us (us w8 q8 (.inl (1, 512, fun _ => defaultValue .long))) mo (.inr (5, (mfs [(0, q0), (1, q1), (2, q2), (3, q3), (4, q4), (5, q5), (6, q6), (8, q7)]).set 11 (.ref q8))) = w9 at hf ⊢
  clear hq8
  refine k_aload_n (pc := 84) dX5_init_84 rfl ?_
  refine k_sipush (v := 512) (pc := 85) dX5_init_85 (by decide) ?_
  refine k_newa (atype := .int) (ty := .int) (t := 0) (N := 512) rfl gw_44 rfl mra_i rfl (by decide) (by decide) (by decide) (by decide) (pc := 88) dX5_init_88 fun q9 hq9 => ?_
  refine p_X5_39 (hini rfl) (pc := 90) dX5_init_90 (fs := mfs [(0, q0), (1, q1), (2, q2), (3, q3), (4, q4), (5, q5), (6, q6), (8, q7), (11, q8)]) ((us_ne _ _ (fun z => by rw [← z, hf.1] at hq9; cases hq9)).trans hf.1) rfl rfl (by rw [mfs_len]; decide) ?_
  replace hf : MF mo [(0, q0), (1, q1), (2, q2), (3, q3), (4, q4), (5, q5), (6, q6), (8, q7), (11, q8), (12, q9)] _ := MF.step (k := 12) (x := .inl (0, 512, fun _ => defaultValue .int)) hf hq9 rfl
  generalize us (us w9 q9 (.inl (0, 512, fun _ => defaultValue .int))) mo (.inr (5, (mfs [(0, q0), (1, q1), (2, q2), (3, q3), (4, q4), (5, q5), (6, q6), (8, q7), (11, q8)]).set 12 (.ref q9))) = w10 at hf ⊢
  clear hq9
  refine k_aload_n (pc := 93) dX5_init_93 rfl ?_
  refine k_sipush (v := 512) (pc := 94) dX5_init_94 (by decide) ?_
  refine k_newa (atype := .int) (ty := .int) (t := 0) (N := 512) rfl gw_44 rfl mra_i rfl (by decide) (by decide) (by decide) (by decide) (pc := 97) dX5_init_97 fun q10 hq10 => ?_
  refine p_X5_42 (hini rfl) (pc := 99) dX5_init_99 (fs := mfs [(0, q0), (1, q1), (2, q2), (3, q3), (4, q4), (5, q5), (6, q6), (8, q7), (11, q8), (12, q9)]) ((us_ne _ _ (fun z => by rw [← z, hf.1] at hq10; cases hq10)).trans hf.1) rfl rfl (by rw [mfs_len]; decide) ?_
  replace hf : MF mo [(0, q0), (1, q1), (2, q2), (3, q3), (4, q4), (5, q5), (6, q6), (8, q7), (11, q8), (12, q9), (13, q10)] _ := MF.step (k := 13) (x := .inl (0, 512, fun _ => defaultValue .int)) hf hq10 rfl
  generalize us (us w10 q10 (.inl (0, 512, fun _ => defaultValue .int))) mo (.inr (5, (mfs [(0, q0), (1, q1), (2, q2), (3, q3), (4, q4), (5, q5), (6, q6), (8, q7), (11, q8), (12, q9)]).set 13 (.ref q10))) = w11 at hf ⊢
  clear hq10
  refine k_aload_n (pc := 102) dX5_init_102 rfl ?_
  refine k_sipush (v := 512) (pc := 103) dX5_init_103 (by decide) ?_
  refine k_newa (atype := .int) (ty := .int) (t := 0) (N := 512) rfl gw_44 rfl mra_i rfl (by decide) (by decide) (by decide) (by decide) (pc := 106) dX5_init_106 fun q11 hq11 => ?_
  refine p_X5_45 (hini rfl) (pc := 108) dX5_init_108 (fs := mfs [(0, q0), (1, q1), (2, q2), (3, q3), (4, q4), (5, q5), (6, q6), (8, q7), (11, q8), (12, q9), (13, q10)]) ((us_ne _ _ (fun z => by rw [← z, hf.1] at hq11; cases hq11)).trans hf.1) rfl rfl (by rw [mfs_len]; decide) ?_
  replace hf : MF mo [(0, q0), (1, q1), (2, q2), (3, q3), (4, q4), (5, q5), (6, q6), (8, q7), (11, q8), (12, q9), (13, q10), (14, q11)] _ := MF.step (k := 14) (x := .inl (0, 512, fun _ => defaultValue .int)) hf hq11 rfl
  generalize us (us w11 q11 (.inl (0, 512, fun _ => defaultValue .int))) mo (.inr (5, (mfs [(0, q0), (1, q1), (2, q2), (3, q3), (4, q4), (5, q5), (6, q6), (8, q7), (11, q8), (12, q9), (13, q10)]).set 14 (.ref q11))) = w12 at hf ⊢
  clear hq11
  refine k_aload_n (pc := 111) dX5_init_111 rfl ?_
  refine k_sipush (v := 512) (pc := 112) dX5_init_112 (by decide) ?_
  refine k_newa (atype := .boolean) (ty := .boolean) (t := 2) (N := 512) rfl gw_539 rfl mra_z rfl (by decide) (by decide) (by decide) (by decide) (pc := 115) dX5_init_115 fun q12 hq12 => ?_
  refine p_X5_48 (hini rfl) (pc := 117) dX5_init_117 (fs := mfs [(0, q0), (1, q1), (2, q2), (3, q3), (4, q4), (5, q5), (6, q6), (8, q7), (11, q8), (12, q9), (13, q10), (14, q11)]) ((us_ne _ _ (fun z => by rw [← z, hf.1] at hq12; cases hq12)).trans hf.1) rfl rfl (by rw [mfs_len]; decide) ?_
  replace hf : MF mo [(0, q0), (1, q1), (2, q2), (3, q3), (4, q4), (5, q5), (6, q6), (8, q7), (11, q8), (12, q9), (13, q10), (14, q11), (15, q12)] _ := MF.step (k := 15) (x := .inl (2, 512, fun _ => defaultValue .boolean)) hf hq12 rfl
  generalize us (us w12 q12 (.inl (2, 512, fun _ => defaultValue .boolean))) mo (.inr (5, (mfs [(0, q0), (1, q1), (2, q2), (3, q3), (4, q4), (5, q5), (6, q6), (8, q7), (11, q8), (12, q9), (13, q10), (14, q11)]).set 15 (.ref q12))) = w13 at hf ⊢
  clear hq12
  refine k_aload_n (pc := 120) dX5_init_120 rfl ?_
  refine k_bipush (v := 64) (pc := 121) dX5_init_121 (by decide) ?_
  refine k_newa (atype := .int) (ty := .int) (t := 0) (N := 64) rfl gw_44 rfl mra_i rfl (by decide) (by decide) (by decide) (by decide) (pc := 123) dX5_init_123 fun q13 hq13 => ?_
  refine p_X5_51 (hini rfl) (pc := 125) dX5_init_125 (fs := mfs [(0, q0), (1, q1), (2, q2), (3, q3), (4, q4), (5, q5), (6, q6), (8, q7), (11, q8), (12, q9), (13, q10), (14, q11), (15, q12)]) ((us_ne _ _ (fun z => by rw [← z, hf.1] at hq13; cases hq13)).trans hf.1) rfl rfl (by rw [mfs_len]; decide) ?_
  replace hf : MF mo [(0, q0), (1, q1), (2, q2), (3, q3), (4, q4), (5, q5), (6, q6), (8, q7), (11, q8), (12, q9), (13, q10), (14, q11), (15, q12), (16, q13)] _ := MF.step (k := 16) (x := .inl (0, 64, fun _ => defaultValue .int)) hf hq13 rfl
  generalize us (us w13 q13 (.inl (0, 64, fun _ => defaultValue .int))) mo (.inr (5, (mfs [(0, q0), (1, q1), (2, q2), (3, q3), (4, q4), (5, q5), (6, q6), (8, q7), (11, q8), (12, q9), (13, q10), (14, q11), (15, q12)]).set 16 (.ref q13))) = w14 at hf ⊢
  clear hq13
  refine k_aload_n (pc := 128) dX5_init_128 rfl ?_
  refine k_sipush (v := 700) (pc := 129) dX5_init_129 (by decide) ?_
  refine k_newa (atype := .long) (ty := .long) (t := 1) (N := 700) rfl gw_64 rfl mra_j rfl (by decide) (by decide) (by decide) (by decide) (pc := 132) dX5_init_132 fun q14 hq14 => ?_
  refine p_X5_54 (hini rfl) (pc := 134) dX5_init_134 (fs := mfs [(0, q0), (1, q1), (2, q2), (3, q3), (4, q4), (5, q5), (6, q6), (8, q7), (11, q8), (12, q9), (13, q10), (14, q11), (15, q12), (16, q13)]) ((us_ne _ _ (fun z => by rw [← z, hf.1] at hq14; cases hq14)).trans hf.1) rfl rfl (by rw [mfs_len]; decide) ?_
  replace hf : MF mo [(0, q0), (1, q1), (2, q2), (3, q3), (4, q4), (5, q5), (6, q6), (8, q7), (11, q8), (12, q9), (13, q10), (14, q11), (15, q12), (16, q13), (17, q14)] _ := MF.step (k := 17) (x := .inl (1, 700, fun _ => defaultValue .long)) hf hq14 rfl
  generalize us (us w14 q14 (.inl (1, 700, fun _ => defaultValue .long))) mo (.inr (5, (mfs [(0, q0), (1, q1), (2, q2), (3, q3), (4, q4), (5, q5), (6, q6), (8, q7), (11, q8), (12, q9), (13, q10), (14, q11), (15, q12), (16, q13)]).set 17 (.ref q14))) = w15 at hf ⊢
  clear hq14
  refine k_aload_n (pc := 137) dX5_init_137 rfl ?_
  refine k_sipush (v := 700) (pc := 138) dX5_init_138 (by decide) ?_
  refine k_newa (atype := .int) (ty := .int) (t := 0) (N := 700) rfl gw_44 rfl mra_i rfl (by decide) (by decide) (by decide) (by decide) (pc := 141) dX5_init_141 fun q15 hq15 => ?_
  refine p_X5_57 (hini rfl) (pc := 143) dX5_init_143 (fs := mfs [(0, q0), (1, q1), (2, q2), (3, q3), (4, q4), (5, q5), (6, q6), (8, q7), (11, q8), (12, q9), (13, q10), (14, q11), (15, q12), (16, q13), (17, q14)]) ((us_ne _ _ (fun z => by rw [← z, hf.1] at hq15; cases hq15)).trans hf.1) rfl rfl (by rw [mfs_len]; decide) ?_
  replace hf : MF mo [(0, q0), (1, q1), (2, q2), (3, q3), (4, q4), (5, q5), (6, q6), (8, q7), (11, q8), (12, q9), (13, q10), (14, q11), (15, q12), (16, q13), (17, q14), (18, q15)] _ := MF.step (k := 18) (x := .inl (0, 700, fun _ => defaultValue .int)) hf hq15 rfl
  generalize us (us w15 q15 (.inl (0, 700, fun _ => defaultValue .int))) mo (.inr (5, (mfs [(0, q0), (1, q1), (2, q2), (3, q3), (4, q4), (5, q5), (6, q6), (8, q7), (11, q8), (12, q9), (13, q10), (14, q11), (15, q12), (16, q13), (17, q14)]).set 18 (.ref q15))) = w16 at hf ⊢
  clear hq15
  refine k_aload_n (pc := 146) dX5_init_146 rfl ?_
  refine k_sipush (v := 700) (pc := 147) dX5_init_147 (by decide) ?_
  refine k_newa (atype := .int) (ty := .int) (t := 0) (N := 700) rfl gw_44 rfl mra_i rfl (by decide) (by decide) (by decide) (by decide) (pc := 150) dX5_init_150 fun q16 hq16 => ?_
  refine p_X5_60 (hini rfl) (pc := 152) dX5_init_152 (fs := mfs [(0, q0), (1, q1), (2, q2), (3, q3), (4, q4), (5, q5), (6, q6), (8, q7), (11, q8), (12, q9), (13, q10), (14, q11), (15, q12), (16, q13), (17, q14), (18, q15)]) ((us_ne _ _ (fun z => by rw [← z, hf.1] at hq16; cases hq16)).trans hf.1) rfl rfl (by rw [mfs_len]; decide) ?_
  replace hf : MF mo [(0, q0), (1, q1), (2, q2), (3, q3), (4, q4), (5, q5), (6, q6), (8, q7), (11, q8), (12, q9), (13, q10), (14, q11), (15, q12), (16, q13), (17, q14), (18, q15), (19, q16)] _ := MF.step (k := 19) (x := .inl (0, 700, fun _ => defaultValue .int)) hf hq16 rfl
  generalize us (us w16 q16 (.inl (0, 700, fun _ => defaultValue .int))) mo (.inr (5, (mfs [(0, q0), (1, q1), (2, q2), (3, q3), (4, q4), (5, q5), (6, q6), (8, q7), (11, q8), (12, q9), (13, q10), (14, q11), (15, q12), (16, q13), (17, q14), (18, q15)]).set 19 (.ref q16))) = w17 at hf ⊢
  clear hq16
  refine k_aload_n (pc := 155) dX5_init_155 rfl ?_
  refine k_sipush (v := 700) (pc := 156) dX5_init_156 (by decide) ?_
  refine k_newa (atype := .int) (ty := .int) (t := 0) (N := 700) rfl gw_44 rfl mra_i rfl (by decide) (by decide) (by decide) (by decide) (pc := 159) dX5_init_159 fun q17 hq17 => ?_
  refine p_X5_63 (hini rfl) (pc := 161) dX5_init_161 (fs := mfs [(0, q0), (1, q1), (2, q2), (3, q3), (4, q4), (5, q5), (6, q6), (8, q7), (11, q8), (12, q9), (13, q10), (14, q11), (15, q12), (16, q13), (17, q14), (18, q15), (19, q16)]) ((us_ne _ _ (fun z => by rw [← z, hf.1] at hq17; cases hq17)).trans hf.1) rfl rfl (by rw [mfs_len]; decide) ?_
  replace hf : MF mo [(0, q0), (1, q1), (2, q2), (3, q3), (4, q4), (5, q5), (6, q6), (8, q7), (11, q8), (12, q9), (13, q10), (14, q11), (15, q12), (16, q13), (17, q14), (18, q15), (19, q16), (20, q17)] _ := MF.step (k := 20) (x := .inl (0, 700, fun _ => defaultValue .int)) hf hq17 rfl
  generalize us (us w17 q17 (.inl (0, 700, fun _ => defaultValue .int))) mo (.inr (5, (mfs [(0, q0), (1, q1), (2, q2), (3, q3), (4, q4), (5, q5), (6, q6), (8, q7), (11, q8), (12, q9), (13, q10), (14, q11), (15, q12), (16, q13), (17, q14), (18, q15), (19, q16)]).set 20 (.ref q17))) = w18 at hf ⊢
  clear hq17
  refine k_aload_n (pc := 164) dX5_init_164 rfl ?_
  refine k_sipush (v := 700) (pc := 165) dX5_init_165 (by decide) ?_
  refine k_newa (atype := .boolean) (ty := .boolean) (t := 2) (N := 700) rfl gw_539 rfl mra_z rfl (by decide) (by decide) (by decide) (by decide) (pc := 168) dX5_init_168 fun q18 hq18 => ?_
  refine p_X5_66 (hini rfl) (pc := 170) dX5_init_170 (fs := mfs [(0, q0), (1, q1), (2, q2), (3, q3), (4, q4), (5, q5), (6, q6), (8, q7), (11, q8), (12, q9), (13, q10), (14, q11), (15, q12), (16, q13), (17, q14), (18, q15), (19, q16), (20, q17)]) ((us_ne _ _ (fun z => by rw [← z, hf.1] at hq18; cases hq18)).trans hf.1) rfl rfl (by rw [mfs_len]; decide) ?_
  replace hf : MF mo [(0, q0), (1, q1), (2, q2), (3, q3), (4, q4), (5, q5), (6, q6), (8, q7), (11, q8), (12, q9), (13, q10), (14, q11), (15, q12), (16, q13), (17, q14), (18, q15), (19, q16), (20, q17), (21, q18)] _ := MF.step (k := 21) (x := .inl (2, 700, fun _ => defaultValue .boolean)) hf hq18 rfl
  generalize us (us w18 q18 (.inl (2, 700, fun _ => defaultValue .boolean))) mo (.inr (5, (mfs [(0, q0), (1, q1), (2, q2), (3, q3), (4, q4), (5, q5), (6, q6), (8, q7), (11, q8), (12, q9), (13, q10), (14, q11), (15, q12), (16, q13), (17, q14), (18, q15), (19, q16), (20, q17)]).set 21 (.ref q18))) = w19 at hf ⊢
  clear hq18
  refine k_aload_n (pc := 173) dX5_init_173 rfl ?_
  refine k_sipush (v := 700) (pc := 174) dX5_init_174 (by decide) ?_
  refine k_newa (atype := .boolean) (ty := .boolean) (t := 2) (N := 700) rfl gw_539 rfl mra_z rfl (by decide) (by decide) (by decide) (by decide) (pc := 177) dX5_init_177 fun q19 hq19 => ?_
  refine p_X5_69 (hini rfl) (pc := 179) dX5_init_179 (fs := mfs [(0, q0), (1, q1), (2, q2), (3, q3), (4, q4), (5, q5), (6, q6), (8, q7), (11, q8), (12, q9), (13, q10), (14, q11), (15, q12), (16, q13), (17, q14), (18, q15), (19, q16), (20, q17), (21, q18)]) ((us_ne _ _ (fun z => by rw [← z, hf.1] at hq19; cases hq19)).trans hf.1) rfl rfl (by rw [mfs_len]; decide) ?_
  replace hf : MF mo [(0, q0), (1, q1), (2, q2), (3, q3), (4, q4), (5, q5), (6, q6), (8, q7), (11, q8), (12, q9), (13, q10), (14, q11), (15, q12), (16, q13), (17, q14), (18, q15), (19, q16), (20, q17), (21, q18), (22, q19)] _ := MF.step (k := 22) (x := .inl (2, 700, fun _ => defaultValue .boolean)) hf hq19 rfl
  generalize us (us w19 q19 (.inl (2, 700, fun _ => defaultValue .boolean))) mo (.inr (5, (mfs [(0, q0), (1, q1), (2, q2), (3, q3), (4, q4), (5, q5), (6, q6), (8, q7), (11, q8), (12, q9), (13, q10), (14, q11), (15, q12), (16, q13), (17, q14), (18, q15), (19, q16), (20, q17), (21, q18)]).set 22 (.ref q19))) = w20 at hf ⊢
  clear hq19
  refine k_aload_n (pc := 182) dX5_init_182 rfl ?_
  refine k_bipush (v := 12) (pc := 183) dX5_init_183 (by decide) ?_
  refine k_newa (atype := .int) (ty := .int) (t := 0) (N := 12) rfl gw_44 rfl mra_i rfl (by decide) (by decide) (by decide) (by decide) (pc := 185) dX5_init_185 fun q20 hq20 => ?_
  refine p_X5_72 (hini rfl) (pc := 187) dX5_init_187 (fs := mfs [(0, q0), (1, q1), (2, q2), (3, q3), (4, q4), (5, q5), (6, q6), (8, q7), (11, q8), (12, q9), (13, q10), (14, q11), (15, q12), (16, q13), (17, q14), (18, q15), (19, q16), (20, q17), (21, q18), (22, q19)]) ((us_ne _ _ (fun z => by rw [← z, hf.1] at hq20; cases hq20)).trans hf.1) rfl rfl (by rw [mfs_len]; decide) ?_
  replace hf : MF mo [(0, q0), (1, q1), (2, q2), (3, q3), (4, q4), (5, q5), (6, q6), (8, q7), (11, q8), (12, q9), (13, q10), (14, q11), (15, q12), (16, q13), (17, q14), (18, q15), (19, q16), (20, q17), (21, q18), (22, q19), (24, q20)] _ := MF.step (k := 24) (x := .inl (0, 12, fun _ => defaultValue .int)) hf hq20 rfl
  generalize us (us w20 q20 (.inl (0, 12, fun _ => defaultValue .int))) mo (.inr (5, (mfs [(0, q0), (1, q1), (2, q2), (3, q3), (4, q4), (5, q5), (6, q6), (8, q7), (11, q8), (12, q9), (13, q10), (14, q11), (15, q12), (16, q13), (17, q14), (18, q15), (19, q16), (20, q17), (21, q18), (22, q19)]).set 24 (.ref q20))) = w21 at hf ⊢
  clear hq20
  exact k_vret (pc := 190) dX5_init_190 (fun H hH => ⟨(adL [(0, q0), (1, q1), (2, q2), (3, q3), (4, q4), (5, q5), (6, q6), (8, q7), (11, q8), (12, q9), (13, q10), (14, q11), (15, q12), (16, q13), (17, q14), (18, q15), (19, q16), (20, q17), (21, q18), (22, q19), (24, q20)], slL [(0, q0), (1, q1), (2, q2), (3, q3), (4, q4), (5, q5), (6, q6), (8, q7), (11, q8), (12, q9), (13, q10), (14, q11), (15, q12), (16, q13), (17, q14), (18, q15), (19, q16), (20, q17), (21, q18), (22, q19), (24, q20)]), hf.st rfl, [], (fun _ => 0, fun _ _ => 0, fun _ _ => 0), S00_rep, hH.sub (hf.mw rfl (by simp [mfs, m_fs, adL]))⟩) (by decide) (by decide)
end MINI
