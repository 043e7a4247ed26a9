theorem rX {S : SS} {nw : List Ne} {fi : Nat → Int32} {ai : Nat → Nat → Int32} {al : Nat → Nat → Int64} (h : Rep S nw fi ai al) : fi 25 = bI (sX S) := h.2.2.2.2.2.2.2.1
theorem bad_ok {n : Int32} (h : badN n = false) : n = nI n.toNatClampNeg ∧ n.toNatClampNeg ≤ 12 ∧ 1 ≤ n.toNatClampNeg := by
  unfold badN at h
  simp only [Bool.or_eq_false_iff, decide_eq_false_iff_not] at h
  obtain ⟨j, hj, e⟩ := nI_of2 (x := n) (M := 12) (n := 12) rfl (fun z => h.1 (Int32.lt_trans z (by decide))) (Int32.not_lt.mp h.2)
  subst e
  rw [nI_clamp (by omega)]
  refine ⟨rfl, hj, ?_⟩
  rcases Nat.eq_zero_or_pos j with hz | hz
  · subst hz
    exact absurd (show nI 0 < 1 by decide) h.1
  · exact hz
theorem isSet_ok {x : Int32} (h : isSet x = true) : x = nI x.toNatClampNeg ∧ x.toNatClampNeg < 64 := by
  unfold isSet at h
  simp only [Bool.and_eq_true, Bool.not_eq_true', decide_eq_false_iff_not] at h
  obtain ⟨j, hj, e⟩ := nI_of h.1
  subst e
  rw [nI_clamp hj]
  refine ⟨rfl, ?_⟩
  rcases Nat.lt_or_ge j 64 with q | q
  · exact q
  · exact absurd (show (64 : Int32) ≤ nI j from nI_le (a := 64) q hj) h.2
section REFM
variable {p : Program} {l : Launch} {e : Env} {s : State} {m : MethodId} {args : Array Value} {below : List Frame} {meth : Method} {c : Code} {R : Room} {G : Gd} {A : Nat → Prop} {Q : State → Prop} {k n : Nat} {mo : Nat} {ad sl : Nat → Nat} {S : SS} {nw : List Ne}
set_option maxRecDepth 4000 in
theorem c_put (hst : MSt mo ad sl) (key : Int64) (n0 f t : Int32) (hok : sX S = false → badN n0 = false → OkA 1000 (killKey S key) (key, n0.toNatClampNeg, f, t)) : Ct 9 0 0 yX5_put cX5_put 7 (some .int) G A [.ref mo, .long key, .int n0, .int f, .int t] (MPS G A mo ad sl S) (some (.int (putS S key n0 f t).1)) (MPS G A mo ad sl (putS S key n0 f t).2) := by
  refine Ct.of 1 rfl rfl (Nat.le_of_ble_eq_true rfl) ?_
  intro p l e s m below meth c hini
  refine k_openS fun nw => ?_
  refine k_open fun fi ai al h => ?_
  refine k_aload_n (pc := 0) dX5_put_0 rfl ?_
  refine mg_157 hst (pc := 1) dX5_put_1 ?_
  rw [rX h]
  cases hx : sX S with
  | true =>
    have hp : putS S key n0 f t = (-2, S) := if_pos hx
    rw [hp]
    refine k_if_eq (tgt := 10) (pc := 4) dX5_put_4 (by decide) (fun c => absurd c ((show ¬ bI true = 0 by decide))) (fun _ => ?_)
    refine k_bipush (v := -2) (pc := 7) dX5_put_7 (by decide) ?_
    exact k_iret (pc := 9) dX5_put_9 rfl (MPS.of h) (Nat.le_refl _) (Nat.le_refl _)
  | false =>
    refine k_if_eq (tgt := 10) (pc := 4) dX5_put_4 (by decide) (fun _ => ?_) (fun c => absurd ((show bI false = 0 by decide)) c)
    refine k_iload_n (pc := 10) dX5_put_10 rfl ?_
    refine k_iconst (v := 1) (pc := 11) dX5_put_11 (by decide) ?_
    cases hbad : badN n0 with
    | true =>
      have hp : putS S key n0 f t = (-1, S) := by unfold putS; rw [if_neg (by rw [hx]; decide), if_pos hbad]
      rw [hp]
      refine k_icmp_lt (tgt := 21) (pc := 12) dX5_put_12 (by decide) (fun h1 => ?_) (fun h1 => ?_)
      · refine k_iconst (v := -1) (pc := 21) dX5_put_21 (by decide) ?_
        exact k_iret (pc := 22) dX5_put_22 rfl (MPS.of h) (Nat.le_refl _) (Nat.le_refl _)
      · refine k_iload_n (pc := 15) dX5_put_15 rfl ?_
        refine k_bipush (v := 12) (pc := 16) dX5_put_16 (by decide) ?_
        refine k_icmp_le (tgt := 23) (pc := 18) dX5_put_18 (by decide) (fun h2 => ?_) (fun h2 => ?_)
        · exfalso
          unfold badN at hbad
          simp only [Bool.or_eq_true, decide_eq_true_eq] at hbad
          rcases hbad with z | z
          · exact h1 z
          · exact absurd h2 (Int32.not_le.mpr z)
        · refine k_iconst (v := -1) (pc := 21) dX5_put_21 (by decide) ?_
          exact k_iret (pc := 22) dX5_put_22 rfl (MPS.of h) (Nat.le_refl _) (Nat.le_refl _)
    | false =>
      have hp : putS S key n0 f t = (1, appS 1000 (killKey S key) (key, n0.toNatClampNeg, f, t)) := by unfold putS; rw [if_neg (by rw [hx]; decide), if_neg (by rw [hbad]; decide)]
      rw [hp]
      obtain ⟨e1, e2, e3⟩ := bad_ok hbad
      have hA := hok hx hbad
      have hb1 : ¬ n0 < 1 ∧ ¬ 12 < n0 := by
        unfold badN at hbad
        simpa using hbad
      refine k_icmp_lt (tgt := 21) (pc := 12) dX5_put_12 (by decide) (fun h1 => ?_) (fun h1 => ?_)
      · exact absurd h1 hb1.1
      · refine k_iload_n (pc := 15) dX5_put_15 rfl ?_
        refine k_bipush (v := 12) (pc := 16) dX5_put_16 (by decide) ?_
        refine k_icmp_le (tgt := 23) (pc := 18) dX5_put_18 (by decide) (fun _ => ?_) (fun c => absurd (Int32.not_lt.mp hb1.2) c)
        refine k_close h ?_
        have tail : ∀ x6 : Int32, K p l e s m ([.ref mo, .long key, .int n0, .int f, .int t] : List Value).toArray below meth c (rmm 9 0 0) yX5_put.cls cX5_put 7 (some .int) G A (MQ below (Qd (some (.int (putS S key n0 f t).1)) (MPS G A mo ad sl (putS S key n0 f t).2) A) ([.ref mo, .long key, .int n0, .int f, .int t] : List Value).toArray s 0 0 A) 0 0 (MPS G A mo ad sl (killKey S key)) 43 [some (.ref mo), some (.long key), none, some (.int n0), some (.int f), some (.int t), some (.int x6)] [] := by
          intro x6
          rw [hp]
          have hC := c_app (G := G) (A := A) hst key n0.toNatClampNeg f t e2 1000 hA
          rw [← e1] at hC
          refine k_aload_n (pc := 43) dX5_put_43 rfl ?_
          refine k_lload_n (pc := 44) dX5_put_44 rfl ?_
          refine k_iload_n (pc := 45) dX5_put_45 rfl ?_
          refine k_iload (pc := 46) dX5_put_46 rfl ?_
          refine k_iload (pc := 48) dX5_put_48 rfl ?_
          refine k_callMS sv_X5_122 hst (hC) (pc := 50) dX5_put_50 rfl rfl (Nat.le_of_ble_eq_true rfl) (by decide) (by decide) (Nat.le_refl _) (Nat.le_refl _) ?_
          refine k_iconst (v := 1) (pc := 53) dX5_put_53 (by decide) ?_
          exact k_iret (pc := 54) dX5_put_54 rfl (fun _ h => h) (Nat.le_refl _) (Nat.le_refl _)
        refine k_aload_n (pc := 23) dX5_put_23 rfl ?_
        refine k_lload_n (pc := 24) dX5_put_24 rfl ?_
        refine k_callM sv_X5_133 hst (n_inLog hst key) (pc := 25) dX5_put_25 rfl rfl (Nat.le_of_ble_eq_true rfl) (by decide) (by decide) (Nat.le_refl _) (Nat.le_refl _) ?_
        refine k_istore (pc := 28) dX5_put_28 (by decide) rfl ?_
        cases hq : lastIx (sL S) key (sL S).length with
        | none =>
          have hk : killKey S key = S := by unfold killKey; rw [hq]
          refine k_iload (pc := 30) dX5_put_30 rfl ?_
          refine k_if_lt (tgt := 43) (pc := 32) dX5_put_32 (by decide) (fun _ => ?_) (fun c => absurd (oI_neg) c)
          have t6 := tail (oI none)
          rw [hp] at t6
          exact k_I (I2 := MPS G A mo ad sl (killKey S key)) (fun H hH => by rw [hk]; exact ⟨_, hH⟩) t6
        | some q =>
          have hk : killKey S key = uL S (killAt (sL S) q) := by unfold killKey; rw [hq]
          have hql := lastIx_lt hq
          refine k_open fun fi2 ai2 al2 h2 => ?_
          have hlen := h2.1.2.1
          refine k_iload (pc := 30) dX5_put_30 rfl ?_
          refine k_if_lt (tgt := 43) (pc := 32) dX5_put_32 (by decide) (fun c => absurd c ((oI_some_lt (k := q) (by omega)))) (fun _ => ?_)
          refine k_aload_n (pc := 35) dX5_put_35 rfl ?_
          refine mg_23 hst (pc := 36) dX5_put_36 ?_
          refine k_iload (pc := 39) dX5_put_39 rfl ?_
          refine k_iconst (v := 0) (pc := 41) dX5_put_41 (by decide) ?_
          refine m_zast hst rfl (pc := 42) dX5_put_42 (show oI (some q) = nI q from rfl) (by simp only [mln]; omega) (by decide) rfl ?_
          have t6 := tail (oI (some q))
          rw [hp] at t6
          exact k_I (fun H hH => by rw [hk]; exact MPS.of (rep_kill h2 q) H hH) t6
end REFM
