theorem gw_15 : Cond.code objectInit ⟨#[0xb1]⟩ 1 none ∈ GW := gw_t 15 (by decide +kernel) (by decide +kernel)
theorem us_us (w : Wd) (a : Nat) (x y : Ce) : us (us w a x) a y = us w a y := by
  funext b
  unfold us
  split <;> rfl
theorem us_id {w : Wd} {a : Nat} {x : Ce} (h : w a = some x) : us w a x = w := by
  funext b
  unfold us
  split
  · next e => rw [e, h]
  · rfl
theorem us_comm (w : Wd) {a b : Nat} (x y : Ce) (h : a ≠ b) : us (us w a x) b y = us (us w b y) a x := by
  funext c
  unfold us
  split
  · next e =>
    split
    · next e2 => exact absurd (e2.symm.trans e) h
    · rfl
  · rfl
def it0 : Ce := .inr (0, [.long 0, .int 0, .long 0, .int 0, .int 0, .int 0, .int 0, .int 0, .int 0])
section ITEM
variable {p : Program} {l : Launch} {e : Env} {s : State} {m : MethodId} {args : Array Value} {below : List Frame} {meth : Method} {c : Code} {R : Room} {G : Gd} {A : Nat → Prop} {Q : State → Prop} {k n : Nat} {w : Wd}
set_option maxRecDepth 4000 in
theorem e_item (q : Nat) (key : Int64) (n0 : Nat) (f t : Int32) : Ct 1 0 0 yX0_init cX0_init 8 (none) G A [.ref q, .long key, .int (nI n0), .int f, .int t] (Hd G A (us w q it0)) (none) (Hd G A (us w q (itC (key, n0, f, t) false false))) := by
  refine Ct.of 2 rfl rfl (Nat.le_of_ble_eq_true rfl) ?_
  intro p l e s m below meth c hini
  unfold it0
  refine k_aload_n (pc := 0) dX0_init_0 rfl ?_
  refine k_objInit gw_148 gw_14 gw_15 (pc := 1) dX0_init_1 (by decide) (by decide) ?_
  refine k_lload_n (pc := 4) dX0_init_4 rfl ?_
  refine k_callSN sn_X0_9 (e_mixOf key) (pc := 5) dX0_init_5 rfl rfl (Nat.le_of_ble_eq_true rfl) (by decide) (by decide) (Nat.le_refl _) (Nat.le_refl _) ?_
  refine k_lstore (pc := 8) dX0_init_8 (by decide) rfl ?_
  refine k_aload_n (pc := 10) dX0_init_10 rfl ?_
  refine k_lload_n (pc := 11) dX0_init_11 rfl ?_
  refine p_X0_13 (hini rfl) (pc := 12) dX0_init_12 (us_same _ _ _) rfl rfl (Nat.le_of_ble_eq_true rfl) ?_
  rw [us_us]
  refine k_aload_n (pc := 15) dX0_init_15 rfl ?_
  refine k_lload (pc := 16) dX0_init_16 rfl ?_
  refine k_callSN sn_X0_19 (e_setOfMix (mixI key)) (pc := 18) dX0_init_18 rfl rfl (Nat.le_of_ble_eq_true rfl) (by decide) (by decide) (Nat.le_refl _) (Nat.le_refl _) ?_
  refine p_X0_23 (hini rfl) (pc := 21) dX0_init_21 (us_same _ _ _) rfl rfl (Nat.le_of_ble_eq_true rfl) ?_
  rw [us_us]
  refine k_aload_n (pc := 24) dX0_init_24 rfl ?_
  refine k_lload (pc := 25) dX0_init_25 rfl ?_
  refine k_callSN sn_X0_27 (e_filterBits (mixI key)) (pc := 27) dX0_init_27 rfl rfl (Nat.le_of_ble_eq_true rfl) (by decide) (by decide) (Nat.le_refl _) (Nat.le_refl _) ?_
  refine p_X0_30 (hini rfl) (pc := 30) dX0_init_30 (us_same _ _ _) rfl rfl (Nat.le_of_ble_eq_true rfl) ?_
  rw [us_us]
  refine k_aload_n (pc := 33) dX0_init_33 rfl ?_
  refine k_iconst (v := 3) (pc := 34) dX0_init_34 (by decide) ?_
  refine k_iload_n (pc := 35) dX0_init_35 rfl ?_
  refine k_iadd (pc := 36) dX0_init_36 ?_
  refine p_X0_33 (hini rfl) (pc := 37) dX0_init_37 (us_same _ _ _) rfl rfl (Nat.le_of_ble_eq_true rfl) ?_
  rw [us_us, show (3 : Int32) + nI n0 = nI (3 + n0) from (Int32.ofNat_add 3 n0).symm]
  refine k_aload_n (pc := 40) dX0_init_40 rfl ?_
  refine k_iload_n (pc := 41) dX0_init_41 rfl ?_
  refine p_X0_36 (hini rfl) (pc := 42) dX0_init_42 (us_same _ _ _) rfl rfl (Nat.le_of_ble_eq_true rfl) ?_
  rw [us_us]
  refine k_aload_n (pc := 45) dX0_init_45 rfl ?_
  refine k_iload (pc := 46) dX0_init_46 rfl ?_
  refine p_X0_39 (hini rfl) (pc := 48) dX0_init_48 (us_same _ _ _) rfl rfl (Nat.le_of_ble_eq_true rfl) ?_
  rw [us_us]
  refine k_aload_n (pc := 51) dX0_init_51 rfl ?_
  refine k_iload (pc := 52) dX0_init_52 rfl ?_
  refine p_X0_42 (hini rfl) (pc := 54) dX0_init_54 (us_same _ _ _) rfl rfl (Nat.le_of_ble_eq_true rfl) ?_
  rw [us_us]
  exact k_vret (pc := 57) dX0_init_57 (fun _ h => h) (Nat.le_refl _) (Nat.le_refl _)
end ITEM
