theorem k_mmax {p : Program} {l : Launch} {e : Env} {s : State} {m : MethodId} {args : Array Value} {below : List Frame} {meth : Method} {c : Code} {R : Room} {cc : ByteArray} {nL : Nat} {rt : Option FieldType} {G : Gd} {A : Nat → Prop} {Q : State → Prop} {k n : Nat} {I : Heap → Prop} {pc : Nat} {lv : List (Option Value)} {st : List Value} {x y : Int32} (hd : decode cc pc = .ok (.invokestatic 9, 3)) (hfr : 1 ≤ R.frames) (hlo : (st.map fun v => v.category).sum + 13 ≤ R.locals) (hk : k ≤ R.cells) (hn : n ≤ R.slots) (kk : K p l e s m args below meth c R RX2 cc nL rt G A Q k n I (pc + 3) lv (.int (if x < y then y else x) :: st)) : K p l e s m args below meth c R RX2 cc nL rt G A Q k n I pc lv (.int y :: .int x :: st) := fun F H locs ls hI hS hl =>
  va_mmax F.1 F.2.1 (F.2.2.1.trans hl.1.symm) F.2.2.2.1 (F.2.2.2.2.1 _ gw_29) (F.2.2.2.2.1 _ gw_30) (F.2.2.2.2.1 _ gw_4) (F.2.2.2.2.1 _ gw_31) hfr hlo hk hn hd (kk F H locs ls hI hS hl)
def row0 : Ce := .inr (2, [.null, .int 0])
def rowC (r : Nat) : Ce := .inr (2, [.ref r, .int 0])
def arrC (b : Nat) : Ce := .inl (3, b, fun _ => .null)
abbrev Rs : Type := List (Nat × Nat × Nat)
/-- rows that were made: row, its array, its bound -/
def RO (rs : Rs) (w : Wd) : Prop := (rs.map (fun y => y.1) ++ rs.map (fun y => y.2.1)).Nodup ∧ ∀ y ∈ rs, w y.1 = some (rowC y.2.1) ∧ w y.2.1 = some (arrC y.2.2)
def rwA (rs : Rs) (j : Nat) : Nat := ((rs[j]?).map (fun y => y.1)).getD 0
def WE (w w' : Wd) (o : Nat) : Prop := ∀ a x, w a = some x → a ≠ o → w' a = some x
theorem WE.refl (w : Wd) (o : Nat) : WE w w o := fun _ _ h _ => h
theorem WE.trans {w w' w'' : Wd} {o : Nat} (h : WE w w' o) (h2 : WE w' w'' o) : WE w w'' o := fun a x hx ha => h2 a x (h a x hx ha) ha
theorem WE.put {w : Wd} {o : Nat} {x : Ce} : WE w (us w o x) o := fun a y hy ha => by rw [us_ne _ _ ha]; exact hy
theorem WE.new {w : Wd} {o q : Nat} {x : Ce} (hq : w q = none) : WE w (us w q x) o := fun a y hy _ => by
  have : a ≠ q := fun z => by rw [z, hq] at hy; cases hy
  rw [us_ne _ _ this]; exact hy
theorem rwA_snoc {rs : Rs} {y : Nat × Nat × Nat} {j : Nat} (h : j < rs.length) : rwA (rs ++ [y]) j = rwA rs j := by
  unfold rwA
  rw [List.getElem?_append_left h]
theorem rwA_last {rs : Rs} {y : Nat × Nat × Nat} : rwA (rs ++ [y]) rs.length = y.1 := by
  unfold rwA
  rw [List.getElem?_append_right (Nat.le_refl _)]
  simp
theorem RO.nil {w : Wd} : RO [] w := ⟨by simp, fun y h => by cases h⟩
theorem RO.keep {rs : Rs} {w w' : Wd} {o : Nat} (h : RO rs w) (he : WE w w' o) (ho : ∀ y ∈ rs, y.1 ≠ o ∧ y.2.1 ≠ o) : RO rs w' := ⟨h.1, fun y hy => ⟨he _ _ (h.2 y hy).1 (ho y hy).1, he _ _ (h.2 y hy).2 (ho y hy).2⟩⟩
theorem RO.add {rs : Rs} {w : Wd} (h : RO rs w) {q r b : Nat} (hq : w q = none) (hr : w r = none) (hne : r ≠ q) : RO (rs ++ [(q, r, b)]) (us (us w q (rowC r)) r (arrC b)) := by
  have k1 : ∀ y ∈ rs, y.1 ≠ q ∧ y.1 ≠ r ∧ y.2.1 ≠ q ∧ y.2.1 ≠ r := fun y hy => by
    obtain ⟨h1, h2⟩ := h.2 y hy
    exact ⟨fun z => (by rw [z, hq] at h1; cases h1), fun z => (by rw [z, hr] at h1; cases h1), fun z => (by rw [z, hq] at h2; cases h2), fun z => (by rw [z, hr] at h2; cases h2)⟩
  refine ⟨?_, fun y hy => ?_⟩
  · have h1 := h.1
    rw [List.nodup_append] at h1
    obtain ⟨h2, h3, h4⟩ := h1
    rw [List.map_append, List.map_append, List.nodup_append]
    refine ⟨?_, ?_, ?_⟩
    · rw [List.nodup_append]
      refine ⟨h2, by simp, fun a ha c hc => ?_⟩
      obtain ⟨y, hy, rfl⟩ := List.mem_map.mp ha
      simp at hc
      subst hc
      exact (k1 y hy).1
    · rw [List.nodup_append]
      refine ⟨h3, by simp, fun a ha c hc => ?_⟩
      obtain ⟨y, hy, rfl⟩ := List.mem_map.mp ha
      simp at hc
      subst hc
      exact (k1 y hy).2.2.2
    · intro a ha c hc
      rcases List.mem_append.mp ha with ha | ha
      · rcases List.mem_append.mp hc with hc | hc
        · exact h4 a ha c hc
        · obtain ⟨y, hy, rfl⟩ := List.mem_map.mp ha
          simp at hc
          subst hc
          exact (k1 y hy).2.1
      · simp at ha
        subst ha
        rcases List.mem_append.mp hc with hc | hc
        · obtain ⟨y, hy, rfl⟩ := List.mem_map.mp hc
          exact Ne.symm (k1 y hy).2.2.1
        · simp at hc
          subst hc
          exact Ne.symm hne
  · rcases List.mem_append.mp hy with hy | hy
    · obtain ⟨k2, k3, k4, k5⟩ := k1 y hy
      obtain ⟨h1, h2⟩ := h.2 y hy
      exact ⟨by rw [us_ne _ _ k3, us_ne _ _ k2]; exact h1, by rw [us_ne _ _ k5, us_ne _ _ k4]; exact h2⟩
    · simp at hy
      subst hy
      exact ⟨by rw [us_ne _ _ (Ne.symm hne), us_same], us_same _ _ _⟩
theorem WE.row {w : Wd} {o q r b : Nat} (hq : w q = none) (hr : w r = none) : WE w (us (us w q (rowC r)) r (arrC b)) o := fun a y hy _ => by
  have h1 : a ≠ q := fun z => by rw [z, hq] at hy; cases hy
  have h2 : a ≠ r := fun z => by rw [z, hr] at hy; cases hy
  rw [us_ne _ _ h2, us_ne _ _ h1]; exact hy
section CINI
variable {p : Program} {l : Launch} {e : Env} {s : State} {m : MethodId} {args : Array Value} {below : List Frame} {meth : Method} {c : Code} {R : Room} {G : Gd} {A : Nat → Prop} {Q : State → Prop} {k n : Nat} {w : Wd}
set_option maxRecDepth 4000 in
theorem e_row (q b : Nat) (hb : b ≤ 1000) : Ct 1 1 b yX2_init cX2_init 2 (none) G A [.ref q, .int (nI b)] (Hd G A (us w q row0)) (none) (fun H => ∃ r, (w r = none ∧ r ≠ q) ∧ Hd G A (us (us w q (rowC r)) r (arrC b)) H) := by
  refine Ct.of 0 rfl rfl (Nat.le_of_ble_eq_true rfl) ?_
  intro p l e s m below meth c hini
  refine k_aload_n (pc := 0) dX2_init_0 rfl ?_
  refine k_objInit gw_28 gw_14 gw_15 (pc := 1) dX2_init_1 (Nat.le_of_ble_eq_true rfl) (Nat.le_of_ble_eq_true rfl) ?_
  refine k_aload_n (pc := 4) dX2_init_4 rfl ?_
  refine k_iload_n (pc := 5) dX2_init_5 rfl ?_
  refine k_iconst (v := 0) (pc := 6) dX2_init_6 (by decide) ?_
  refine k_mmax (pc := 7) dX2_init_7 (Nat.le_of_ble_eq_true rfl) (Nat.le_of_ble_eq_true rfl) (Nat.le_of_ble_eq_true rfl) (Nat.zero_le _) ?_
  have hmx : (if nI b < 0 then (0 : Int32) else nI b) = nI b := if_neg (nI_pos (by omega))
  rw [hmx]
  refine k_anew (t := 3) (N := b) gw_32 (fun U h => h.2.2.1) rfl rfl (by omega) (by omega) (Nat.le_of_ble_eq_true rfl) (by show 0 + b ≤ b; omega) (pc := 10) dX2_init_10 fun r hr => ?_
  have hrq : r ≠ q := fun z => by rw [z, us_same] at hr; cases hr
  have hwr : w r = none := by rw [us_ne _ _ hrq] at hr; exact hr
  refine p_X2_17 (hini rfl) (pc := 13) dX2_init_13 (fs := [.null, .int 0]) ((us_ne _ _ (Ne.symm hrq)).trans (us_same _ _ _)) rfl rfl (Nat.le_of_ble_eq_true rfl) ?_
  rw [us_comm _ _ _ (Ne.symm hrq), us_us, us_comm _ _ _ hrq]
  exact k_vret (pc := 16) dX2_init_16 (fun H hH => ⟨r, ⟨hwr, hrq⟩, hH⟩) (Nat.le_of_ble_eq_true rfl) (by show 0 + b ≤ b; omega)
/-- what a loop of `new Row(8)` has made -/
def LPr (w : Wd) (o nn : Nat) (obj : Nat → Ce) (w2 : Wd) (pq : Nat) (rs : Rs) : Prop :=
  WE w w2 o ∧ w2 o = some (obj pq) ∧ w pq = none ∧ (∃ g : Nat → Option Nat, w2 pq = some (.inl (4, nn, fun j => va_rf (g j))) ∧ ∀ j, j < rs.length → g j = some (rwA rs j)) ∧ RO rs w2 ∧ (∀ y ∈ rs, y.2.2 = 8) ∧ ∀ y ∈ rs, w y.1 = none ∧ w y.2.1 = none
theorem fresh_of {w w2 : Wd} {o q : Nat} (h : WE w w2 o) (ho : w2 o ≠ none) (hq : w2 q = none) : w q = none := by
  cases hw : w q with
  | none => rfl
  | some x =>
    by_cases hqo : q = o
    · rw [hqo] at hq; exact absurd hq ho
    · rw [h q x hw hqo] at hq; cases hq
theorem rs_ne {rs : Rs} {w : Wd} (h : RO rs w) {o : Nat} {x : Ce} (ho : w o = some x) (h1 : ∀ r, x ≠ rowC r) (h2 : ∀ b, x ≠ arrC b) : ∀ y ∈ rs, y.1 ≠ o ∧ y.2.1 ≠ o := fun y hy =>
  ⟨fun z => (by have := (h.2 y hy).1; rw [z, ho] at this; exact h1 _ (Option.some.inj this)), fun z => (by have := (h.2 y hy).2; rw [z, ho] at this; exact h2 _ (Option.some.inj this))⟩
/-- one more row, stored into the array -/
theorem LPr.step {w w2 : Wd} {o nn pq q r : Nat} {obj : Nat → Ce} {rs : Rs} {g : Nat → Option Nat} (h : LPr w o nn obj w2 pq rs) (hob2 : ∀ N f, obj pq ≠ .inl (4, N, f)) (hg : w2 pq = some (.inl (4, nn, fun j => va_rf (g j)))) (hg2 : ∀ j, j < rs.length → g j = some (rwA rs j)) (hq : w2 q = none) (hr : w2 r = none) (hrq : r ≠ q) : LPr w o nn obj (us (us (us w2 q (rowC r)) r (arrC 8)) pq (.inl (4, nn, fun j => va_rf (va_up g rs.length (some q) j)))) pq (rs ++ [(q, r, 8)]) := by
  obtain ⟨h1, h2, h3, -, h4, h5, h6⟩ := h
  have hpo : pq ≠ o := fun z => by rw [z, h2] at hg; exact hob2 _ _ (Option.some.inj hg)
  have hqp : q ≠ pq := fun z => by rw [z, hg] at hq; cases hq
  have hrp : r ≠ pq := fun z => by rw [z, hg] at hr; cases hr
  have hqo : q ≠ o := fun z => by rw [z, h2] at hq; cases hq
  have hro : r ≠ o := fun z => by rw [z, h2] at hr; cases hr
  have e1 : WE w2 (us (us (us w2 q (rowC r)) r (arrC 8)) pq (.inl (4, nn, fun j => va_rf (va_up g rs.length (some q) j)))) pq := (WE.row hq hr).trans WE.put
  have hadd := h4.add (b := 8) hq hr hrq
  refine ⟨fun a x hx ha => ?_, ?_, h3, ⟨va_up g rs.length (some q), us_same _ _ _, fun j hj => ?_⟩, ?_, ?_, ?_⟩
  · exact e1 a x (h1 a x hx ha) (fun z => by rw [z, h3] at hx; cases hx)
  · exact e1 o _ h2 (Ne.symm hpo)
  · rw [List.length_append, List.length_singleton] at hj
    by_cases hjl : j = rs.length
    · subst hjl
      rw [va_up_self, rwA_last]
    · rw [va_up_ne _ _ hjl, rwA_snoc (by omega)]
      exact hg2 j (by omega)
  · refine hadd.keep (o := pq) WE.put ?_
    refine rs_ne hadd (x := .inl (4, nn, fun j => va_rf (g j))) ?_ (fun r z => by cases z) (fun b z => by cases z)
    rw [us_ne _ _ (Ne.symm hrp), us_ne _ _ (Ne.symm hqp)]
    exact hg
  · intro y hy
    rcases List.mem_append.mp hy with hy | hy
    · exact h5 y hy
    · simp at hy; subst hy; rfl
  · intro y hy
    rcases List.mem_append.mp hy with hy | hy
    · exact h6 y hy
    · simp at hy
      subst hy
      exact ⟨fresh_of h1 (by rw [h2]; simp) hq, fresh_of h1 (by rw [h2]; simp) hr⟩
end CINI
