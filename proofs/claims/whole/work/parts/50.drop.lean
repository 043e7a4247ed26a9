def passN (f : Ne → Bool) : List Ne → Int → List Ne × Int × Nat
  | [], l => ([], l, 0)
  | e :: t, l => if l ≤ 0 then (e :: t, l, 0) else if f e = true then ((passN f t (l - plc e.1)).1, (passN f t (l - plc e.1)).2.1, (passN f t (l - plc e.1)).2.2 + 1) else (e :: (passN f t l).1, (passN f t l).2.1, (passN f t l).2.2)
theorem plN_cons (e : Ne) (l : List Ne) : plN (e :: l) = plc e.1 + plN l := by simp [plN]
theorem plN_app (l m : List Ne) : plN (l ++ m) = plN l + plN m := by simp [plN]
theorem plN_nil : plN [] = 0 := rfl
theorem passN_pl (f : Ne → Bool) : ∀ (t : List Ne) (l : Int), (passN f t l).2.1 - plN (passN f t l).1 = l - plN t := by
  intro t
  induction t with
  | nil => intro l; rfl
  | cons e t ih =>
    intro l
    unfold passN
    split
    · rfl
    · split
      · have := ih (l - plc e.1)
        rw [plN_cons]
        dsimp only
        omega
      · have := ih l
        rw [plN_cons]
        dsimp only
        rw [plN_cons]
        omega
theorem passN_mem (f : Ne → Bool) : ∀ (t : List Ne) (l : Int), List.Sublist (passN f t l).1 t := by
  intro t
  induction t with
  | nil => intro l; exact List.Sublist.refl _
  | cons e t ih =>
    intro l
    unfold passN
    split
    · exact List.Sublist.refl _
    · split
      · exact (ih _).cons _
      · exact (ih _).cons_cons _
theorem passN_left (f : Ne → Bool) : ∀ (t : List Ne) (l : Int), 0 < (passN f t l).2.1 → ∀ e ∈ (passN f t l).1, f e = false := by
  intro t
  induction t with
  | nil => intro l _ e he; cases he
  | cons x t ih =>
    intro l hl e he
    unfold passN at hl he
    split at hl
    · next h => dsimp only at hl; omega
    · next h =>
      rw [if_neg h] at he
      split at hl
      · next h2 =>
        rw [if_pos h2] at he
        exact ih _ hl e he
      · next h2 =>
        rw [if_neg h2] at he
        rcases List.mem_cons.mp he with rfl | he
        · simpa using h2
        · exact ih _ hl e he
theorem passN_len (f : Ne → Bool) : ∀ (t : List Ne) (l : Int), (passN f t l).1.length + (passN f t l).2.2 = t.length := by
  intro t
  induction t with
  | nil => intro l; rfl
  | cons e t ih =>
    intro l
    unfold passN
    split
    · rfl
    · split
      · have := ih (l - plc e.1)
        simp only [List.length_cons]
        omega
      · have := ih l
        simp only [List.length_cons]
        omega
theorem addN_z (c : Nat → Int32) (j : Nat) : addN c j 0 = c := addT_0 c j
theorem addN_s (c : Nat → Int32) (j n : Nat) : addN (inc c j) j n = addN c j (n + 1) := by
  funext q
  unfold addN inc va_up
  by_cases hq : q = j
  · simp only [hq, if_true]
    rw [← nI_1, Int32.add_assoc, Int32.add_comm 1 (nI n)]
  · simp only [hq, if_false]
theorem dropAll_le {m : Nat} {l : List Ne} {c : Nat → Int32} (h : plN l ≤ 32) : dropAll m l c = (l, c) := by
  cases m with
  | zero => rfl
  | succ m => exact if_neg (by omega)
theorem er_app {α : Type} (P : List α) (e : α) (Q : List α) : (P ++ e :: Q).eraseIdx P.length = P ++ Q := by
  induction P with
  | nil => rfl
  | cons x P ih => simp only [List.cons_append, List.length_cons, List.eraseIdx_cons_succ, ih]
theorem fi_app {α : Type} (q : α → Bool) (P : List α) (e : α) (Q : List α) (hP : ∀ x ∈ P, q x = false) (he : q e = true) : (P ++ e :: Q).findIdx? q = some P.length := by
  rw [List.findIdx?_eq_some_iff_getElem]
  refine ⟨by simp, by simpa using he, fun j hj => ?_⟩
  rw [List.getElem_append_left hj]
  simpa using hP _ (List.getElem_mem hj)
theorem fi_none {α : Type} (q : α → Bool) (P : List α) (hP : ∀ x ∈ P, q x = false) : P.findIdx? q = none := by
  rw [List.findIdx?_eq_none_iff]
  exact fun x hx => by simpa using hP x hx
/-- first pass: what stood and has no mark -/
theorem drop1 {NG : List Ne} (hG : ∀ e ∈ NG, e.2.2 = false) : ∀ (NS P : List Ne) (n : Nat) (c : Nat → Int32), (∀ e ∈ P, e.2.2 = true ∧ e.2.1 = true) → (∀ e ∈ NS, e.2.2 = true) → NS.length ≤ n →
    dropAll n (P ++ NS ++ NG) c = dropAll (n - (passN (fun e => !e.2.1) NS ((plN (P ++ NS ++ NG) : Int) - 32)).2.2) (P ++ (passN (fun e => !e.2.1) NS ((plN (P ++ NS ++ NG) : Int) - 32)).1 ++ NG) (addN c 6 (passN (fun e => !e.2.1) NS ((plN (P ++ NS ++ NG) : Int) - 32)).2.2) := by
  intro NS
  induction NS with
  | nil =>
    intro P n c _ _ _
    show _ = dropAll (n - 0) (P ++ [] ++ NG) (addN c 6 0)
    rw [addN_z]
    rfl
  | cons e NS ih =>
    intro P n c hP hS hn
    by_cases hov : ((plN (P ++ (e :: NS) ++ NG) : Int) - 32) ≤ 0
    · have : passN (fun e => !e.2.1) (e :: NS) ((plN (P ++ (e :: NS) ++ NG) : Int) - 32) = (e :: NS, (plN (P ++ (e :: NS) ++ NG) : Int) - 32, 0) := if_pos hov
      rw [this]
      show _ = dropAll (n - 0) _ (addN c 6 0)
      rw [addN_z]
      rfl
    · cases hm : e.2.1 with
      | false =>
        have hp : passN (fun e => !e.2.1) (e :: NS) ((plN (P ++ (e :: NS) ++ NG) : Int) - 32) = ((passN (fun e => !e.2.1) NS ((plN (P ++ (e :: NS) ++ NG) : Int) - 32 - plc e.1)).1, (passN (fun e => !e.2.1) NS ((plN (P ++ (e :: NS) ++ NG) : Int) - 32 - plc e.1)).2.1, (passN (fun e => !e.2.1) NS ((plN (P ++ (e :: NS) ++ NG) : Int) - 32 - plc e.1)).2.2 + 1) := by
          rw [passN, if_neg hov, if_pos (by simp [hm])]
        have hsum : (plN (P ++ (e :: NS) ++ NG) : Int) - 32 - plc e.1 = (plN (P ++ NS ++ NG) : Int) - 32 := by
          simp only [plN_app, plN_cons]
          omega
        rw [hp, hsum]
        obtain ⟨n', rfl⟩ : ∃ n', n = n' + 1 := ⟨n - 1, by simp only [List.length_cons] at hn; omega⟩
        have hd : dropS (P ++ (e :: NS) ++ NG) c = (P ++ NS ++ NG, inc c 6) := by
          unfold dropS
          rw [show P ++ (e :: NS) ++ NG = P ++ e :: (NS ++ NG) from by simp, fi_app _ P e _ (fun x hx => by simp [(hP x hx).2]) (by simp [hm, hS e List.mem_cons_self])]
          dsimp only
          rw [er_app, List.append_assoc]
        have hs : dropAll (n' + 1) (P ++ (e :: NS) ++ NG) c = dropAll n' (P ++ NS ++ NG) (inc c 6) := by
          rw [dropAll, if_pos (by omega), hd]
        rw [hs, ih P n' (inc c 6) hP (fun x hx => hS x (List.mem_cons_of_mem _ hx)) (by simp only [List.length_cons] at hn; omega)]
        dsimp only
        rw [addN_s, Nat.add_sub_add_right]
      | true =>
        have hp : passN (fun e => !e.2.1) (e :: NS) ((plN (P ++ (e :: NS) ++ NG) : Int) - 32) = (e :: (passN (fun e => !e.2.1) NS ((plN (P ++ (e :: NS) ++ NG) : Int) - 32)).1, (passN (fun e => !e.2.1) NS ((plN (P ++ (e :: NS) ++ NG) : Int) - 32)).2.1, (passN (fun e => !e.2.1) NS ((plN (P ++ (e :: NS) ++ NG) : Int) - 32)).2.2) := by
          rw [passN, if_neg hov, if_neg (by simp [hm])]
        have h1 := ih (P ++ [e]) n c (fun x hx => by
          rcases List.mem_append.mp hx with hx | hx
          · exact hP x hx
          · simp at hx; subst hx; exact ⟨hS _ List.mem_cons_self, hm⟩) (fun x hx => hS x (List.mem_cons_of_mem _ hx)) (by simp only [List.length_cons] at hn; omega)
        rw [show P ++ [e] ++ NS ++ NG = P ++ (e :: NS) ++ NG from by simp] at h1
        rw [hp, h1]
        simp
/-- second pass: what stood -/
theorem drop2 {NG : List Ne} (hG : ∀ e ∈ NG, e.2.2 = false) : ∀ (NS : List Ne) (n : Nat) (c : Nat → Int32), (∀ e ∈ NS, e.2.2 = true ∧ e.2.1 = true) → NS.length ≤ n →
    dropAll n (NS ++ NG) c = dropAll (n - (passN (fun _ => true) NS ((plN (NS ++ NG) : Int) - 32)).2.2) ((passN (fun _ => true) NS ((plN (NS ++ NG) : Int) - 32)).1 ++ NG) (addN c 7 (passN (fun _ => true) NS ((plN (NS ++ NG) : Int) - 32)).2.2) := by
  intro NS
  induction NS with
  | nil =>
    intro n c _ _
    show _ = dropAll (n - 0) ([] ++ NG) (addN c 7 0)
    rw [addN_z]
    rfl
  | cons e NS ih =>
    intro n c hS hn
    by_cases hov : ((plN ((e :: NS) ++ NG) : Int) - 32) ≤ 0
    · have : passN (fun _ => true) (e :: NS) ((plN ((e :: NS) ++ NG) : Int) - 32) = (e :: NS, (plN ((e :: NS) ++ NG) : Int) - 32, 0) := if_pos hov
      rw [this]
      show _ = dropAll (n - 0) _ (addN c 7 0)
      rw [addN_z]
      rfl
    · have hp : passN (fun _ => true) (e :: NS) ((plN ((e :: NS) ++ NG) : Int) - 32) = ((passN (fun _ => true) NS ((plN ((e :: NS) ++ NG) : Int) - 32 - plc e.1)).1, (passN (fun _ => true) NS ((plN ((e :: NS) ++ NG) : Int) - 32 - plc e.1)).2.1, (passN (fun _ => true) NS ((plN ((e :: NS) ++ NG) : Int) - 32 - plc e.1)).2.2 + 1) := by
        rw [passN, if_neg hov, if_pos rfl]
      have hsum : (plN ((e :: NS) ++ NG) : Int) - 32 - plc e.1 = (plN (NS ++ NG) : Int) - 32 := by
        simp only [plN_app, plN_cons]
        omega
      rw [hp, hsum]
      obtain ⟨n', rfl⟩ : ∃ n', n = n' + 1 := ⟨n - 1, by simp only [List.length_cons] at hn; omega⟩
      have hd : dropS ((e :: NS) ++ NG) c = (NS ++ NG, inc c 7) := by
        unfold dropS
        rw [fi_none _ ((e :: NS) ++ NG) (fun x hx => by
          rcases List.mem_append.mp hx with hx | hx
          · simp [(hS x hx).2]
          · simp [hG x hx])]
        dsimp only
        rw [show ((e :: NS) ++ NG) = [] ++ e :: (NS ++ NG) from rfl, fi_app _ [] e _ (fun x hx => by cases hx) (hS e List.mem_cons_self).1]
        rfl
      have hs : dropAll (n' + 1) ((e :: NS) ++ NG) c = dropAll n' (NS ++ NG) (inc c 7) := by
        rw [dropAll, if_pos (by omega), hd]
      rw [hs, ih n' (inc c 7) (fun x hx => hS x (List.mem_cons_of_mem _ hx)) (by simp only [List.length_cons] at hn; omega)]
      dsimp only
      rw [addN_s, Nat.add_sub_add_right]
/-- third pass: what was moved -/
theorem drop3 : ∀ (NG : List Ne) (n : Nat) (c : Nat → Int32), (∀ e ∈ NG, e.2.2 = false) → NG.length ≤ n →
    dropAll n NG c = ((passN (fun _ => true) NG ((plN NG : Int) - 32)).1, addN c 8 (passN (fun _ => true) NG ((plN NG : Int) - 32)).2.2) := by
  intro NG
  induction NG with
  | nil =>
    intro n c _ _
    rw [dropAll_le (by decide)]
    show _ = ([], addN c 8 0)
    rw [addN_z]
  | cons e NG ih =>
    intro n c hG hn
    by_cases hov : ((plN (e :: NG) : Int) - 32) ≤ 0
    · have : passN (fun _ => true) (e :: NG) ((plN (e :: NG) : Int) - 32) = (e :: NG, (plN (e :: NG) : Int) - 32, 0) := if_pos hov
      rw [this, dropAll_le (by omega)]
      show _ = (e :: NG, addN c 8 0)
      rw [addN_z]
    · have hp : passN (fun _ => true) (e :: NG) ((plN (e :: NG) : Int) - 32) = ((passN (fun _ => true) NG ((plN (e :: NG) : Int) - 32 - plc e.1)).1, (passN (fun _ => true) NG ((plN (e :: NG) : Int) - 32 - plc e.1)).2.1, (passN (fun _ => true) NG ((plN (e :: NG) : Int) - 32 - plc e.1)).2.2 + 1) := by
        rw [passN, if_neg hov, if_pos rfl]
      have hsum : (plN (e :: NG) : Int) - 32 - plc e.1 = (plN NG : Int) - 32 := by
        rw [plN_cons]
        omega
      rw [hp, hsum]
      obtain ⟨n', rfl⟩ : ∃ n', n = n' + 1 := ⟨n - 1, by simp only [List.length_cons] at hn; omega⟩
      have hd : dropS (e :: NG) c = (NG, inc c 8) := by
        unfold dropS
        rw [fi_none _ (e :: NG) (fun x hx => by simp [hG x hx])]
        dsimp only
        rw [fi_none _ (e :: NG) (fun x hx => hG x hx)]
        rfl
      have hs : dropAll (n' + 1) (e :: NG) c = dropAll n' NG (inc c 8) := by
        rw [dropAll, if_pos (by omega), hd]
      rw [hs, ih n' (inc c 8) (fun x hx => hG x (List.mem_cons_of_mem _ hx)) (by simp only [List.length_cons] at hn; omega), addN_s]
def ps1 (NS NG : List Ne) : List Ne × Int × Nat := passN (fun e => !e.2.1) NS ((plN (NS ++ NG) : Int) - 32)
def ps2 (NS NG : List Ne) : List Ne × Int × Nat := passN (fun _ => true) (ps1 NS NG).1 (ps1 NS NG).2.1
def ps3 (NS NG : List Ne) : List Ne × Int × Nat := passN (fun _ => true) NG (ps2 NS NG).2.1
theorem passN_0 (f : Ne → Bool) {t : List Ne} {l : Int} (h : l ≤ 0) : passN f t l = (t, l, 0) := by
  cases t with
  | nil => rfl
  | cons e t => exact if_pos h
/-- the three passes are what dropping one by one comes to -/
theorem drop_all {NS NG : List Ne} (hS : ∀ e ∈ NS, e.2.2 = true) (hG : ∀ e ∈ NG, e.2.2 = false) (hpos : ∀ e ∈ NG, 0 < plc e.1) (c : Nat → Int32) : dropAll (NS ++ NG).length (NS ++ NG) c = ((ps2 NS NG).1 ++ (ps3 NS NG).1, addN (addN (addN c 6 (ps1 NS NG).2.2) 7 (ps2 NS NG).2.2) 8 (ps3 NS NG).2.2) ∧ plN ((ps2 NS NG).1 ++ (ps3 NS NG).1) ≤ 32 := by
  have h1 := drop1 hG NS [] (NS ++ NG).length c (fun e he => by cases he) hS (by simp)
  simp only [List.nil_append] at h1
  have e1 : (ps1 NS NG).2.1 - plN (ps1 NS NG).1 = (plN (NS ++ NG) : Int) - 32 - plN NS := passN_pl (fun e : Ne => !e.2.1) NS ((plN (NS ++ NG) : Int) - 32)
  have l1 := passN_len (fun e : Ne => !e.2.1) NS ((plN (NS ++ NG) : Int) - 32)
  have e1' : (ps1 NS NG).2.1 = (plN ((ps1 NS NG).1 ++ NG) : Int) - 32 := by
    have q1 := plN_app NS NG
    have q2 := plN_app (ps1 NS NG).1 NG
    omega
  have h1' : dropAll (NS ++ NG).length (NS ++ NG) c = dropAll ((NS ++ NG).length - (ps1 NS NG).2.2) ((ps1 NS NG).1 ++ NG) (addN c 6 (ps1 NS NG).2.2) := h1
  have l1' : (ps1 NS NG).1.length + (ps1 NS NG).2.2 = NS.length := l1
  have hn1 : (ps1 NS NG).1.length + NG.length ≤ (NS ++ NG).length - (ps1 NS NG).2.2 := by rw [List.length_append]; omega
  have hm1 : 0 < (ps1 NS NG).2.1 → ∀ e ∈ (ps1 NS NG).1, e.2.2 = true ∧ e.2.1 = true := fun hl e he => ⟨hS e ((passN_mem _ _ _).subset he), by simpa using passN_left _ _ _ hl e he⟩
  rw [h1']
  generalize (NS ++ NG).length - (ps1 NS NG).2.2 = n1 at hn1 ⊢
  generalize addN c 6 (ps1 NS NG).2.2 = c1
  have e2 : (ps2 NS NG).2.1 - plN (ps2 NS NG).1 = (ps1 NS NG).2.1 - plN (ps1 NS NG).1 := passN_pl (fun _ : Ne => true) (ps1 NS NG).1 (ps1 NS NG).2.1
  have e2' : (ps2 NS NG).2.1 = (plN ((ps2 NS NG).1 ++ NG) : Int) - 32 := by
    have q1 := plN_app (ps1 NS NG).1 NG
    have q2 := plN_app (ps2 NS NG).1 NG
    omega
  by_cases ho1 : (ps1 NS NG).2.1 ≤ 0
  · have k2 : ps2 NS NG = ((ps1 NS NG).1, (ps1 NS NG).2.1, 0) := passN_0 _ ho1
    have k3 : ps3 NS NG = (NG, (ps2 NS NG).2.1, 0) := passN_0 _ (by rw [k2]; exact ho1)
    rw [k3, k2, dropAll_le (by omega)]
    dsimp only
    rw [addN_z, addN_z]
    exact ⟨rfl, by omega⟩
  · have h2 := drop2 hG (ps1 NS NG).1 n1 c1 (hm1 (by omega)) (by omega)
    rw [← e1'] at h2
    have h2' : dropAll n1 ((ps1 NS NG).1 ++ NG) c1 = dropAll (n1 - (ps2 NS NG).2.2) ((ps2 NS NG).1 ++ NG) (addN c1 7 (ps2 NS NG).2.2) := h2
    have l2 : (ps2 NS NG).1.length + (ps2 NS NG).2.2 = (ps1 NS NG).1.length := passN_len _ _ _
    rw [h2']
    by_cases ho2 : (ps2 NS NG).2.1 ≤ 0
    · have k3 : ps3 NS NG = (NG, (ps2 NS NG).2.1, 0) := passN_0 _ ho2
      rw [k3, dropAll_le (by omega)]
      dsimp only
      rw [addN_z]
      exact ⟨rfl, by omega⟩
    · have hnil : (ps2 NS NG).1 = [] := List.eq_nil_iff_forall_not_mem.mpr fun e he => by have := passN_left (fun _ : Ne => true) _ _ (by show 0 < (ps2 NS NG).2.1; omega) e he; cases this
      have e2'' : (ps2 NS NG).2.1 = (plN NG : Int) - 32 := by rw [e2', hnil]; rfl
      have h3 := drop3 NG (n1 - (ps2 NS NG).2.2) (addN c1 7 (ps2 NS NG).2.2) hG (by omega)
      rw [← e2''] at h3
      rw [hnil, List.nil_append, h3]
      refine ⟨rfl, ?_⟩
      have e3 := passN_pl (fun _ : Ne => true) NG (ps2 NS NG).2.1
      have e3' : (ps3 NS NG).2.1 - plN (ps3 NS NG).1 = (ps2 NS NG).2.1 - plN NG := e3
      by_cases ho3 : (ps3 NS NG).2.1 ≤ 0
      · rw [List.nil_append]; omega
      · have hnil3 : (ps3 NS NG).1 = [] := List.eq_nil_iff_forall_not_mem.mpr fun e he => by have := passN_left (fun _ : Ne => true) _ _ (by show 0 < (ps3 NS NG).2.1; omega) e he; cases this
        rw [hnil3]
        decide
