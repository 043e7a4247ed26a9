def passO (it : Nat → Da) (f : Nat → Bool) : List (Option Nat) → Int → List (Option Nat) × Int × Nat
  | [], l => ([], l, 0)
  | none :: t, l => if l ≤ 0 then (none :: t, l, 0) else (none :: (passO it f t l).1, (passO it f t l).2.1, (passO it f t l).2.2)
  | some a :: t, l => if l ≤ 0 then (some a :: t, l, 0) else if f a = true then (none :: (passO it f t (l - plc (it a))).1, (passO it f t (l - plc (it a))).2.1, (passO it f t (l - plc (it a))).2.2 + 1) else (some a :: (passO it f t l).1, (passO it f t l).2.1, (passO it f t l).2.2)
theorem passO_len (it : Nat → Da) (f : Nat → Bool) : ∀ (t : List (Option Nat)) (l : Int), (passO it f t l).1.length = t.length := by
  intro t
  induction t with
  | nil => intro l; rfl
  | cons o t ih =>
    intro l
    cases o with
    | none =>
      unfold passO
      split
      · rfl
      · simp only [List.length_cons, ih]
    | some a =>
      unfold passO
      split
      · rfl
      · split
        · simp only [List.length_cons, ih]
        · simp only [List.length_cons, ih]
theorem dpS_pass (it : Nat → Da) (mk : Nat → Bool) (sp : Bool) : ∀ (seg pre post : List (Option Nat)) (l : Int) (c : Nat), dpS it mk sp seg.length pre.length (pre ++ seg ++ post) l c = (pre ++ (passO it (fun a => !(sp && mk a)) seg l).1 ++ post, (passO it (fun a => !(sp && mk a)) seg l).2.1, c + (passO it (fun a => !(sp && mk a)) seg l).2.2) := by
  intro seg
  induction seg with
  | nil => intro pre post l c; rfl
  | cons o t ih =>
    intro pre post l c
    have hat : (pre ++ (o :: t) ++ post)[pre.length]? = some o := by simp
    by_cases hl : l ≤ 0
    · have h1 : dpS it mk sp (o :: t).length pre.length (pre ++ (o :: t) ++ post) l c = (pre ++ (o :: t) ++ post, l, c) := by
        rw [List.length_cons, dpS, if_pos hl]
      rw [h1]
      cases o with
      | none => rw [passO, if_pos hl]; rfl
      | some a => rw [passO, if_pos hl]; rfl
    · rw [List.length_cons, dpS, if_neg hl, hat]
      cases o with
      | none =>
        have := ih (pre ++ [none]) post l c
        rw [List.length_append, List.length_singleton, show pre ++ [none] ++ t ++ post = pre ++ (none :: t) ++ post from by simp] at this
        rw [passO, if_neg hl]
        dsimp only
        rw [this]
        simp
      | some a =>
        dsimp only
        by_cases hs : (sp && mk a) = true
        · have := ih (pre ++ [some a]) post l c
          rw [List.length_append, List.length_singleton, show pre ++ [some a] ++ t ++ post = pre ++ (some a :: t) ++ post from by simp] at this
          rw [if_pos hs, this, passO, if_neg hl, if_neg (by simp [hs])]
          simp
        · have hset : (pre ++ (some a :: t) ++ post).set pre.length none = pre ++ (none :: t) ++ post := by simp
          have := ih (pre ++ [none]) post (l - plc (it a)) (c + 1)
          rw [List.length_append, List.length_singleton, show pre ++ [none] ++ t ++ post = pre ++ (none :: t) ++ post from by simp] at this
          rw [if_neg hs, hset, this, passO, if_neg hl, if_pos (by rw [Bool.eq_false_iff.mpr hs]; rfl)]
          simp
          omega
theorem pass_ON (it : Nat → Da) (f : Nat → Bool) (f' : Ne → Bool) (g : Nat → Ne) (h1 : ∀ a, (g a).1 = it a) (h2 : ∀ a, f' (g a) = f a) : ∀ (t : List (Option Nat)) (l : Int), passN f' ((t.filterMap id).map g) l = (((passO it f t l).1.filterMap id).map g, (passO it f t l).2.1, (passO it f t l).2.2) := by
  intro t
  induction t with
  | nil => intro l; rfl
  | cons o t ih =>
    intro l
    by_cases hl : l ≤ 0
    · rw [passN_0 _ hl]
      cases o with
      | none => rw [passO, if_pos hl]
      | some a => rw [passO, if_pos hl]
    · cases o with
      | none =>
        rw [passO, if_neg hl]
        have := ih l
        simpa using this
      | some a =>
        rw [passO, if_neg hl]
        simp only [List.filterMap_cons, id, List.map_cons]
        rw [passN, if_neg hl, h2, h1]
        split
        · rw [ih]
          simp
        · rw [ih]
          simp
theorem fm_some (l : List Nat) : (l.map some).filterMap id = l := by
  induction l with
  | nil => rfl
  | cons x l ih => simp
theorem filt_fm (l : List (Option Nat)) : l.filter Option.isSome = (l.filterMap id).map some := by
  induction l with
  | nil => rfl
  | cons o l ih =>
    cases o with
    | none => simpa using ih
    | some a => simpa using ih
theorem passO_sub (it : Nat → Da) (f : Nat → Bool) : ∀ (t : List (Option Nat)) (l : Int), List.Sublist ((passO it f t l).1.filterMap id) (t.filterMap id) := by
  intro t
  induction t with
  | nil => intro l; exact List.Sublist.refl _
  | cons o t ih =>
    intro l
    cases o with
    | none =>
      rw [passO]
      split
      · exact List.Sublist.refl _
      · simpa using ih l
    | some a =>
      rw [passO]
      split
      · exact List.Sublist.refl _
      · split
        · simpa using (ih _).cons a
        · simpa using (ih l).cons_cons a
def gS (it : Nat → Da) (mk : Nat → Bool) (a : Nat) : Ne := (it a, mk a, true)
def gG (it : Nat → Da) (mk : Nat → Bool) (a : Nat) : Ne := (it a, mk a, false)
theorem plN_map {it : Nat → Da} {g : Nat → Ne} (h : ∀ a, (g a).1 = it a) (l : List Nat) : plN (l.map g) = (l.map (fun a => plc (it a))).sum := by
  unfold plN
  rw [List.map_map]
  congr 1
  exact List.map_congr_left fun a _ => by show plc (g a).1 = _; rw [h]
theorem plR_map {it : Nat → Da} (l : List Nat) : plR it (l.map some) = (l.map (fun a => plc (it a))).sum := by
  unfold plR
  rw [List.map_map]
  rfl
theorem sum_len {it : Nat → Da} {l : List Nat} (h : ∀ a ∈ l, okD (it a)) : 4 * l.length ≤ (l.map (fun a => plc (it a))).sum := by
  induction l with
  | nil => simp
  | cons a l ih =>
    have h1 := ih (fun x hx => h x (List.mem_cons_of_mem _ hx))
    have h2 := plc_ge (h a List.mem_cons_self)
    rw [List.map_cons, List.sum_cons, List.length_cons]
    omega
theorem mv_ok (it : Nat → Da) (mk : Nat → Bool) {cp : Nat} {pgl gl : List (Option Nat)} {bs0 gs : List Nat} (hb : pgl.filter (notIn it gl) = bs0.map some) (hg : gl = gs.map some) (hcp : bs0.length + gs.length ≤ cp) (hok : ∀ a ∈ bs0 ++ gs, okD (it a)) :
    ∃ bs' : List Nat, mvPg cp 8 it mk pgl gl = bs'.map some ∧ List.Sublist bs' (bs0 ++ gs) ∧ (∀ b, some b ∈ (mvD3 cp it mk pgl gl).1 ↔ b ∈ bs') ∧ (∀ c, (dropAll (bs0.map (gS it mk) ++ gs.map (gG it mk)).length (bs0.map (gS it mk) ++ gs.map (gG it mk)) c).1.map (fun e => e.1) = bs'.map it ∧ (dropAll (bs0.map (gS it mk) ++ gs.map (gG it mk)).length (bs0.map (gS it mk) ++ gs.map (gG it mk)) c).2 = addN (addN (addN c 6 (mvD1 cp it mk pgl gl).2.2) 7 (mvD2 cp it mk pgl gl).2.2) 8 (mvD3 cp it mk pgl gl).2.2) ∧ (bs'.map (fun a => plc (it a))).sum ≤ 32 := by
  have hB0 : mvB0 cp it pgl gl = bs0.map some := by
    unfold mvB0
    rw [hb, adds_id _ _ (by rw [List.length_map]; simp; omega)]
    rfl
  have hB1 : mvB1 cp it pgl gl = bs0.map some ++ gs.map some := by
    unfold mvB1
    rw [hB0, adds_id _ _ (by rw [hg, List.length_map, List.length_map]; exact hcp), hg]
  have hl0 : ((plR it (mvB1 cp it pgl gl) : Int) - 32) = ((plN (bs0.map (gS it mk) ++ gs.map (gG it mk)) : Int) - 32) := by
    rw [hB1, ← List.map_append, plR_map, plN_app, plN_map (it := it) (g := gS it mk) (fun _ => rfl), plN_map (it := it) (g := gG it mk) (fun _ => rfl), List.map_append, List.sum_append]
  generalize hL0 : ((plN (bs0.map (gS it mk) ++ gs.map (gG it mk)) : Int) - 32) = l0 at hl0
  have d1 : mvD1 cp it mk pgl gl = ((passO it (fun a => !mk a) (bs0.map some) l0).1 ++ gs.map some, (passO it (fun a => !mk a) (bs0.map some) l0).2.1, (passO it (fun a => !mk a) (bs0.map some) l0).2.2) := by
    unfold mvD1
    rw [hl0, hB0, hB1]
    have := dpS_pass it mk true (bs0.map some) [] (gs.map some) l0 0
    simpa using this
  have n1 := passO_len it (fun a => !mk a) (bs0.map some) l0
  have p1 : ps1 (bs0.map (gS it mk)) (gs.map (gG it mk)) = ((((passO it (fun a => !mk a) (bs0.map some) l0).1).filterMap id).map (gS it mk), (passO it (fun a => !mk a) (bs0.map some) l0).2.1, (passO it (fun a => !mk a) (bs0.map some) l0).2.2) := by
    unfold ps1
    rw [hL0]
    have := pass_ON it (fun a => !mk a) (fun e => !e.2.1) (gS it mk) (fun _ => rfl) (fun _ => rfl) (bs0.map some) l0
    rw [fm_some] at this
    exact this
  have s1 := passO_sub it (fun a => !mk a) (bs0.map some) l0
  rw [fm_some] at s1
  generalize passO it (fun a => !mk a) (bs0.map some) l0 = r1 at d1 n1 p1 s1
  have d2 : mvD2 cp it mk pgl gl = ((passO it (fun _ => true) r1.1 r1.2.1).1 ++ gs.map some, (passO it (fun _ => true) r1.1 r1.2.1).2.1, (passO it (fun _ => true) r1.1 r1.2.1).2.2) := by
    unfold mvD2
    rw [d1, hB0, ← n1]
    have := dpS_pass it mk false r1.1 [] (gs.map some) r1.2.1 0
    simpa using this
  have n2 := passO_len it (fun _ => true) r1.1 r1.2.1
  have p2 : ps2 (bs0.map (gS it mk)) (gs.map (gG it mk)) = ((((passO it (fun _ => true) r1.1 r1.2.1).1).filterMap id).map (gS it mk), (passO it (fun _ => true) r1.1 r1.2.1).2.1, (passO it (fun _ => true) r1.1 r1.2.1).2.2) := by
    unfold ps2
    rw [p1]
    exact pass_ON it (fun _ => true) (fun _ => true) (gS it mk) (fun _ => rfl) (fun _ => rfl) r1.1 r1.2.1
  have s2 := passO_sub it (fun _ => true) r1.1 r1.2.1
  generalize passO it (fun _ => true) r1.1 r1.2.1 = r2 at d2 n2 p2 s2
  have d3 : mvD3 cp it mk pgl gl = (r2.1 ++ (passO it (fun _ => true) (gs.map some) r2.2.1).1, (passO it (fun _ => true) (gs.map some) r2.2.1).2.1, (passO it (fun _ => true) (gs.map some) r2.2.1).2.2) := by
    unfold mvD3
    rw [d2, hB0, hB1]
    have := dpS_pass it mk false (gs.map some) r2.1 [] r2.2.1 0
    rw [n2, n1] at this
    simpa using this
  have p3 : ps3 (bs0.map (gS it mk)) (gs.map (gG it mk)) = ((((passO it (fun _ => true) (gs.map some) r2.2.1).1).filterMap id).map (gG it mk), (passO it (fun _ => true) (gs.map some) r2.2.1).2.1, (passO it (fun _ => true) (gs.map some) r2.2.1).2.2) := by
    unfold ps3
    rw [p2]
    have := pass_ON it (fun _ => true) (fun _ => true) (gG it mk) (fun _ => rfl) (fun _ => rfl) (gs.map some) r2.2.1
    rw [fm_some] at this
    exact this
  have s3 := passO_sub it (fun _ => true) (gs.map some) r2.2.1
  rw [fm_some] at s3
  generalize passO it (fun _ => true) (gs.map some) r2.2.1 = r3 at d3 p3 s3
  have hS : ∀ e ∈ bs0.map (gS it mk), e.2.2 = true := fun e he => by obtain ⟨a, -, rfl⟩ := List.mem_map.mp he; rfl
  have hG : ∀ e ∈ gs.map (gG it mk), e.2.2 = false := fun e he => by obtain ⟨a, -, rfl⟩ := List.mem_map.mp he; rfl
  have hpos : ∀ e ∈ gs.map (gG it mk), 0 < plc e.1 := fun e he => by obtain ⟨a, ha, rfl⟩ := List.mem_map.mp he; show 0 < 3 + _; omega
  have hsub : List.Sublist (r2.1.filterMap id ++ r3.1.filterMap id) (bs0 ++ gs) := List.Sublist.append (s2.trans s1) s3
  have hlast := fun c => drop_all hS hG hpos c
  have hsum : ((r2.1.filterMap id ++ r3.1.filterMap id).map (fun a => plc (it a))).sum ≤ 32 := by
    have h0 := (hlast (fun _ => 0)).2
    rw [p2, p3] at h0
    dsimp only at h0
    rw [plN_app, plN_map (it := it) (g := gS it mk) (fun _ => rfl), plN_map (it := it) (g := gG it mk) (fun _ => rfl)] at h0
    rw [List.map_append, List.sum_append]
    exact h0
  have hlen := sum_len (it := it) (l := r2.1.filterMap id ++ r3.1.filterMap id) (fun a ha => hok a (hsub.subset ha))
  refine ⟨r2.1.filterMap id ++ r3.1.filterMap id, ?_, hsub, fun b => ?_, fun c => ?_, hsum⟩
  · unfold mvPg
    rw [d3]
    dsimp only
    rw [List.filter_append, filt_fm, filt_fm, ← List.map_append, adds_id _ _ (by rw [List.length_map]; simp only [List.length_nil]; omega)]
    rfl
  · rw [d3]
    simp
  · rw [(hlast c).1, p1, p2, p3, d1, d2, d3]
    dsimp only
    refine ⟨?_, rfl⟩
    rw [List.map_append, List.map_append, List.map_map, List.map_map]
    rfl
