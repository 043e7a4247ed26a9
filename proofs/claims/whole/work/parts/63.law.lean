def lwA (N0 : Nat) (q : Nat) : Prop := N0 ≤ q
theorem k_genL {p : Program} {l : Launch} {e : Env} {s : State} {m : MethodId} {args : Array Value} {below : List Frame} {meth : Method} {c : Code} {R : Room} {own : String} {cc : ByteArray} {nL : Nat} {rt : Option FieldType} {G : Gd} {A : Nat → Prop} {Q : State → Prop} {k n : Nat} {I : Heap → Prop} {pc : Nat} {lv : List (Option Value)} {st : List Value} {x : Int64} (kk : ∀ key, x = key → K p l e s m args below meth c R own cc nL rt G A Q k n I pc lv (.long key :: st)) : K p l e s m args below meth c R own cc nL rt G A Q k n I pc lv (.long x :: st) := kk x rfl
theorem idx (a b : Nat) : nI a + nI b = nI (a + b) := (Int32.ofNat_add a b).symm
theorem t_cases {x : Int32} (h : ∀ j : Nat, j < 18 → x ≠ nI j) : x.toInt < 0 ∨ 17 < x.toInt := by
  by_cases h1 : x.toInt < 0
  · exact Or.inl h1
  · by_cases h2 : 17 < x.toInt
    · exact Or.inr h2
    · refine absurd ?_ (h x.toInt.toNat (by omega))
      apply Int32.toInt_inj.mp
      show x.toInt = (Int32.ofNat x.toInt.toNat).toInt
      rw [Int32.toInt_ofNat_of_lt (by omega)]
      omega
theorem len_gt {i L : Nat} (hi : i < 100000) (hL : L < 100000) : nI L - 6 < nI i ↔ L < i + 6 := by
  rw [oN_nat L, oN_nat i, show (6 : Int32) = oN 6 from rfl, oN_sub]
  unfold oN
  rw [Int32.lt_iff_toInt_lt, Int32.toInt_ofInt_of_le (by omega) (by omega), Int32.toInt_ofInt_of_le (by omega) (by omega)]
  omega
theorem get_G {ad : Nat → Nat} {it : Nat → Da} {σ : CS} {key : Int64} : xG (getC ad it σ key).2 = xG σ ∧ xO (getC ad it σ key).2 = xO σ := by
  have h1 : xG (readC ad it σ key).1 = xG σ ∧ xO (readC ad it σ key).1 = xO σ := by
    unfold readC
    split <;> exact ⟨rfl, rfl⟩
  unfold getC
  split
  · exact ⟨rfl, rfl⟩
  · split
    · exact ⟨rfl, rfl⟩
    · split
      · exact h1
      · exact h1
theorem remove_G {ad : Nat → Nat} {it : Nat → Da} {σ : CS} {key : Int64} : xG (removeC ad it σ key).2 = xG σ ∧ xO (removeC ad it σ key).2 = xO σ := by
  unfold removeC
  split
  · exact ⟨rfl, rfl⟩
  · exact ⟨takeC_log.2.2.1.trans (killC_G _ _).1, takeC_log.2.2.2.trans (killC_G _ _).2⟩
theorem CPr.same {cap : Nat → Nat} {σ σ' : CS} (h : CPr cap σ) (e : xG σ' = xG σ ∧ xO σ' = xO σ) : CPr cap σ' := ⟨fun j hj => by rw [e.1]; exact h.1 j hj, by rw [e.2]; exact h.2⟩
def LIv (ad ar ow cap kd : Nat → Nat) (it : Nat → Da) (σ : CS) (S : SS) : Prop := CSt ad ar ow cap kd ∧ CWF ad kd σ ∧ CPr cap σ ∧ Rel ad kd it σ S ∧ Inv S ∧ ∀ a, kd a = 1 → plc (it a) ≤ 15
theorem Inv.lb {S : SS} (h : Inv S) : Lb S := fun e he => by
  have := (h.1.1 e he).2.1
  exact ⟨by omega, fun z => by omega⟩
theorem s_mix {G : Gd} {B : Nat → Prop} {mo : Nat} {ad sl : Nat → Nat} {S : SS} (hst : MSt mo ad sl) (key : Int64) : Ct 0 0 0 yX5_mix cX5_mix 5 (some .long) G B [.ref mo, .long key] (MPS G B mo ad sl S) (some (.long (mixI key))) (MPS G B mo ad sl S) := Ct.mps fun nw => Ct.post rfl (fun H h => ⟨nw, h⟩) (n_mix hst key)
theorem s_unmix {G : Gd} {B : Nat → Prop} {mo : Nat} {ad sl : Nat → Nat} {S : SS} (hst : MSt mo ad sl) (key : Int64) : Ct 0 0 0 yX5_unmix cX5_unmix 7 (some .long) G B [.ref mo, .long key] (MPS G B mo ad sl S) (some (.long (unmixI key))) (MPS G B mo ad sl S) := Ct.mps fun nw => Ct.post rfl (fun H h => ⟨nw, h⟩) (n_unmix hst key)
theorem s_setOf {G : Gd} {B : Nat → Prop} {mo : Nat} {ad sl : Nat → Nat} {S : SS} (hst : MSt mo ad sl) (key : Int64) : Ct 1 0 0 yX5_setOf cX5_setOf 3 (some .int) G B [.ref mo, .long key] (MPS G B mo ad sl S) (some (.int (nI (setN key)))) (MPS G B mo ad sl S) := Ct.mps fun nw => Ct.post rfl (fun H h => ⟨nw, h⟩) (n_setOf hst key)
theorem badN_ok {n f t : Int32} {key : Int64} (h : badN n = false) : okD (key, n.toNatClampNeg, f, t) := by
  simp only [badN, Bool.or_eq_false_iff, decide_eq_false_iff_not] at h
  obtain ⟨h1, h2⟩ := h
  have hneg : ¬ n < 0 := fun z => h1 (Int32.lt_trans z (by decide))
  obtain ⟨j, hj, e3⟩ := nI_of hneg
  subst e3
  show 1 ≤ (nI j).toNatClampNeg ∧ (nI j).toNatClampNeg ≤ 12
  rw [nI_clamp hj]
  constructor
  · rcases Nat.lt_or_ge j 1 with q | q
    · exact absurd (nI_lt (b := 1) q (by decide)) h1
    · exact q
  · rcases Nat.lt_or_ge 12 j with q | q
    · exact absurd (nI_lt (a := 12) q hj) h2
    · exact q
section LAWC
variable {p : Program} {l : Launch} {e : Env} {s : State} {m : MethodId} {below : List Frame} {meth : Method} {c : Code} {Q : State → Prop} {G : Gd} {ad ar ow cap : Nat → Nat} {N0 N1 N2 mo : Nat} {adm slm : Nat → Nat} {b L : Nat} {xs : Nat → Int32}
set_option maxRecDepth 4000 in
theorem law_put (hcap : CPa ad cap) (hmst : MSt mo adm slm) (hdom : DomM N1 N2 mo adm slm) (h01 : N0 ≤ N1) (hsz : s.heap.size = N0) (hX : va_X b L xs s s.heap) (hbl : b < s.heap.size) (hL : L ≤ 3072) {t : Nat} (ht : 6 * t + 6 ≤ L) {kd : Nat → Nat} {it : Nat → Da} {σ : CS} {S : SS} (hv : LIv ad ar ow cap kd it σ S) (nxt : ∀ (kd2 : Nat → Nat) (it2 : Nat → Da) (σ2 : CS) (S2 : SS) (k2 n2 : Nat), LIv ad ar ow cap kd2 it2 σ2 S2 → k2 ≤ 300 + t + 1 → n2 ≤ 14000 + 9 * t + 9 → K p l e s m #[Value.ref b] below meth c room_1 RL cL_law 4 ret G (lwA N0) Q k2 n2  (fun H => CH G (ACl N0 N1 N2) ad ar ow cap kd2 it2 σ2 H ∧ MPS G (AMo N1) mo adm slm S2 H) 778 [some (.ref b), some (.ref (ad 0)), some (.ref mo), some (.int (nI (6 * t)))] []) : K p l e s m #[Value.ref b] below meth c room_1 RL cL_law 4 ret G (lwA N0) Q (300 + t) (14000 + 9 * t)  (fun H => CH G (ACl N0 N1 N2) ad ar ow cap kd it σ H ∧ MPS G (AMo N1) mo adm slm S H) 120 [some (.ref b), some (.ref (ad 0)), some (.ref mo), some (.int (nI (6 * t)))] [] := by
  obtain ⟨hst, hc, hcr, hr, hi, hit⟩ := hv
  refine k_aload_n (pc := 120) dL_law_120 rfl ?_
  refine k_aload_n (pc := 121) dL_law_121 rfl ?_
  refine k_iload_n (pc := 122) dL_law_122 rfl ?_
  refine k_iconst (v := 1) (pc := 123) dL_law_123 (by decide) ?_
  refine k_iadd (pc := 124) dL_law_124 ?_
  refine k_sld (j := 6 * t + 1) hX hbl (by show ¬ N0 ≤ b; omega) (idx (6 * t) 1) (by omega) (by omega) (pc := 125) dL_law_125 ?_
  refine k_i2l (pc := 126) dL_law_126 ?_
  refine k_bipush (v := 32) (pc := 127) dL_law_127 (by decide) ?_
  refine k_lshl (pc := 129) dL_law_129 ?_
  refine k_aload_n (pc := 130) dL_law_130 rfl ?_
  refine k_iload_n (pc := 131) dL_law_131 rfl ?_
  refine k_iconst (v := 2) (pc := 132) dL_law_132 (by decide) ?_
  refine k_iadd (pc := 133) dL_law_133 ?_
  refine k_sld (j := 6 * t + 2) hX hbl (by show ¬ N0 ≤ b; omega) (idx (6 * t) 2) (by omega) (by omega) (pc := 134) dL_law_134 ?_
  refine k_i2l (pc := 135) dL_law_135 ?_
  refine k_ldc2 gw_692 (pc := 136) dL_law_136 ?_
  refine k_land (pc := 139) dL_law_139 ?_
  refine k_lor (pc := 140) dL_law_140 ?_
  refine k_genL fun key hkey => ?_
  refine k_aload_n (pc := 141) dL_law_141 rfl ?_
  refine k_iload_n (pc := 142) dL_law_142 rfl ?_
  refine k_iconst (v := 3) (pc := 143) dL_law_143 (by decide) ?_
  refine k_iadd (pc := 144) dL_law_144 ?_
  refine k_sld (j := 6 * t + 3) hX hbl (by show ¬ N0 ≤ b; omega) (idx (6 * t) 3) (by omega) (by omega) (pc := 145) dL_law_145 ?_
  refine k_aload_n (pc := 146) dL_law_146 rfl ?_
  refine k_iload_n (pc := 147) dL_law_147 rfl ?_
  refine k_iconst (v := 4) (pc := 148) dL_law_148 (by decide) ?_
  refine k_iadd (pc := 149) dL_law_149 ?_
  refine k_sld (j := 6 * t + 4) hX hbl (by show ¬ N0 ≤ b; omega) (idx (6 * t) 4) (by omega) (by omega) (pc := 150) dL_law_150 ?_
  refine k_aload_n (pc := 151) dL_law_151 rfl ?_
  refine k_iload_n (pc := 152) dL_law_152 rfl ?_
  refine k_iconst (v := 5) (pc := 153) dL_law_153 (by decide) ?_
  refine k_iadd (pc := 154) dL_law_154 ?_
  refine k_sld (j := 6 * t + 5) hX hbl (by show ¬ N0 ≤ b; omega) (idx (6 * t) 5) (by omega) (by omega) (pc := 155) dL_law_155 ?_
  cases hx : xC σ with
  | true =>
    have hp : putS S key (xs (6 * t + 3)) (xs (6 * t + 4)) (xs (6 * t + 5)) = (-2, S) := if_pos (by rw [← hr.x]; exact hx)
    have hm := fun B => c_put (G := G) (A := B) (S := S) hmst key (xs (6 * t + 3)) (xs (6 * t + 4)) (xs (6 * t + 5)) (fun z => by rw [← hr.x, hx] at z; cases z)
    rw [hp] at hm
    refine l_callC sv_L_15 hst hdom (fun q hq => hq) (e_putShut hst key (xs (6 * t + 3)) (xs (6 * t + 4)) (xs (6 * t + 5)) hx) (pc := 156) dL_law_156 rfl rfl (Nat.le_of_ble_eq_true rfl) (by decide) (by decide) (by show _ ≤ 600000; omega) (by show _ ≤ 7302250; omega) ?_
    refine k_aload_n (pc := 159) dL_law_159 rfl ?_
    refine k_aload_n (pc := 160) dL_law_160 rfl ?_
    refine k_iload_n (pc := 161) dL_law_161 rfl ?_
    refine k_iconst (v := 1) (pc := 162) dL_law_162 (by decide) ?_
    refine k_iadd (pc := 163) dL_law_163 ?_
    refine k_sld (j := 6 * t + 1) hX hbl (by show ¬ N0 ≤ b; omega) (idx (6 * t) 1) (by omega) (by omega) (pc := 164) dL_law_164 ?_
    refine k_i2l (pc := 165) dL_law_165 ?_
    refine k_bipush (v := 32) (pc := 166) dL_law_166 (by decide) ?_
    refine k_lshl (pc := 168) dL_law_168 ?_
    refine k_aload_n (pc := 169) dL_law_169 rfl ?_
    refine k_iload_n (pc := 170) dL_law_170 rfl ?_
    refine k_iconst (v := 2) (pc := 171) dL_law_171 (by decide) ?_
    refine k_iadd (pc := 172) dL_law_172 ?_
    refine k_sld (j := 6 * t + 2) hX hbl (by show ¬ N0 ≤ b; omega) (idx (6 * t) 2) (by omega) (by omega) (pc := 173) dL_law_173 ?_
    refine k_i2l (pc := 174) dL_law_174 ?_
    refine k_ldc2 gw_692 (pc := 175) dL_law_175 ?_
    refine k_land (pc := 178) dL_law_178 ?_
    refine k_lor (pc := 179) dL_law_179 ?_
    rw [hkey]
    refine k_aload_n (pc := 180) dL_law_180 rfl ?_
    refine k_iload_n (pc := 181) dL_law_181 rfl ?_
    refine k_iconst (v := 3) (pc := 182) dL_law_182 (by decide) ?_
    refine k_iadd (pc := 183) dL_law_183 ?_
    refine k_sld (j := 6 * t + 3) hX hbl (by show ¬ N0 ≤ b; omega) (idx (6 * t) 3) (by omega) (by omega) (pc := 184) dL_law_184 ?_
    refine k_aload_n (pc := 185) dL_law_185 rfl ?_
    refine k_iload_n (pc := 186) dL_law_186 rfl ?_
    refine k_iconst (v := 4) (pc := 187) dL_law_187 (by decide) ?_
    refine k_iadd (pc := 188) dL_law_188 ?_
    refine k_sld (j := 6 * t + 4) hX hbl (by show ¬ N0 ≤ b; omega) (idx (6 * t) 4) (by omega) (by omega) (pc := 189) dL_law_189 ?_
    refine k_aload_n (pc := 190) dL_law_190 rfl ?_
    refine k_iload_n (pc := 191) dL_law_191 rfl ?_
    refine k_iconst (v := 5) (pc := 192) dL_law_192 (by decide) ?_
    refine k_iadd (pc := 193) dL_law_193 ?_
    refine k_sld (j := 6 * t + 5) hX hbl (by show ¬ N0 ≤ b; omega) (idx (6 * t) 5) (by omega) (by omega) (pc := 194) dL_law_194 ?_
    refine l_callM sv_L_19 hmst hdom (fun q hq => hq) h01 hsz (fun B => hm B) (pc := 195) dL_law_195 rfl rfl (Nat.le_of_ble_eq_true rfl) (by decide) (by decide) (by show _ ≤ 600000; omega) (by show _ ≤ 7302250; omega) ?_
    refine k_icmp_eq (tgt := 778) (pc := 198) dL_law_198 (by decide) (fun _ => ?_) (fun z => absurd (rfl) z)
    exact nxt kd it σ S _ _ ⟨hst, hc, hcr, hr, hi, hit⟩ (by omega) (by omega)
  | false =>
    have hsx : ¬ sX S = true := by rw [← hr.x, hx]; decide
    cases hb : badN (xs (6 * t + 3)) with
    | true =>
      have hp : putS S key (xs (6 * t + 3)) (xs (6 * t + 4)) (xs (6 * t + 5)) = (-1, S) := by unfold putS; rw [if_neg hsx, if_pos hb]
      have hm := fun B => c_put (G := G) (A := B) (S := S) hmst key (xs (6 * t + 3)) (xs (6 * t + 4)) (xs (6 * t + 5)) (fun _ z => by rw [hb] at z; cases z)
      rw [hp] at hm
      refine l_callC sv_L_15 hst hdom (fun q hq => hq) (e_putBad hst key (xs (6 * t + 3)) (xs (6 * t + 4)) (xs (6 * t + 5)) hx hb) (pc := 156) dL_law_156 rfl rfl (Nat.le_of_ble_eq_true rfl) (by decide) (by decide) (by show _ ≤ 600000; omega) (by show _ ≤ 7302250; omega) ?_
      refine k_aload_n (pc := 159) dL_law_159 rfl ?_
      refine k_aload_n (pc := 160) dL_law_160 rfl ?_
      refine k_iload_n (pc := 161) dL_law_161 rfl ?_
      refine k_iconst (v := 1) (pc := 162) dL_law_162 (by decide) ?_
      refine k_iadd (pc := 163) dL_law_163 ?_
      refine k_sld (j := 6 * t + 1) hX hbl (by show ¬ N0 ≤ b; omega) (idx (6 * t) 1) (by omega) (by omega) (pc := 164) dL_law_164 ?_
      refine k_i2l (pc := 165) dL_law_165 ?_
      refine k_bipush (v := 32) (pc := 166) dL_law_166 (by decide) ?_
      refine k_lshl (pc := 168) dL_law_168 ?_
      refine k_aload_n (pc := 169) dL_law_169 rfl ?_
      refine k_iload_n (pc := 170) dL_law_170 rfl ?_
      refine k_iconst (v := 2) (pc := 171) dL_law_171 (by decide) ?_
      refine k_iadd (pc := 172) dL_law_172 ?_
      refine k_sld (j := 6 * t + 2) hX hbl (by show ¬ N0 ≤ b; omega) (idx (6 * t) 2) (by omega) (by omega) (pc := 173) dL_law_173 ?_
      refine k_i2l (pc := 174) dL_law_174 ?_
      refine k_ldc2 gw_692 (pc := 175) dL_law_175 ?_
      refine k_land (pc := 178) dL_law_178 ?_
      refine k_lor (pc := 179) dL_law_179 ?_
      rw [hkey]
      refine k_aload_n (pc := 180) dL_law_180 rfl ?_
      refine k_iload_n (pc := 181) dL_law_181 rfl ?_
      refine k_iconst (v := 3) (pc := 182) dL_law_182 (by decide) ?_
      refine k_iadd (pc := 183) dL_law_183 ?_
      refine k_sld (j := 6 * t + 3) hX hbl (by show ¬ N0 ≤ b; omega) (idx (6 * t) 3) (by omega) (by omega) (pc := 184) dL_law_184 ?_
      refine k_aload_n (pc := 185) dL_law_185 rfl ?_
      refine k_iload_n (pc := 186) dL_law_186 rfl ?_
      refine k_iconst (v := 4) (pc := 187) dL_law_187 (by decide) ?_
      refine k_iadd (pc := 188) dL_law_188 ?_
      refine k_sld (j := 6 * t + 4) hX hbl (by show ¬ N0 ≤ b; omega) (idx (6 * t) 4) (by omega) (by omega) (pc := 189) dL_law_189 ?_
      refine k_aload_n (pc := 190) dL_law_190 rfl ?_
      refine k_iload_n (pc := 191) dL_law_191 rfl ?_
      refine k_iconst (v := 5) (pc := 192) dL_law_192 (by decide) ?_
      refine k_iadd (pc := 193) dL_law_193 ?_
      refine k_sld (j := 6 * t + 5) hX hbl (by show ¬ N0 ≤ b; omega) (idx (6 * t) 5) (by omega) (by omega) (pc := 194) dL_law_194 ?_
      refine l_callM sv_L_19 hmst hdom (fun q hq => hq) h01 hsz (fun B => hm B) (pc := 195) dL_law_195 rfl rfl (Nat.le_of_ble_eq_true rfl) (by decide) (by decide) (by show _ ≤ 600000; omega) (by show _ ≤ 7302250; omega) ?_
      refine k_icmp_eq (tgt := 778) (pc := 198) dL_law_198 (by decide) (fun _ => ?_) (fun z => absurd (rfl) z)
      exact nxt kd it σ S _ _ ⟨hst, hc, hcr, hr, hi, hit⟩ (by omega) (by omega)
    | false =>
      have hok : okD (key, (xs (6 * t + 3)).toNatClampNeg, (xs (6 * t + 4)), (xs (6 * t + 5))) := badN_ok hb
      have hp : putS S key (xs (6 * t + 3)) (xs (6 * t + 4)) (xs (6 * t + 5)) = (1, appS 1000 (killKey S key) (key, (xs (6 * t + 3)).toNatClampNeg, (xs (6 * t + 4)), (xs (6 * t + 5)))) := by unfold putS; rw [if_neg hsx, if_neg (by rw [hb]; decide)]
      refine l_callC sv_L_15 hst hdom (fun q hq => hq) (e_put hst key (xs (6 * t + 3)) (xs (6 * t + 4)) (xs (6 * t + 5)) hx hb hc hit) (pc := 156) dL_law_156 rfl rfl (Nat.le_of_ble_eq_true rfl) (by decide) (by decide) (by show _ ≤ 600000; omega) (by show _ ≤ 7302250; omega) ?_
      refine k_I (I2 := fun H => ∃ q, Frs kd q ∧ (CH G (ACl N0 N1 N2) ad ar ow cap (va_up kd q 1) (va_up it q (key, (xs (6 * t + 3)).toNatClampNeg, (xs (6 * t + 4)), (xs (6 * t + 5)))) (putC ad cap it σ (key, (xs (6 * t + 3)).toNatClampNeg, (xs (6 * t + 4)), (xs (6 * t + 5))) q) H ∧ MPS G (AMo N1) mo adm slm S H)) (fun H h => by obtain ⟨⟨q, h1, h2⟩, h3⟩ := h; exact ⟨q, h1, h2, h3⟩) ?_
      refine k_ex fun q => ?_
      refine k_pure fun hf => ?_
      obtain ⟨g1, g2, g3, g4, g5⟩ := hr.put hst hcap hc hcr hi hok hf
      have hm := fun B => c_put (G := G) (A := B) (S := S) hmst key (xs (6 * t + 3)) (xs (6 * t + 4)) (xs (6 * t + 5)) (fun _ _ => g3)
      rw [hp] at hm
      refine k_aload_n (pc := 159) dL_law_159 rfl ?_
      refine k_aload_n (pc := 160) dL_law_160 rfl ?_
      refine k_iload_n (pc := 161) dL_law_161 rfl ?_
      refine k_iconst (v := 1) (pc := 162) dL_law_162 (by decide) ?_
      refine k_iadd (pc := 163) dL_law_163 ?_
      refine k_sld (j := 6 * t + 1) hX hbl (by show ¬ N0 ≤ b; omega) (idx (6 * t) 1) (by omega) (by omega) (pc := 164) dL_law_164 ?_
      refine k_i2l (pc := 165) dL_law_165 ?_
      refine k_bipush (v := 32) (pc := 166) dL_law_166 (by decide) ?_
      refine k_lshl (pc := 168) dL_law_168 ?_
      refine k_aload_n (pc := 169) dL_law_169 rfl ?_
      refine k_iload_n (pc := 170) dL_law_170 rfl ?_
      refine k_iconst (v := 2) (pc := 171) dL_law_171 (by decide) ?_
      refine k_iadd (pc := 172) dL_law_172 ?_
      refine k_sld (j := 6 * t + 2) hX hbl (by show ¬ N0 ≤ b; omega) (idx (6 * t) 2) (by omega) (by omega) (pc := 173) dL_law_173 ?_
      refine k_i2l (pc := 174) dL_law_174 ?_
      refine k_ldc2 gw_692 (pc := 175) dL_law_175 ?_
      refine k_land (pc := 178) dL_law_178 ?_
      refine k_lor (pc := 179) dL_law_179 ?_
      rw [hkey]
      refine k_aload_n (pc := 180) dL_law_180 rfl ?_
      refine k_iload_n (pc := 181) dL_law_181 rfl ?_
      refine k_iconst (v := 3) (pc := 182) dL_law_182 (by decide) ?_
      refine k_iadd (pc := 183) dL_law_183 ?_
      refine k_sld (j := 6 * t + 3) hX hbl (by show ¬ N0 ≤ b; omega) (idx (6 * t) 3) (by omega) (by omega) (pc := 184) dL_law_184 ?_
      refine k_aload_n (pc := 185) dL_law_185 rfl ?_
      refine k_iload_n (pc := 186) dL_law_186 rfl ?_
      refine k_iconst (v := 4) (pc := 187) dL_law_187 (by decide) ?_
      refine k_iadd (pc := 188) dL_law_188 ?_
      refine k_sld (j := 6 * t + 4) hX hbl (by show ¬ N0 ≤ b; omega) (idx (6 * t) 4) (by omega) (by omega) (pc := 189) dL_law_189 ?_
      refine k_aload_n (pc := 190) dL_law_190 rfl ?_
      refine k_iload_n (pc := 191) dL_law_191 rfl ?_
      refine k_iconst (v := 5) (pc := 192) dL_law_192 (by decide) ?_
      refine k_iadd (pc := 193) dL_law_193 ?_
      refine k_sld (j := 6 * t + 5) hX hbl (by show ¬ N0 ≤ b; omega) (idx (6 * t) 5) (by omega) (by omega) (pc := 194) dL_law_194 ?_
      refine l_callM sv_L_19 hmst hdom (fun q hq => hq) h01 hsz (fun B => hm B) (pc := 195) dL_law_195 rfl rfl (Nat.le_of_ble_eq_true rfl) (by decide) (by decide) (by show _ ≤ 600000; omega) (by show _ ≤ 7302250; omega) ?_
      refine k_icmp_eq (tgt := 778) (pc := 198) dL_law_198 (by decide) (fun _ => ?_) (fun z => absurd rfl z)
      refine nxt _ _ _ _ _ _ ⟨hst.new hf, g4, g5, g1, g2, fun a ha => ?_⟩ (by omega) (by omega)
      by_cases haq : a = q
      · subst haq
        rw [va_up_self]
        exact plc_le hok
      · rw [va_up_ne _ _ haq] at ha ⊢
        exact hit a ha
set_option maxRecDepth 4000 in
theorem law_get (hcap : CPa ad cap) (hmst : MSt mo adm slm) (hdom : DomM N1 N2 mo adm slm) (h01 : N0 ≤ N1) (hsz : s.heap.size = N0) (hX : va_X b L xs s s.heap) (hbl : b < s.heap.size) (hL : L ≤ 3072) {t : Nat} (ht : 6 * t + 6 ≤ L) {kd : Nat → Nat} {it : Nat → Da} {σ : CS} {S : SS} (hv : LIv ad ar ow cap kd it σ S) (nxt : ∀ (kd2 : Nat → Nat) (it2 : Nat → Da) (σ2 : CS) (S2 : SS) (k2 n2 : Nat), LIv ad ar ow cap kd2 it2 σ2 S2 → k2 ≤ 300 + t + 1 → n2 ≤ 14000 + 9 * t + 9 → K p l e s m #[Value.ref b] below meth c room_1 RL cL_law 4 ret G (lwA N0) Q k2 n2  (fun H => CH G (ACl N0 N1 N2) ad ar ow cap kd2 it2 σ2 H ∧ MPS G (AMo N1) mo adm slm S2 H) 778 [some (.ref b), some (.ref (ad 0)), some (.ref mo), some (.int (nI (6 * t)))] []) : K p l e s m #[Value.ref b] below meth c room_1 RL cL_law 4 ret G (lwA N0) Q (300 + t) (14000 + 9 * t)  (fun H => CH G (ACl N0 N1 N2) ad ar ow cap kd it σ H ∧ MPS G (AMo N1) mo adm slm S H) 203 [some (.ref b), some (.ref (ad 0)), some (.ref mo), some (.int (nI (6 * t)))] [] := by
  obtain ⟨hst, hc, hcr, hr, hi, hit⟩ := hv
  have hrel := fun key => hr.get hst hi hc key
  refine k_aload_n (pc := 203) dL_law_203 rfl ?_
  refine k_aload_n (pc := 204) dL_law_204 rfl ?_
  refine k_iload_n (pc := 205) dL_law_205 rfl ?_
  refine k_iconst (v := 1) (pc := 206) dL_law_206 (by decide) ?_
  refine k_iadd (pc := 207) dL_law_207 ?_
  refine k_sld (j := 6 * t + 1) hX hbl (by show ¬ N0 ≤ b; omega) (idx (6 * t) 1) (by omega) (by omega) (pc := 208) dL_law_208 ?_
  refine k_i2l (pc := 209) dL_law_209 ?_
  refine k_bipush (v := 32) (pc := 210) dL_law_210 (by decide) ?_
  refine k_lshl (pc := 212) dL_law_212 ?_
  refine k_aload_n (pc := 213) dL_law_213 rfl ?_
  refine k_iload_n (pc := 214) dL_law_214 rfl ?_
  refine k_iconst (v := 2) (pc := 215) dL_law_215 (by decide) ?_
  refine k_iadd (pc := 216) dL_law_216 ?_
  refine k_sld (j := 6 * t + 2) hX hbl (by show ¬ N0 ≤ b; omega) (idx (6 * t) 2) (by omega) (by omega) (pc := 217) dL_law_217 ?_
  refine k_i2l (pc := 218) dL_law_218 ?_
  refine k_ldc2 gw_692 (pc := 219) dL_law_219 ?_
  refine k_land (pc := 222) dL_law_222 ?_
  refine k_lor (pc := 223) dL_law_223 ?_
  refine k_genL fun key hkey => ?_
  refine l_callC sv_L_20 hst hdom (fun q hq => hq) (e_get hst key hc) (pc := 224) dL_law_224 rfl rfl (Nat.le_of_ble_eq_true rfl) (by decide) (by decide) (by show _ ≤ 600000; omega) (by show _ ≤ 7302250; omega) ?_
  obtain ⟨g1, g2, g3, g4⟩ := hrel key
  refine k_aload_n (pc := 227) dL_law_227 rfl ?_
  refine k_aload_n (pc := 228) dL_law_228 rfl ?_
  refine k_iload_n (pc := 229) dL_law_229 rfl ?_
  refine k_iconst (v := 1) (pc := 230) dL_law_230 (by decide) ?_
  refine k_iadd (pc := 231) dL_law_231 ?_
  refine k_sld (j := 6 * t + 1) hX hbl (by show ¬ N0 ≤ b; omega) (idx (6 * t) 1) (by omega) (by omega) (pc := 232) dL_law_232 ?_
  refine k_i2l (pc := 233) dL_law_233 ?_
  refine k_bipush (v := 32) (pc := 234) dL_law_234 (by decide) ?_
  refine k_lshl (pc := 236) dL_law_236 ?_
  refine k_aload_n (pc := 237) dL_law_237 rfl ?_
  refine k_iload_n (pc := 238) dL_law_238 rfl ?_
  refine k_iconst (v := 2) (pc := 239) dL_law_239 (by decide) ?_
  refine k_iadd (pc := 240) dL_law_240 ?_
  refine k_sld (j := 6 * t + 2) hX hbl (by show ¬ N0 ≤ b; omega) (idx (6 * t) 2) (by omega) (by omega) (pc := 241) dL_law_241 ?_
  refine k_i2l (pc := 242) dL_law_242 ?_
  refine k_ldc2 gw_692 (pc := 243) dL_law_243 ?_
  refine k_land (pc := 246) dL_law_246 ?_
  refine k_lor (pc := 247) dL_law_247 ?_
  rw [hkey]
  refine l_callM sv_L_24 hmst hdom (fun q hq => hq) h01 hsz (fun B => c_get hmst key) (pc := 248) dL_law_248 rfl rfl (Nat.le_of_ble_eq_true rfl) (by decide) (by decide) (by show _ ≤ 600000; omega) (by show _ ≤ 7302250; omega) ?_
  refine k_icmp_eq (tgt := 778) (pc := 251) dL_law_251 (by decide) (fun _ => ?_) (fun z => absurd (g1) z)
  exact nxt kd it (getC ad it σ key).2 (getS S key).2 _ _ ⟨hst, g4, hcr.same get_G, g2, g3, hit⟩ (by omega) (by omega)
set_option maxRecDepth 4000 in
theorem law_got (hcap : CPa ad cap) (hmst : MSt mo adm slm) (hdom : DomM N1 N2 mo adm slm) (h01 : N0 ≤ N1) (hsz : s.heap.size = N0) (hX : va_X b L xs s s.heap) (hbl : b < s.heap.size) (hL : L ≤ 3072) {t : Nat} (ht : 6 * t + 6 ≤ L) {kd : Nat → Nat} {it : Nat → Da} {σ : CS} {S : SS} (hv : LIv ad ar ow cap kd it σ S) (nxt : ∀ (kd2 : Nat → Nat) (it2 : Nat → Da) (σ2 : CS) (S2 : SS) (k2 n2 : Nat), LIv ad ar ow cap kd2 it2 σ2 S2 → k2 ≤ 300 + t + 1 → n2 ≤ 14000 + 9 * t + 9 → K p l e s m #[Value.ref b] below meth c room_1 RL cL_law 4 ret G (lwA N0) Q k2 n2  (fun H => CH G (ACl N0 N1 N2) ad ar ow cap kd2 it2 σ2 H ∧ MPS G (AMo N1) mo adm slm S2 H) 778 [some (.ref b), some (.ref (ad 0)), some (.ref mo), some (.int (nI (6 * t)))] []) : K p l e s m #[Value.ref b] below meth c room_1 RL cL_law 4 ret G (lwA N0) Q (300 + t) (14000 + 9 * t)  (fun H => CH G (ACl N0 N1 N2) ad ar ow cap kd it σ H ∧ MPS G (AMo N1) mo adm slm S H) 256 [some (.ref b), some (.ref (ad 0)), some (.ref mo), some (.int (nI (6 * t)))] [] := by
  obtain ⟨hst, hc, hcr, hr, hi, hit⟩ := hv
  refine k_aload_n (pc := 256) dL_law_256 rfl ?_
  refine k_aload_n (pc := 257) dL_law_257 rfl ?_
  refine k_iload_n (pc := 258) dL_law_258 rfl ?_
  refine k_iconst (v := 1) (pc := 259) dL_law_259 (by decide) ?_
  refine k_iadd (pc := 260) dL_law_260 ?_
  refine k_sld (j := 6 * t + 1) hX hbl (by show ¬ N0 ≤ b; omega) (idx (6 * t) 1) (by omega) (by omega) (pc := 261) dL_law_261 ?_
  refine l_callC sv_L_25 hst hdom (fun q hq => hq) (e_got hst (xs (6 * t + 1))) (pc := 262) dL_law_262 rfl rfl (Nat.le_of_ble_eq_true rfl) (by decide) (by decide) (by show _ ≤ 600000; omega) (by show _ ≤ 7302250; omega) ?_
  refine k_aload_n (pc := 265) dL_law_265 rfl ?_
  refine k_aload_n (pc := 266) dL_law_266 rfl ?_
  refine k_iload_n (pc := 267) dL_law_267 rfl ?_
  refine k_iconst (v := 1) (pc := 268) dL_law_268 (by decide) ?_
  refine k_iadd (pc := 269) dL_law_269 ?_
  refine k_sld (j := 6 * t + 1) hX hbl (by show ¬ N0 ≤ b; omega) (idx (6 * t) 1) (by omega) (by omega) (pc := 270) dL_law_270 ?_
  refine l_callM sv_L_29 hmst hdom (fun q hq => hq) h01 hsz (fun B => c_got hmst (xs (6 * t + 1))) (pc := 271) dL_law_271 rfl rfl (Nat.le_of_ble_eq_true rfl) (by decide) (by decide) (by show _ ≤ 600000; omega) (by show _ ≤ 7302250; omega) ?_
  refine k_icmp_eq (tgt := 778) (pc := 274) dL_law_274 (by decide) (fun _ => ?_) (fun z => absurd (hr.got (xs (6 * t + 1))) z)
  exact nxt kd it σ S _ _ ⟨hst, hc, hcr, hr, hi, hit⟩ (by omega) (by omega)
set_option maxRecDepth 4000 in
theorem law_remove (hcap : CPa ad cap) (hmst : MSt mo adm slm) (hdom : DomM N1 N2 mo adm slm) (h01 : N0 ≤ N1) (hsz : s.heap.size = N0) (hX : va_X b L xs s s.heap) (hbl : b < s.heap.size) (hL : L ≤ 3072) {t : Nat} (ht : 6 * t + 6 ≤ L) {kd : Nat → Nat} {it : Nat → Da} {σ : CS} {S : SS} (hv : LIv ad ar ow cap kd it σ S) (nxt : ∀ (kd2 : Nat → Nat) (it2 : Nat → Da) (σ2 : CS) (S2 : SS) (k2 n2 : Nat), LIv ad ar ow cap kd2 it2 σ2 S2 → k2 ≤ 300 + t + 1 → n2 ≤ 14000 + 9 * t + 9 → K p l e s m #[Value.ref b] below meth c room_1 RL cL_law 4 ret G (lwA N0) Q k2 n2  (fun H => CH G (ACl N0 N1 N2) ad ar ow cap kd2 it2 σ2 H ∧ MPS G (AMo N1) mo adm slm S2 H) 778 [some (.ref b), some (.ref (ad 0)), some (.ref mo), some (.int (nI (6 * t)))] []) : K p l e s m #[Value.ref b] below meth c room_1 RL cL_law 4 ret G (lwA N0) Q (300 + t) (14000 + 9 * t)  (fun H => CH G (ACl N0 N1 N2) ad ar ow cap kd it σ H ∧ MPS G (AMo N1) mo adm slm S H) 279 [some (.ref b), some (.ref (ad 0)), some (.ref mo), some (.int (nI (6 * t)))] [] := by
  obtain ⟨hst, hc, hcr, hr, hi, hit⟩ := hv
  have hrel := fun key => hr.remove hst hc hi key
  refine k_aload_n (pc := 279) dL_law_279 rfl ?_
  refine k_aload_n (pc := 280) dL_law_280 rfl ?_
  refine k_iload_n (pc := 281) dL_law_281 rfl ?_
  refine k_iconst (v := 1) (pc := 282) dL_law_282 (by decide) ?_
  refine k_iadd (pc := 283) dL_law_283 ?_
  refine k_sld (j := 6 * t + 1) hX hbl (by show ¬ N0 ≤ b; omega) (idx (6 * t) 1) (by omega) (by omega) (pc := 284) dL_law_284 ?_
  refine k_i2l (pc := 285) dL_law_285 ?_
  refine k_bipush (v := 32) (pc := 286) dL_law_286 (by decide) ?_
  refine k_lshl (pc := 288) dL_law_288 ?_
  refine k_aload_n (pc := 289) dL_law_289 rfl ?_
  refine k_iload_n (pc := 290) dL_law_290 rfl ?_
  refine k_iconst (v := 2) (pc := 291) dL_law_291 (by decide) ?_
  refine k_iadd (pc := 292) dL_law_292 ?_
  refine k_sld (j := 6 * t + 2) hX hbl (by show ¬ N0 ≤ b; omega) (idx (6 * t) 2) (by omega) (by omega) (pc := 293) dL_law_293 ?_
  refine k_i2l (pc := 294) dL_law_294 ?_
  refine k_ldc2 gw_692 (pc := 295) dL_law_295 ?_
  refine k_land (pc := 298) dL_law_298 ?_
  refine k_lor (pc := 299) dL_law_299 ?_
  refine k_genL fun key hkey => ?_
  refine l_callC sv_L_30 hst hdom (fun q hq => hq) (e_remove hst key hc) (pc := 300) dL_law_300 rfl rfl (Nat.le_of_ble_eq_true rfl) (by decide) (by decide) (by show _ ≤ 600000; omega) (by show _ ≤ 7302250; omega) ?_
  obtain ⟨g1, g2, g3, g4⟩ := hrel key
  refine k_aload_n (pc := 303) dL_law_303 rfl ?_
  refine k_aload_n (pc := 304) dL_law_304 rfl ?_
  refine k_iload_n (pc := 305) dL_law_305 rfl ?_
  refine k_iconst (v := 1) (pc := 306) dL_law_306 (by decide) ?_
  refine k_iadd (pc := 307) dL_law_307 ?_
  refine k_sld (j := 6 * t + 1) hX hbl (by show ¬ N0 ≤ b; omega) (idx (6 * t) 1) (by omega) (by omega) (pc := 308) dL_law_308 ?_
  refine k_i2l (pc := 309) dL_law_309 ?_
  refine k_bipush (v := 32) (pc := 310) dL_law_310 (by decide) ?_
  refine k_lshl (pc := 312) dL_law_312 ?_
  refine k_aload_n (pc := 313) dL_law_313 rfl ?_
  refine k_iload_n (pc := 314) dL_law_314 rfl ?_
  refine k_iconst (v := 2) (pc := 315) dL_law_315 (by decide) ?_
  refine k_iadd (pc := 316) dL_law_316 ?_
  refine k_sld (j := 6 * t + 2) hX hbl (by show ¬ N0 ≤ b; omega) (idx (6 * t) 2) (by omega) (by omega) (pc := 317) dL_law_317 ?_
  refine k_i2l (pc := 318) dL_law_318 ?_
  refine k_ldc2 gw_692 (pc := 319) dL_law_319 ?_
  refine k_land (pc := 322) dL_law_322 ?_
  refine k_lor (pc := 323) dL_law_323 ?_
  rw [hkey]
  refine l_callM sv_L_33 hmst hdom (fun q hq => hq) h01 hsz (fun B => c_remove hmst key) (pc := 324) dL_law_324 rfl rfl (Nat.le_of_ble_eq_true rfl) (by decide) (by decide) (by show _ ≤ 600000; omega) (by show _ ≤ 7302250; omega) ?_
  refine k_icmp_eq (tgt := 778) (pc := 327) dL_law_327 (by decide) (fun _ => ?_) (fun z => absurd (g1) z)
  exact nxt kd it (removeC ad it σ key).2 (removeS S key).2 _ _ ⟨hst, g4, hcr.same remove_G, g2, g3, hit⟩ (by omega) (by omega)
set_option maxRecDepth 4000 in
theorem law_mix (hcap : CPa ad cap) (hmst : MSt mo adm slm) (hdom : DomM N1 N2 mo adm slm) (h01 : N0 ≤ N1) (hsz : s.heap.size = N0) (hX : va_X b L xs s s.heap) (hbl : b < s.heap.size) (hL : L ≤ 3072) {t : Nat} (ht : 6 * t + 6 ≤ L) {kd : Nat → Nat} {it : Nat → Da} {σ : CS} {S : SS} (hv : LIv ad ar ow cap kd it σ S) (nxt : ∀ (kd2 : Nat → Nat) (it2 : Nat → Da) (σ2 : CS) (S2 : SS) (k2 n2 : Nat), LIv ad ar ow cap kd2 it2 σ2 S2 → k2 ≤ 300 + t + 1 → n2 ≤ 14000 + 9 * t + 9 → K p l e s m #[Value.ref b] below meth c room_1 RL cL_law 4 ret G (lwA N0) Q k2 n2  (fun H => CH G (ACl N0 N1 N2) ad ar ow cap kd2 it2 σ2 H ∧ MPS G (AMo N1) mo adm slm S2 H) 778 [some (.ref b), some (.ref (ad 0)), some (.ref mo), some (.int (nI (6 * t)))] []) : K p l e s m #[Value.ref b] below meth c room_1 RL cL_law 4 ret G (lwA N0) Q (300 + t) (14000 + 9 * t)  (fun H => CH G (ACl N0 N1 N2) ad ar ow cap kd it σ H ∧ MPS G (AMo N1) mo adm slm S H) 332 [some (.ref b), some (.ref (ad 0)), some (.ref mo), some (.int (nI (6 * t)))] [] := by
  obtain ⟨hst, hc, hcr, hr, hi, hit⟩ := hv
  refine k_aload_n (pc := 332) dL_law_332 rfl ?_
  refine k_aload_n (pc := 333) dL_law_333 rfl ?_
  refine k_iload_n (pc := 334) dL_law_334 rfl ?_
  refine k_iconst (v := 1) (pc := 335) dL_law_335 (by decide) ?_
  refine k_iadd (pc := 336) dL_law_336 ?_
  refine k_sld (j := 6 * t + 1) hX hbl (by show ¬ N0 ≤ b; omega) (idx (6 * t) 1) (by omega) (by omega) (pc := 337) dL_law_337 ?_
  refine k_i2l (pc := 338) dL_law_338 ?_
  refine k_bipush (v := 32) (pc := 339) dL_law_339 (by decide) ?_
  refine k_lshl (pc := 341) dL_law_341 ?_
  refine k_aload_n (pc := 342) dL_law_342 rfl ?_
  refine k_iload_n (pc := 343) dL_law_343 rfl ?_
  refine k_iconst (v := 2) (pc := 344) dL_law_344 (by decide) ?_
  refine k_iadd (pc := 345) dL_law_345 ?_
  refine k_sld (j := 6 * t + 2) hX hbl (by show ¬ N0 ≤ b; omega) (idx (6 * t) 2) (by omega) (by omega) (pc := 346) dL_law_346 ?_
  refine k_i2l (pc := 347) dL_law_347 ?_
  refine k_ldc2 gw_692 (pc := 348) dL_law_348 ?_
  refine k_land (pc := 351) dL_law_351 ?_
  refine k_lor (pc := 352) dL_law_352 ?_
  refine k_genL fun key hkey => ?_
  refine l_callC sv_L_34 hst hdom (fun q hq => hq) (e_mix (ad 0) key) (pc := 353) dL_law_353 rfl rfl (Nat.le_of_ble_eq_true rfl) (by decide) (by decide) (by show _ ≤ 600000; omega) (by show _ ≤ 7302250; omega) ?_
  refine k_aload_n (pc := 356) dL_law_356 rfl ?_
  refine k_aload_n (pc := 357) dL_law_357 rfl ?_
  refine k_iload_n (pc := 358) dL_law_358 rfl ?_
  refine k_iconst (v := 1) (pc := 359) dL_law_359 (by decide) ?_
  refine k_iadd (pc := 360) dL_law_360 ?_
  refine k_sld (j := 6 * t + 1) hX hbl (by show ¬ N0 ≤ b; omega) (idx (6 * t) 1) (by omega) (by omega) (pc := 361) dL_law_361 ?_
  refine k_i2l (pc := 362) dL_law_362 ?_
  refine k_bipush (v := 32) (pc := 363) dL_law_363 (by decide) ?_
  refine k_lshl (pc := 365) dL_law_365 ?_
  refine k_aload_n (pc := 366) dL_law_366 rfl ?_
  refine k_iload_n (pc := 367) dL_law_367 rfl ?_
  refine k_iconst (v := 2) (pc := 368) dL_law_368 (by decide) ?_
  refine k_iadd (pc := 369) dL_law_369 ?_
  refine k_sld (j := 6 * t + 2) hX hbl (by show ¬ N0 ≤ b; omega) (idx (6 * t) 2) (by omega) (by omega) (pc := 370) dL_law_370 ?_
  refine k_i2l (pc := 371) dL_law_371 ?_
  refine k_ldc2 gw_692 (pc := 372) dL_law_372 ?_
  refine k_land (pc := 375) dL_law_375 ?_
  refine k_lor (pc := 376) dL_law_376 ?_
  rw [hkey]
  refine l_callM sv_L_38 hmst hdom (fun q hq => hq) h01 hsz (fun B => s_mix hmst key) (pc := 377) dL_law_377 rfl rfl (Nat.le_of_ble_eq_true rfl) (by decide) (by decide) (by show _ ≤ 600000; omega) (by show _ ≤ 7302250; omega) ?_
  refine k_lcmp (pc := 380) dL_law_380 ?_
  refine k_if_eq (tgt := 778) (pc := 381) dL_law_381 (by decide) (fun _ => ?_) (fun z => absurd ((lg_cmp_eq _ _).mpr (rfl)) z)
  exact nxt kd it σ S _ _ ⟨hst, hc, hcr, hr, hi, hit⟩ (by omega) (by omega)
set_option maxRecDepth 4000 in
theorem law_unmix (hcap : CPa ad cap) (hmst : MSt mo adm slm) (hdom : DomM N1 N2 mo adm slm) (h01 : N0 ≤ N1) (hsz : s.heap.size = N0) (hX : va_X b L xs s s.heap) (hbl : b < s.heap.size) (hL : L ≤ 3072) {t : Nat} (ht : 6 * t + 6 ≤ L) {kd : Nat → Nat} {it : Nat → Da} {σ : CS} {S : SS} (hv : LIv ad ar ow cap kd it σ S) (nxt : ∀ (kd2 : Nat → Nat) (it2 : Nat → Da) (σ2 : CS) (S2 : SS) (k2 n2 : Nat), LIv ad ar ow cap kd2 it2 σ2 S2 → k2 ≤ 300 + t + 1 → n2 ≤ 14000 + 9 * t + 9 → K p l e s m #[Value.ref b] below meth c room_1 RL cL_law 4 ret G (lwA N0) Q k2 n2  (fun H => CH G (ACl N0 N1 N2) ad ar ow cap kd2 it2 σ2 H ∧ MPS G (AMo N1) mo adm slm S2 H) 778 [some (.ref b), some (.ref (ad 0)), some (.ref mo), some (.int (nI (6 * t)))] []) : K p l e s m #[Value.ref b] below meth c room_1 RL cL_law 4 ret G (lwA N0) Q (300 + t) (14000 + 9 * t)  (fun H => CH G (ACl N0 N1 N2) ad ar ow cap kd it σ H ∧ MPS G (AMo N1) mo adm slm S H) 386 [some (.ref b), some (.ref (ad 0)), some (.ref mo), some (.int (nI (6 * t)))] [] := by
  obtain ⟨hst, hc, hcr, hr, hi, hit⟩ := hv
  refine k_aload_n (pc := 386) dL_law_386 rfl ?_
  refine k_aload_n (pc := 387) dL_law_387 rfl ?_
  refine k_iload_n (pc := 388) dL_law_388 rfl ?_
  refine k_iconst (v := 1) (pc := 389) dL_law_389 (by decide) ?_
  refine k_iadd (pc := 390) dL_law_390 ?_
  refine k_sld (j := 6 * t + 1) hX hbl (by show ¬ N0 ≤ b; omega) (idx (6 * t) 1) (by omega) (by omega) (pc := 391) dL_law_391 ?_
  refine k_i2l (pc := 392) dL_law_392 ?_
  refine k_bipush (v := 32) (pc := 393) dL_law_393 (by decide) ?_
  refine k_lshl (pc := 395) dL_law_395 ?_
  refine k_aload_n (pc := 396) dL_law_396 rfl ?_
  refine k_iload_n (pc := 397) dL_law_397 rfl ?_
  refine k_iconst (v := 2) (pc := 398) dL_law_398 (by decide) ?_
  refine k_iadd (pc := 399) dL_law_399 ?_
  refine k_sld (j := 6 * t + 2) hX hbl (by show ¬ N0 ≤ b; omega) (idx (6 * t) 2) (by omega) (by omega) (pc := 400) dL_law_400 ?_
  refine k_i2l (pc := 401) dL_law_401 ?_
  refine k_ldc2 gw_692 (pc := 402) dL_law_402 ?_
  refine k_land (pc := 405) dL_law_405 ?_
  refine k_lor (pc := 406) dL_law_406 ?_
  refine k_genL fun key hkey => ?_
  refine l_callC sv_L_39 hst hdom (fun q hq => hq) (e_unmix (ad 0) key) (pc := 407) dL_law_407 rfl rfl (Nat.le_of_ble_eq_true rfl) (by decide) (by decide) (by show _ ≤ 600000; omega) (by show _ ≤ 7302250; omega) ?_
  refine k_aload_n (pc := 410) dL_law_410 rfl ?_
  refine k_aload_n (pc := 411) dL_law_411 rfl ?_
  refine k_iload_n (pc := 412) dL_law_412 rfl ?_
  refine k_iconst (v := 1) (pc := 413) dL_law_413 (by decide) ?_
  refine k_iadd (pc := 414) dL_law_414 ?_
  refine k_sld (j := 6 * t + 1) hX hbl (by show ¬ N0 ≤ b; omega) (idx (6 * t) 1) (by omega) (by omega) (pc := 415) dL_law_415 ?_
  refine k_i2l (pc := 416) dL_law_416 ?_
  refine k_bipush (v := 32) (pc := 417) dL_law_417 (by decide) ?_
  refine k_lshl (pc := 419) dL_law_419 ?_
  refine k_aload_n (pc := 420) dL_law_420 rfl ?_
  refine k_iload_n (pc := 421) dL_law_421 rfl ?_
  refine k_iconst (v := 2) (pc := 422) dL_law_422 (by decide) ?_
  refine k_iadd (pc := 423) dL_law_423 ?_
  refine k_sld (j := 6 * t + 2) hX hbl (by show ¬ N0 ≤ b; omega) (idx (6 * t) 2) (by omega) (by omega) (pc := 424) dL_law_424 ?_
  refine k_i2l (pc := 425) dL_law_425 ?_
  refine k_ldc2 gw_692 (pc := 426) dL_law_426 ?_
  refine k_land (pc := 429) dL_law_429 ?_
  refine k_lor (pc := 430) dL_law_430 ?_
  rw [hkey]
  refine l_callM sv_L_42 hmst hdom (fun q hq => hq) h01 hsz (fun B => s_unmix hmst key) (pc := 431) dL_law_431 rfl rfl (Nat.le_of_ble_eq_true rfl) (by decide) (by decide) (by show _ ≤ 600000; omega) (by show _ ≤ 7302250; omega) ?_
  refine k_lcmp (pc := 434) dL_law_434 ?_
  refine k_if_eq (tgt := 778) (pc := 435) dL_law_435 (by decide) (fun _ => ?_) (fun z => absurd ((lg_cmp_eq _ _).mpr (rfl)) z)
  exact nxt kd it σ S _ _ ⟨hst, hc, hcr, hr, hi, hit⟩ (by omega) (by omega)
set_option maxRecDepth 4000 in
theorem law_setOf (hcap : CPa ad cap) (hmst : MSt mo adm slm) (hdom : DomM N1 N2 mo adm slm) (h01 : N0 ≤ N1) (hsz : s.heap.size = N0) (hX : va_X b L xs s s.heap) (hbl : b < s.heap.size) (hL : L ≤ 3072) {t : Nat} (ht : 6 * t + 6 ≤ L) {kd : Nat → Nat} {it : Nat → Da} {σ : CS} {S : SS} (hv : LIv ad ar ow cap kd it σ S) (nxt : ∀ (kd2 : Nat → Nat) (it2 : Nat → Da) (σ2 : CS) (S2 : SS) (k2 n2 : Nat), LIv ad ar ow cap kd2 it2 σ2 S2 → k2 ≤ 300 + t + 1 → n2 ≤ 14000 + 9 * t + 9 → K p l e s m #[Value.ref b] below meth c room_1 RL cL_law 4 ret G (lwA N0) Q k2 n2  (fun H => CH G (ACl N0 N1 N2) ad ar ow cap kd2 it2 σ2 H ∧ MPS G (AMo N1) mo adm slm S2 H) 778 [some (.ref b), some (.ref (ad 0)), some (.ref mo), some (.int (nI (6 * t)))] []) : K p l e s m #[Value.ref b] below meth c room_1 RL cL_law 4 ret G (lwA N0) Q (300 + t) (14000 + 9 * t)  (fun H => CH G (ACl N0 N1 N2) ad ar ow cap kd it σ H ∧ MPS G (AMo N1) mo adm slm S H) 440 [some (.ref b), some (.ref (ad 0)), some (.ref mo), some (.int (nI (6 * t)))] [] := by
  obtain ⟨hst, hc, hcr, hr, hi, hit⟩ := hv
  refine k_aload_n (pc := 440) dL_law_440 rfl ?_
  refine k_aload_n (pc := 441) dL_law_441 rfl ?_
  refine k_iload_n (pc := 442) dL_law_442 rfl ?_
  refine k_iconst (v := 1) (pc := 443) dL_law_443 (by decide) ?_
  refine k_iadd (pc := 444) dL_law_444 ?_
  refine k_sld (j := 6 * t + 1) hX hbl (by show ¬ N0 ≤ b; omega) (idx (6 * t) 1) (by omega) (by omega) (pc := 445) dL_law_445 ?_
  refine k_i2l (pc := 446) dL_law_446 ?_
  refine k_bipush (v := 32) (pc := 447) dL_law_447 (by decide) ?_
  refine k_lshl (pc := 449) dL_law_449 ?_
  refine k_aload_n (pc := 450) dL_law_450 rfl ?_
  refine k_iload_n (pc := 451) dL_law_451 rfl ?_
  refine k_iconst (v := 2) (pc := 452) dL_law_452 (by decide) ?_
  refine k_iadd (pc := 453) dL_law_453 ?_
  refine k_sld (j := 6 * t + 2) hX hbl (by show ¬ N0 ≤ b; omega) (idx (6 * t) 2) (by omega) (by omega) (pc := 454) dL_law_454 ?_
  refine k_i2l (pc := 455) dL_law_455 ?_
  refine k_ldc2 gw_692 (pc := 456) dL_law_456 ?_
  refine k_land (pc := 459) dL_law_459 ?_
  refine k_lor (pc := 460) dL_law_460 ?_
  refine k_genL fun key hkey => ?_
  refine l_callC sv_L_43 hst hdom (fun q hq => hq) (e_setOf (ad 0) key) (pc := 461) dL_law_461 rfl rfl (Nat.le_of_ble_eq_true rfl) (by decide) (by decide) (by show _ ≤ 600000; omega) (by show _ ≤ 7302250; omega) ?_
  refine k_aload_n (pc := 464) dL_law_464 rfl ?_
  refine k_aload_n (pc := 465) dL_law_465 rfl ?_
  refine k_iload_n (pc := 466) dL_law_466 rfl ?_
  refine k_iconst (v := 1) (pc := 467) dL_law_467 (by decide) ?_
  refine k_iadd (pc := 468) dL_law_468 ?_
  refine k_sld (j := 6 * t + 1) hX hbl (by show ¬ N0 ≤ b; omega) (idx (6 * t) 1) (by omega) (by omega) (pc := 469) dL_law_469 ?_
  refine k_i2l (pc := 470) dL_law_470 ?_
  refine k_bipush (v := 32) (pc := 471) dL_law_471 (by decide) ?_
  refine k_lshl (pc := 473) dL_law_473 ?_
  refine k_aload_n (pc := 474) dL_law_474 rfl ?_
  refine k_iload_n (pc := 475) dL_law_475 rfl ?_
  refine k_iconst (v := 2) (pc := 476) dL_law_476 (by decide) ?_
  refine k_iadd (pc := 477) dL_law_477 ?_
  refine k_sld (j := 6 * t + 2) hX hbl (by show ¬ N0 ≤ b; omega) (idx (6 * t) 2) (by omega) (by omega) (pc := 478) dL_law_478 ?_
  refine k_i2l (pc := 479) dL_law_479 ?_
  refine k_ldc2 gw_692 (pc := 480) dL_law_480 ?_
  refine k_land (pc := 483) dL_law_483 ?_
  refine k_lor (pc := 484) dL_law_484 ?_
  rw [hkey]
  refine l_callM sv_L_46 hmst hdom (fun q hq => hq) h01 hsz (fun B => s_setOf hmst key) (pc := 485) dL_law_485 rfl rfl (Nat.le_of_ble_eq_true rfl) (by decide) (by decide) (by show _ ≤ 600000; omega) (by show _ ≤ 7302250; omega) ?_
  refine k_icmp_eq (tgt := 778) (pc := 488) dL_law_488 (by decide) (fun _ => ?_) (fun z => absurd (rfl) z)
  exact nxt kd it σ S _ _ ⟨hst, hc, hcr, hr, hi, hit⟩ (by omega) (by omega)
set_option maxRecDepth 4000 in
theorem law_where (hcap : CPa ad cap) (hmst : MSt mo adm slm) (hdom : DomM N1 N2 mo adm slm) (h01 : N0 ≤ N1) (hsz : s.heap.size = N0) (hX : va_X b L xs s s.heap) (hbl : b < s.heap.size) (hL : L ≤ 3072) {t : Nat} (ht : 6 * t + 6 ≤ L) {kd : Nat → Nat} {it : Nat → Da} {σ : CS} {S : SS} (hv : LIv ad ar ow cap kd it σ S) (nxt : ∀ (kd2 : Nat → Nat) (it2 : Nat → Da) (σ2 : CS) (S2 : SS) (k2 n2 : Nat), LIv ad ar ow cap kd2 it2 σ2 S2 → k2 ≤ 300 + t + 1 → n2 ≤ 14000 + 9 * t + 9 → K p l e s m #[Value.ref b] below meth c room_1 RL cL_law 4 ret G (lwA N0) Q k2 n2  (fun H => CH G (ACl N0 N1 N2) ad ar ow cap kd2 it2 σ2 H ∧ MPS G (AMo N1) mo adm slm S2 H) 778 [some (.ref b), some (.ref (ad 0)), some (.ref mo), some (.int (nI (6 * t)))] []) : K p l e s m #[Value.ref b] below meth c room_1 RL cL_law 4 ret G (lwA N0) Q (300 + t) (14000 + 9 * t)  (fun H => CH G (ACl N0 N1 N2) ad ar ow cap kd it σ H ∧ MPS G (AMo N1) mo adm slm S H) 493 [some (.ref b), some (.ref (ad 0)), some (.ref mo), some (.int (nI (6 * t)))] [] := by
  obtain ⟨hst, hc, hcr, hr, hi, hit⟩ := hv
  refine k_aload_n (pc := 493) dL_law_493 rfl ?_
  refine k_aload_n (pc := 494) dL_law_494 rfl ?_
  refine k_iload_n (pc := 495) dL_law_495 rfl ?_
  refine k_iconst (v := 1) (pc := 496) dL_law_496 (by decide) ?_
  refine k_iadd (pc := 497) dL_law_497 ?_
  refine k_sld (j := 6 * t + 1) hX hbl (by show ¬ N0 ≤ b; omega) (idx (6 * t) 1) (by omega) (by omega) (pc := 498) dL_law_498 ?_
  refine k_i2l (pc := 499) dL_law_499 ?_
  refine k_bipush (v := 32) (pc := 500) dL_law_500 (by decide) ?_
  refine k_lshl (pc := 502) dL_law_502 ?_
  refine k_aload_n (pc := 503) dL_law_503 rfl ?_
  refine k_iload_n (pc := 504) dL_law_504 rfl ?_
  refine k_iconst (v := 2) (pc := 505) dL_law_505 (by decide) ?_
  refine k_iadd (pc := 506) dL_law_506 ?_
  refine k_sld (j := 6 * t + 2) hX hbl (by show ¬ N0 ≤ b; omega) (idx (6 * t) 2) (by omega) (by omega) (pc := 507) dL_law_507 ?_
  refine k_i2l (pc := 508) dL_law_508 ?_
  refine k_ldc2 gw_692 (pc := 509) dL_law_509 ?_
  refine k_land (pc := 512) dL_law_512 ?_
  refine k_lor (pc := 513) dL_law_513 ?_
  refine k_genL fun key hkey => ?_
  refine l_callC sv_L_47 hst hdom (fun q hq => hq) (e_where hst key hc) (pc := 514) dL_law_514 rfl rfl (Nat.le_of_ble_eq_true rfl) (by decide) (by decide) (by show _ ≤ 600000; omega) (by show _ ≤ 7302250; omega) ?_
  refine k_aload_n (pc := 517) dL_law_517 rfl ?_
  refine k_aload_n (pc := 518) dL_law_518 rfl ?_
  refine k_iload_n (pc := 519) dL_law_519 rfl ?_
  refine k_iconst (v := 1) (pc := 520) dL_law_520 (by decide) ?_
  refine k_iadd (pc := 521) dL_law_521 ?_
  refine k_sld (j := 6 * t + 1) hX hbl (by show ¬ N0 ≤ b; omega) (idx (6 * t) 1) (by omega) (by omega) (pc := 522) dL_law_522 ?_
  refine k_i2l (pc := 523) dL_law_523 ?_
  refine k_bipush (v := 32) (pc := 524) dL_law_524 (by decide) ?_
  refine k_lshl (pc := 526) dL_law_526 ?_
  refine k_aload_n (pc := 527) dL_law_527 rfl ?_
  refine k_iload_n (pc := 528) dL_law_528 rfl ?_
  refine k_iconst (v := 2) (pc := 529) dL_law_529 (by decide) ?_
  refine k_iadd (pc := 530) dL_law_530 ?_
  refine k_sld (j := 6 * t + 2) hX hbl (by show ¬ N0 ≤ b; omega) (idx (6 * t) 2) (by omega) (by omega) (pc := 531) dL_law_531 ?_
  refine k_i2l (pc := 532) dL_law_532 ?_
  refine k_ldc2 gw_692 (pc := 533) dL_law_533 ?_
  refine k_land (pc := 536) dL_law_536 ?_
  refine k_lor (pc := 537) dL_law_537 ?_
  rw [hkey]
  refine l_callM sv_L_50 hmst hdom (fun q hq => hq) h01 hsz (fun B => c_where hmst key) (pc := 538) dL_law_538 rfl rfl (Nat.le_of_ble_eq_true rfl) (by decide) (by decide) (by show _ ≤ 600000; omega) (by show _ ≤ 7302250; omega) ?_
  refine k_icmp_eq (tgt := 778) (pc := 541) dL_law_541 (by decide) (fun _ => ?_) (fun z => absurd (hr.where hi key) z)
  exact nxt kd it σ S _ _ ⟨hst, hc, hcr, hr, hi, hit⟩ (by omega) (by omega)
set_option maxRecDepth 4000 in
theorem law_mark (hcap : CPa ad cap) (hmst : MSt mo adm slm) (hdom : DomM N1 N2 mo adm slm) (h01 : N0 ≤ N1) (hsz : s.heap.size = N0) (hX : va_X b L xs s s.heap) (hbl : b < s.heap.size) (hL : L ≤ 3072) {t : Nat} (ht : 6 * t + 6 ≤ L) {kd : Nat → Nat} {it : Nat → Da} {σ : CS} {S : SS} (hv : LIv ad ar ow cap kd it σ S) (nxt : ∀ (kd2 : Nat → Nat) (it2 : Nat → Da) (σ2 : CS) (S2 : SS) (k2 n2 : Nat), LIv ad ar ow cap kd2 it2 σ2 S2 → k2 ≤ 300 + t + 1 → n2 ≤ 14000 + 9 * t + 9 → K p l e s m #[Value.ref b] below meth c room_1 RL cL_law 4 ret G (lwA N0) Q k2 n2  (fun H => CH G (ACl N0 N1 N2) ad ar ow cap kd2 it2 σ2 H ∧ MPS G (AMo N1) mo adm slm S2 H) 778 [some (.ref b), some (.ref (ad 0)), some (.ref mo), some (.int (nI (6 * t)))] []) : K p l e s m #[Value.ref b] below meth c room_1 RL cL_law 4 ret G (lwA N0) Q (300 + t) (14000 + 9 * t)  (fun H => CH G (ACl N0 N1 N2) ad ar ow cap kd it σ H ∧ MPS G (AMo N1) mo adm slm S H) 546 [some (.ref b), some (.ref (ad 0)), some (.ref mo), some (.int (nI (6 * t)))] [] := by
  obtain ⟨hst, hc, hcr, hr, hi, hit⟩ := hv
  refine k_aload_n (pc := 546) dL_law_546 rfl ?_
  refine k_aload_n (pc := 547) dL_law_547 rfl ?_
  refine k_iload_n (pc := 548) dL_law_548 rfl ?_
  refine k_iconst (v := 1) (pc := 549) dL_law_549 (by decide) ?_
  refine k_iadd (pc := 550) dL_law_550 ?_
  refine k_sld (j := 6 * t + 1) hX hbl (by show ¬ N0 ≤ b; omega) (idx (6 * t) 1) (by omega) (by omega) (pc := 551) dL_law_551 ?_
  refine k_i2l (pc := 552) dL_law_552 ?_
  refine k_bipush (v := 32) (pc := 553) dL_law_553 (by decide) ?_
  refine k_lshl (pc := 555) dL_law_555 ?_
  refine k_aload_n (pc := 556) dL_law_556 rfl ?_
  refine k_iload_n (pc := 557) dL_law_557 rfl ?_
  refine k_iconst (v := 2) (pc := 558) dL_law_558 (by decide) ?_
  refine k_iadd (pc := 559) dL_law_559 ?_
  refine k_sld (j := 6 * t + 2) hX hbl (by show ¬ N0 ≤ b; omega) (idx (6 * t) 2) (by omega) (by omega) (pc := 560) dL_law_560 ?_
  refine k_i2l (pc := 561) dL_law_561 ?_
  refine k_ldc2 gw_692 (pc := 562) dL_law_562 ?_
  refine k_land (pc := 565) dL_law_565 ?_
  refine k_lor (pc := 566) dL_law_566 ?_
  refine k_genL fun key hkey => ?_
  refine l_callC sv_L_51 hst hdom (fun q hq => hq) (e_mark hst key hc) (pc := 567) dL_law_567 rfl rfl (Nat.le_of_ble_eq_true rfl) (by decide) (by decide) (by show _ ≤ 600000; omega) (by show _ ≤ 7302250; omega) ?_
  refine k_aload_n (pc := 570) dL_law_570 rfl ?_
  refine k_aload_n (pc := 571) dL_law_571 rfl ?_
  refine k_iload_n (pc := 572) dL_law_572 rfl ?_
  refine k_iconst (v := 1) (pc := 573) dL_law_573 (by decide) ?_
  refine k_iadd (pc := 574) dL_law_574 ?_
  refine k_sld (j := 6 * t + 1) hX hbl (by show ¬ N0 ≤ b; omega) (idx (6 * t) 1) (by omega) (by omega) (pc := 575) dL_law_575 ?_
  refine k_i2l (pc := 576) dL_law_576 ?_
  refine k_bipush (v := 32) (pc := 577) dL_law_577 (by decide) ?_
  refine k_lshl (pc := 579) dL_law_579 ?_
  refine k_aload_n (pc := 580) dL_law_580 rfl ?_
  refine k_iload_n (pc := 581) dL_law_581 rfl ?_
  refine k_iconst (v := 2) (pc := 582) dL_law_582 (by decide) ?_
  refine k_iadd (pc := 583) dL_law_583 ?_
  refine k_sld (j := 6 * t + 2) hX hbl (by show ¬ N0 ≤ b; omega) (idx (6 * t) 2) (by omega) (by omega) (pc := 584) dL_law_584 ?_
  refine k_i2l (pc := 585) dL_law_585 ?_
  refine k_ldc2 gw_692 (pc := 586) dL_law_586 ?_
  refine k_land (pc := 589) dL_law_589 ?_
  refine k_lor (pc := 590) dL_law_590 ?_
  rw [hkey]
  refine l_callM sv_L_54 hmst hdom (fun q hq => hq) h01 hsz (fun B => c_mark hmst key) (pc := 591) dL_law_591 rfl rfl (Nat.le_of_ble_eq_true rfl) (by decide) (by decide) (by show _ ≤ 600000; omega) (by show _ ≤ 7302250; omega) ?_
  refine k_icmp_eq (tgt := 778) (pc := 594) dL_law_594 (by decide) (fun _ => ?_) (fun z => absurd (hr.mark hi key) z)
  exact nxt kd it σ S _ _ ⟨hst, hc, hcr, hr, hi, hit⟩ (by omega) (by omega)
set_option maxRecDepth 4000 in
theorem law_stands (hcap : CPa ad cap) (hmst : MSt mo adm slm) (hdom : DomM N1 N2 mo adm slm) (h01 : N0 ≤ N1) (hsz : s.heap.size = N0) (hX : va_X b L xs s s.heap) (hbl : b < s.heap.size) (hL : L ≤ 3072) {t : Nat} (ht : 6 * t + 6 ≤ L) {kd : Nat → Nat} {it : Nat → Da} {σ : CS} {S : SS} (hv : LIv ad ar ow cap kd it σ S) (nxt : ∀ (kd2 : Nat → Nat) (it2 : Nat → Da) (σ2 : CS) (S2 : SS) (k2 n2 : Nat), LIv ad ar ow cap kd2 it2 σ2 S2 → k2 ≤ 300 + t + 1 → n2 ≤ 14000 + 9 * t + 9 → K p l e s m #[Value.ref b] below meth c room_1 RL cL_law 4 ret G (lwA N0) Q k2 n2  (fun H => CH G (ACl N0 N1 N2) ad ar ow cap kd2 it2 σ2 H ∧ MPS G (AMo N1) mo adm slm S2 H) 778 [some (.ref b), some (.ref (ad 0)), some (.ref mo), some (.int (nI (6 * t)))] []) : K p l e s m #[Value.ref b] below meth c room_1 RL cL_law 4 ret G (lwA N0) Q (300 + t) (14000 + 9 * t)  (fun H => CH G (ACl N0 N1 N2) ad ar ow cap kd it σ H ∧ MPS G (AMo N1) mo adm slm S H) 599 [some (.ref b), some (.ref (ad 0)), some (.ref mo), some (.int (nI (6 * t)))] [] := by
  obtain ⟨hst, hc, hcr, hr, hi, hit⟩ := hv
  refine k_aload_n (pc := 599) dL_law_599 rfl ?_
  refine k_aload_n (pc := 600) dL_law_600 rfl ?_
  refine k_iload_n (pc := 601) dL_law_601 rfl ?_
  refine k_iconst (v := 1) (pc := 602) dL_law_602 (by decide) ?_
  refine k_iadd (pc := 603) dL_law_603 ?_
  refine k_sld (j := 6 * t + 1) hX hbl (by show ¬ N0 ≤ b; omega) (idx (6 * t) 1) (by omega) (by omega) (pc := 604) dL_law_604 ?_
  refine l_callC sv_L_55 hst hdom (fun q hq => hq) (e_stands hst (xs (6 * t + 1))) (pc := 605) dL_law_605 rfl rfl (Nat.le_of_ble_eq_true rfl) (by decide) (by decide) (by show _ ≤ 600000; omega) (by show _ ≤ 7302250; omega) ?_
  refine k_aload_n (pc := 608) dL_law_608 rfl ?_
  refine k_aload_n (pc := 609) dL_law_609 rfl ?_
  refine k_iload_n (pc := 610) dL_law_610 rfl ?_
  refine k_iconst (v := 1) (pc := 611) dL_law_611 (by decide) ?_
  refine k_iadd (pc := 612) dL_law_612 ?_
  refine k_sld (j := 6 * t + 1) hX hbl (by show ¬ N0 ≤ b; omega) (idx (6 * t) 1) (by omega) (by omega) (pc := 613) dL_law_613 ?_
  refine l_callM sv_L_58 hmst hdom (fun q hq => hq) h01 hsz (fun B => c_stands hmst (xs (6 * t + 1))) (pc := 614) dL_law_614 rfl rfl (Nat.le_of_ble_eq_true rfl) (by decide) (by decide) (by show _ ≤ 600000; omega) (by show _ ≤ 7302250; omega) ?_
  refine k_icmp_eq (tgt := 778) (pc := 617) dL_law_617 (by decide) (fun _ => ?_) (fun z => absurd (hr.stands (xs (6 * t + 1))) z)
  exact nxt kd it σ S _ _ ⟨hst, hc, hcr, hr, hi, hit⟩ (by omega) (by omega)
set_option maxRecDepth 4000 in
theorem law_key (hcap : CPa ad cap) (hmst : MSt mo adm slm) (hdom : DomM N1 N2 mo adm slm) (h01 : N0 ≤ N1) (hsz : s.heap.size = N0) (hX : va_X b L xs s s.heap) (hbl : b < s.heap.size) (hL : L ≤ 3072) {t : Nat} (ht : 6 * t + 6 ≤ L) {kd : Nat → Nat} {it : Nat → Da} {σ : CS} {S : SS} (hv : LIv ad ar ow cap kd it σ S) (nxt : ∀ (kd2 : Nat → Nat) (it2 : Nat → Da) (σ2 : CS) (S2 : SS) (k2 n2 : Nat), LIv ad ar ow cap kd2 it2 σ2 S2 → k2 ≤ 300 + t + 1 → n2 ≤ 14000 + 9 * t + 9 → K p l e s m #[Value.ref b] below meth c room_1 RL cL_law 4 ret G (lwA N0) Q k2 n2  (fun H => CH G (ACl N0 N1 N2) ad ar ow cap kd2 it2 σ2 H ∧ MPS G (AMo N1) mo adm slm S2 H) 778 [some (.ref b), some (.ref (ad 0)), some (.ref mo), some (.int (nI (6 * t)))] []) : K p l e s m #[Value.ref b] below meth c room_1 RL cL_law 4 ret G (lwA N0) Q (300 + t) (14000 + 9 * t)  (fun H => CH G (ACl N0 N1 N2) ad ar ow cap kd it σ H ∧ MPS G (AMo N1) mo adm slm S H) 622 [some (.ref b), some (.ref (ad 0)), some (.ref mo), some (.int (nI (6 * t)))] [] := by
  obtain ⟨hst, hc, hcr, hr, hi, hit⟩ := hv
  refine k_aload_n (pc := 622) dL_law_622 rfl ?_
  refine k_aload_n (pc := 623) dL_law_623 rfl ?_
  refine k_iload_n (pc := 624) dL_law_624 rfl ?_
  refine k_iconst (v := 1) (pc := 625) dL_law_625 (by decide) ?_
  refine k_iadd (pc := 626) dL_law_626 ?_
  refine k_sld (j := 6 * t + 1) hX hbl (by show ¬ N0 ≤ b; omega) (idx (6 * t) 1) (by omega) (by omega) (pc := 627) dL_law_627 ?_
  refine k_aload_n (pc := 628) dL_law_628 rfl ?_
  refine k_iload_n (pc := 629) dL_law_629 rfl ?_
  refine k_iconst (v := 2) (pc := 630) dL_law_630 (by decide) ?_
  refine k_iadd (pc := 631) dL_law_631 ?_
  refine k_sld (j := 6 * t + 2) hX hbl (by show ¬ N0 ≤ b; omega) (idx (6 * t) 2) (by omega) (by omega) (pc := 632) dL_law_632 ?_
  refine l_callC sv_L_59 hst hdom (fun q hq => hq) (e_key hst (xs (6 * t + 1)) (xs (6 * t + 2)) hc) (pc := 633) dL_law_633 rfl rfl (Nat.le_of_ble_eq_true rfl) (by decide) (by decide) (by show _ ≤ 600000; omega) (by show _ ≤ 7302250; omega) ?_
  refine k_aload_n (pc := 636) dL_law_636 rfl ?_
  refine k_aload_n (pc := 637) dL_law_637 rfl ?_
  refine k_iload_n (pc := 638) dL_law_638 rfl ?_
  refine k_iconst (v := 1) (pc := 639) dL_law_639 (by decide) ?_
  refine k_iadd (pc := 640) dL_law_640 ?_
  refine k_sld (j := 6 * t + 1) hX hbl (by show ¬ N0 ≤ b; omega) (idx (6 * t) 1) (by omega) (by omega) (pc := 641) dL_law_641 ?_
  refine k_aload_n (pc := 642) dL_law_642 rfl ?_
  refine k_iload_n (pc := 643) dL_law_643 rfl ?_
  refine k_iconst (v := 2) (pc := 644) dL_law_644 (by decide) ?_
  refine k_iadd (pc := 645) dL_law_645 ?_
  refine k_sld (j := 6 * t + 2) hX hbl (by show ¬ N0 ≤ b; omega) (idx (6 * t) 2) (by omega) (by omega) (pc := 646) dL_law_646 ?_
  refine l_callM sv_L_63 hmst hdom (fun q hq => hq) h01 hsz (fun B => c_key hmst (xs (6 * t + 1)) (xs (6 * t + 2))) (pc := 647) dL_law_647 rfl rfl (Nat.le_of_ble_eq_true rfl) (by decide) (by decide) (by show _ ≤ 600000; omega) (by show _ ≤ 7302250; omega) ?_
  refine k_lcmp (pc := 650) dL_law_650 ?_
  refine k_if_eq (tgt := 778) (pc := 651) dL_law_651 (by decide) (fun _ => ?_) (fun z => absurd ((lg_cmp_eq _ _).mpr (hr.key (xs (6 * t + 1)) (xs (6 * t + 2)))) z)
  exact nxt kd it σ S _ _ ⟨hst, hc, hcr, hr, hi, hit⟩ (by omega) (by omega)
set_option maxRecDepth 4000 in
theorem law_filter (hcap : CPa ad cap) (hmst : MSt mo adm slm) (hdom : DomM N1 N2 mo adm slm) (h01 : N0 ≤ N1) (hsz : s.heap.size = N0) (hX : va_X b L xs s s.heap) (hbl : b < s.heap.size) (hL : L ≤ 3072) {t : Nat} (ht : 6 * t + 6 ≤ L) {kd : Nat → Nat} {it : Nat → Da} {σ : CS} {S : SS} (hv : LIv ad ar ow cap kd it σ S) (nxt : ∀ (kd2 : Nat → Nat) (it2 : Nat → Da) (σ2 : CS) (S2 : SS) (k2 n2 : Nat), LIv ad ar ow cap kd2 it2 σ2 S2 → k2 ≤ 300 + t + 1 → n2 ≤ 14000 + 9 * t + 9 → K p l e s m #[Value.ref b] below meth c room_1 RL cL_law 4 ret G (lwA N0) Q k2 n2  (fun H => CH G (ACl N0 N1 N2) ad ar ow cap kd2 it2 σ2 H ∧ MPS G (AMo N1) mo adm slm S2 H) 778 [some (.ref b), some (.ref (ad 0)), some (.ref mo), some (.int (nI (6 * t)))] []) : K p l e s m #[Value.ref b] below meth c room_1 RL cL_law 4 ret G (lwA N0) Q (300 + t) (14000 + 9 * t)  (fun H => CH G (ACl N0 N1 N2) ad ar ow cap kd it σ H ∧ MPS G (AMo N1) mo adm slm S H) 656 [some (.ref b), some (.ref (ad 0)), some (.ref mo), some (.int (nI (6 * t)))] [] := by
  obtain ⟨hst, hc, hcr, hr, hi, hit⟩ := hv
  refine k_aload_n (pc := 656) dL_law_656 rfl ?_
  refine k_aload_n (pc := 657) dL_law_657 rfl ?_
  refine k_iload_n (pc := 658) dL_law_658 rfl ?_
  refine k_iconst (v := 1) (pc := 659) dL_law_659 (by decide) ?_
  refine k_iadd (pc := 660) dL_law_660 ?_
  refine k_sld (j := 6 * t + 1) hX hbl (by show ¬ N0 ≤ b; omega) (idx (6 * t) 1) (by omega) (by omega) (pc := 661) dL_law_661 ?_
  refine l_callC sv_L_64 hst hdom (fun q hq => hq) (e_filter hst (xs (6 * t + 1))) (pc := 662) dL_law_662 rfl rfl (Nat.le_of_ble_eq_true rfl) (by decide) (by decide) (by show _ ≤ 600000; omega) (by show _ ≤ 7302250; omega) ?_
  refine k_aload_n (pc := 665) dL_law_665 rfl ?_
  refine k_aload_n (pc := 666) dL_law_666 rfl ?_
  refine k_iload_n (pc := 667) dL_law_667 rfl ?_
  refine k_iconst (v := 1) (pc := 668) dL_law_668 (by decide) ?_
  refine k_iadd (pc := 669) dL_law_669 ?_
  refine k_sld (j := 6 * t + 1) hX hbl (by show ¬ N0 ≤ b; omega) (idx (6 * t) 1) (by omega) (by omega) (pc := 670) dL_law_670 ?_
  refine l_callM sv_L_68 hmst hdom (fun q hq => hq) h01 hsz (fun B => c_filter hmst (xs (6 * t + 1))) (pc := 671) dL_law_671 rfl rfl (Nat.le_of_ble_eq_true rfl) (by decide) (by decide) (by show _ ≤ 600000; omega) (by show _ ≤ 7302250; omega) ?_
  refine k_lcmp (pc := 674) dL_law_674 ?_
  refine k_if_eq (tgt := 778) (pc := 675) dL_law_675 (by decide) (fun _ => ?_) (fun z => absurd ((lg_cmp_eq _ _).mpr (hr.filter (xs (6 * t + 1)))) z)
  exact nxt kd it σ S _ _ ⟨hst, hc, hcr, hr, hi, hit⟩ (by omega) (by omega)
set_option maxRecDepth 4000 in
theorem law_alive (hcap : CPa ad cap) (hmst : MSt mo adm slm) (hdom : DomM N1 N2 mo adm slm) (h01 : N0 ≤ N1) (hsz : s.heap.size = N0) (hX : va_X b L xs s s.heap) (hbl : b < s.heap.size) (hL : L ≤ 3072) {t : Nat} (ht : 6 * t + 6 ≤ L) {kd : Nat → Nat} {it : Nat → Da} {σ : CS} {S : SS} (hv : LIv ad ar ow cap kd it σ S) (nxt : ∀ (kd2 : Nat → Nat) (it2 : Nat → Da) (σ2 : CS) (S2 : SS) (k2 n2 : Nat), LIv ad ar ow cap kd2 it2 σ2 S2 → k2 ≤ 300 + t + 1 → n2 ≤ 14000 + 9 * t + 9 → K p l e s m #[Value.ref b] below meth c room_1 RL cL_law 4 ret G (lwA N0) Q k2 n2  (fun H => CH G (ACl N0 N1 N2) ad ar ow cap kd2 it2 σ2 H ∧ MPS G (AMo N1) mo adm slm S2 H) 778 [some (.ref b), some (.ref (ad 0)), some (.ref mo), some (.int (nI (6 * t)))] []) : K p l e s m #[Value.ref b] below meth c room_1 RL cL_law 4 ret G (lwA N0) Q (300 + t) (14000 + 9 * t)  (fun H => CH G (ACl N0 N1 N2) ad ar ow cap kd it σ H ∧ MPS G (AMo N1) mo adm slm S H) 680 [some (.ref b), some (.ref (ad 0)), some (.ref mo), some (.int (nI (6 * t)))] [] := by
  obtain ⟨hst, hc, hcr, hr, hi, hit⟩ := hv
  refine k_aload_n (pc := 680) dL_law_680 rfl ?_
  refine k_aload_n (pc := 681) dL_law_681 rfl ?_
  refine k_iload_n (pc := 682) dL_law_682 rfl ?_
  refine k_iconst (v := 1) (pc := 683) dL_law_683 (by decide) ?_
  refine k_iadd (pc := 684) dL_law_684 ?_
  refine k_sld (j := 6 * t + 1) hX hbl (by show ¬ N0 ≤ b; omega) (idx (6 * t) 1) (by omega) (by omega) (pc := 685) dL_law_685 ?_
  refine l_callC sv_L_69 hst hdom (fun q hq => hq) (e_alive hst (xs (6 * t + 1)) hc) (pc := 686) dL_law_686 rfl rfl (Nat.le_of_ble_eq_true rfl) (by decide) (by decide) (by show _ ≤ 600000; omega) (by show _ ≤ 7302250; omega) ?_
  refine k_aload_n (pc := 689) dL_law_689 rfl ?_
  refine k_aload_n (pc := 690) dL_law_690 rfl ?_
  refine k_iload_n (pc := 691) dL_law_691 rfl ?_
  refine k_iconst (v := 1) (pc := 692) dL_law_692 (by decide) ?_
  refine k_iadd (pc := 693) dL_law_693 ?_
  refine k_sld (j := 6 * t + 1) hX hbl (by show ¬ N0 ≤ b; omega) (idx (6 * t) 1) (by omega) (by omega) (pc := 694) dL_law_694 ?_
  refine l_callM sv_L_72 hmst hdom (fun q hq => hq) h01 hsz (fun B => c_alive hmst (xs (6 * t + 1)) hi.lb) (pc := 695) dL_law_695 rfl rfl (Nat.le_of_ble_eq_true rfl) (by decide) (by decide) (by show _ ≤ 600000; omega) (by show _ ≤ 7302250; omega) ?_
  refine k_icmp_eq (tgt := 778) (pc := 698) dL_law_698 (by decide) (fun _ => ?_) (fun z => absurd (hr.alive hi (xs (6 * t + 1))) z)
  exact nxt kd it σ S _ _ ⟨hst, hc, hcr, hr, hi, hit⟩ (by omega) (by omega)
set_option maxRecDepth 4000 in
theorem law_count (hcap : CPa ad cap) (hmst : MSt mo adm slm) (hdom : DomM N1 N2 mo adm slm) (h01 : N0 ≤ N1) (hsz : s.heap.size = N0) (hX : va_X b L xs s s.heap) (hbl : b < s.heap.size) (hL : L ≤ 3072) {t : Nat} (ht : 6 * t + 6 ≤ L) {kd : Nat → Nat} {it : Nat → Da} {σ : CS} {S : SS} (hv : LIv ad ar ow cap kd it σ S) (nxt : ∀ (kd2 : Nat → Nat) (it2 : Nat → Da) (σ2 : CS) (S2 : SS) (k2 n2 : Nat), LIv ad ar ow cap kd2 it2 σ2 S2 → k2 ≤ 300 + t + 1 → n2 ≤ 14000 + 9 * t + 9 → K p l e s m #[Value.ref b] below meth c room_1 RL cL_law 4 ret G (lwA N0) Q k2 n2  (fun H => CH G (ACl N0 N1 N2) ad ar ow cap kd2 it2 σ2 H ∧ MPS G (AMo N1) mo adm slm S2 H) 778 [some (.ref b), some (.ref (ad 0)), some (.ref mo), some (.int (nI (6 * t)))] []) : K p l e s m #[Value.ref b] below meth c room_1 RL cL_law 4 ret G (lwA N0) Q (300 + t) (14000 + 9 * t)  (fun H => CH G (ACl N0 N1 N2) ad ar ow cap kd it σ H ∧ MPS G (AMo N1) mo adm slm S H) 703 [some (.ref b), some (.ref (ad 0)), some (.ref mo), some (.int (nI (6 * t)))] [] := by
  obtain ⟨hst, hc, hcr, hr, hi, hit⟩ := hv
  refine k_aload_n (pc := 703) dL_law_703 rfl ?_
  refine k_aload_n (pc := 704) dL_law_704 rfl ?_
  refine k_iload_n (pc := 705) dL_law_705 rfl ?_
  refine k_iconst (v := 1) (pc := 706) dL_law_706 (by decide) ?_
  refine k_iadd (pc := 707) dL_law_707 ?_
  refine k_sld (j := 6 * t + 1) hX hbl (by show ¬ N0 ≤ b; omega) (idx (6 * t) 1) (by omega) (by omega) (pc := 708) dL_law_708 ?_
  refine l_callC sv_L_73 hst hdom (fun q hq => hq) (e_count hst (xs (6 * t + 1)) hc) (pc := 709) dL_law_709 rfl rfl (Nat.le_of_ble_eq_true rfl) (by decide) (by decide) (by show _ ≤ 600000; omega) (by show _ ≤ 7302250; omega) ?_
  refine k_aload_n (pc := 712) dL_law_712 rfl ?_
  refine k_aload_n (pc := 713) dL_law_713 rfl ?_
  refine k_iload_n (pc := 714) dL_law_714 rfl ?_
  refine k_iconst (v := 1) (pc := 715) dL_law_715 (by decide) ?_
  refine k_iadd (pc := 716) dL_law_716 ?_
  refine k_sld (j := 6 * t + 1) hX hbl (by show ¬ N0 ≤ b; omega) (idx (6 * t) 1) (by omega) (by omega) (pc := 717) dL_law_717 ?_
  refine l_callM sv_L_76 hmst hdom (fun q hq => hq) h01 hsz (fun B => c_count hmst (xs (6 * t + 1)) hi.2.2.2.1) (pc := 718) dL_law_718 rfl rfl (Nat.le_of_ble_eq_true rfl) (by decide) (by decide) (by show _ ≤ 600000; omega) (by show _ ≤ 7302250; omega) ?_
  refine k_icmp_eq (tgt := 778) (pc := 721) dL_law_721 (by decide) (fun _ => ?_) (fun z => absurd (hr.count hi (xs (6 * t + 1))) z)
  exact nxt kd it σ S _ _ ⟨hst, hc, hcr, hr, hi, hit⟩ (by omega) (by omega)
set_option maxRecDepth 4000 in
theorem law_close (hcap : CPa ad cap) (hmst : MSt mo adm slm) (hdom : DomM N1 N2 mo adm slm) (h01 : N0 ≤ N1) (hsz : s.heap.size = N0) (hX : va_X b L xs s s.heap) (hbl : b < s.heap.size) (hL : L ≤ 3072) {t : Nat} (ht : 6 * t + 6 ≤ L) {kd : Nat → Nat} {it : Nat → Da} {σ : CS} {S : SS} (hv : LIv ad ar ow cap kd it σ S) (nxt : ∀ (kd2 : Nat → Nat) (it2 : Nat → Da) (σ2 : CS) (S2 : SS) (k2 n2 : Nat), LIv ad ar ow cap kd2 it2 σ2 S2 → k2 ≤ 300 + t + 1 → n2 ≤ 14000 + 9 * t + 9 → K p l e s m #[Value.ref b] below meth c room_1 RL cL_law 4 ret G (lwA N0) Q k2 n2  (fun H => CH G (ACl N0 N1 N2) ad ar ow cap kd2 it2 σ2 H ∧ MPS G (AMo N1) mo adm slm S2 H) 778 [some (.ref b), some (.ref (ad 0)), some (.ref mo), some (.int (nI (6 * t)))] []) : K p l e s m #[Value.ref b] below meth c room_1 RL cL_law 4 ret G (lwA N0) Q (300 + t) (14000 + 9 * t)  (fun H => CH G (ACl N0 N1 N2) ad ar ow cap kd it σ H ∧ MPS G (AMo N1) mo adm slm S H) 726 [some (.ref b), some (.ref (ad 0)), some (.ref mo), some (.int (nI (6 * t)))] [] := by
  obtain ⟨hst, hc, hcr, hr, hi, hit⟩ := hv
  refine k_aload_n (pc := 726) dL_law_726 rfl ?_
  refine l_callC sv_L_77 hst hdom (fun q hq => hq) (e_close hst) (pc := 727) dL_law_727 rfl rfl (Nat.le_of_ble_eq_true rfl) (by decide) (by decide) (by show _ ≤ 600000; omega) (by show _ ≤ 7302250; omega) ?_
  obtain ⟨g1, g2, g3, g4⟩ := hr.close hi hc
  refine k_aload_n (pc := 730) dL_law_730 rfl ?_
  refine l_callM sv_L_81 hmst hdom (fun q hq => hq) h01 hsz (fun B => c_close hmst) (pc := 731) dL_law_731 rfl rfl (Nat.le_of_ble_eq_true rfl) (by decide) (by decide) (by show _ ≤ 600000; omega) (by show _ ≤ 7302250; omega) ?_
  refine k_icmp_eq (tgt := 778) (pc := 734) dL_law_734 (by decide) (fun _ => ?_) (fun z => absurd (g1) z)
  exact nxt kd it (closeC σ).2 (closeS S).2 _ _ ⟨hst, g4, hcr.same (by unfold closeC; split <;> exact ⟨rfl, rfl⟩), g2, g3, hit⟩ (by omega) (by omega)
set_option maxRecDepth 4000 in
theorem law_crash (hcap : CPa ad cap) (hmst : MSt mo adm slm) (hdom : DomM N1 N2 mo adm slm) (h01 : N0 ≤ N1) (hsz : s.heap.size = N0) (hX : va_X b L xs s s.heap) (hbl : b < s.heap.size) (hL : L ≤ 3072) {t : Nat} (ht : 6 * t + 6 ≤ L) {kd : Nat → Nat} {it : Nat → Da} {σ : CS} {S : SS} (hv : LIv ad ar ow cap kd it σ S) (nxt : ∀ (kd2 : Nat → Nat) (it2 : Nat → Da) (σ2 : CS) (S2 : SS) (k2 n2 : Nat), LIv ad ar ow cap kd2 it2 σ2 S2 → k2 ≤ 300 + t + 1 → n2 ≤ 14000 + 9 * t + 9 → K p l e s m #[Value.ref b] below meth c room_1 RL cL_law 4 ret G (lwA N0) Q k2 n2  (fun H => CH G (ACl N0 N1 N2) ad ar ow cap kd2 it2 σ2 H ∧ MPS G (AMo N1) mo adm slm S2 H) 778 [some (.ref b), some (.ref (ad 0)), some (.ref mo), some (.int (nI (6 * t)))] []) : K p l e s m #[Value.ref b] below meth c room_1 RL cL_law 4 ret G (lwA N0) Q (300 + t) (14000 + 9 * t)  (fun H => CH G (ACl N0 N1 N2) ad ar ow cap kd it σ H ∧ MPS G (AMo N1) mo adm slm S H) 739 [some (.ref b), some (.ref (ad 0)), some (.ref mo), some (.int (nI (6 * t)))] [] := by
  obtain ⟨hst, hc, hcr, hr, hi, hit⟩ := hv
  refine k_aload_n (pc := 739) dL_law_739 rfl ?_
  refine l_callC sv_L_82 hst hdom (fun q hq => hq) (e_crash hst hc) (pc := 740) dL_law_740 rfl rfl (Nat.le_of_ble_eq_true rfl) (by decide) (by decide) (by show _ ≤ 600000; omega) (by show _ ≤ 7302250; omega) ?_
  obtain ⟨g1, g2, g3⟩ := hr.crash
  refine k_aload_n (pc := 743) dL_law_743 rfl ?_
  refine l_callM sv_L_85 hmst hdom (fun q hq => hq) h01 hsz (fun B => c_crash hmst) (pc := 744) dL_law_744 rfl rfl (Nat.le_of_ble_eq_true rfl) (by decide) (by decide) (by show _ ≤ 600000; omega) (by show _ ≤ 7302250; omega) ?_
  refine k_icmp_eq (tgt := 778) (pc := 747) dL_law_747 (by decide) (fun _ => ?_) (fun z => absurd (g3) z)
  exact nxt kd it (crashC ad σ) (crashS S) _ _ ⟨hst, hc.crash, hcr.same ⟨rfl, rfl⟩, g1, g2, hit⟩ (by omega) (by omega)
set_option maxRecDepth 4000 in
theorem law_open (hcap : CPa ad cap) (hmst : MSt mo adm slm) (hdom : DomM N1 N2 mo adm slm) (h01 : N0 ≤ N1) (hsz : s.heap.size = N0) (hX : va_X b L xs s s.heap) (hbl : b < s.heap.size) (hL : L ≤ 3072) {t : Nat} (ht : 6 * t + 6 ≤ L) {kd : Nat → Nat} {it : Nat → Da} {σ : CS} {S : SS} (hv : LIv ad ar ow cap kd it σ S) (nxt : ∀ (kd2 : Nat → Nat) (it2 : Nat → Da) (σ2 : CS) (S2 : SS) (k2 n2 : Nat), LIv ad ar ow cap kd2 it2 σ2 S2 → k2 ≤ 300 + t + 1 → n2 ≤ 14000 + 9 * t + 9 → K p l e s m #[Value.ref b] below meth c room_1 RL cL_law 4 ret G (lwA N0) Q k2 n2  (fun H => CH G (ACl N0 N1 N2) ad ar ow cap kd2 it2 σ2 H ∧ MPS G (AMo N1) mo adm slm S2 H) 778 [some (.ref b), some (.ref (ad 0)), some (.ref mo), some (.int (nI (6 * t)))] []) : K p l e s m #[Value.ref b] below meth c room_1 RL cL_law 4 ret G (lwA N0) Q (300 + t) (14000 + 9 * t)  (fun H => CH G (ACl N0 N1 N2) ad ar ow cap kd it σ H ∧ MPS G (AMo N1) mo adm slm S H) 752 [some (.ref b), some (.ref (ad 0)), some (.ref mo), some (.int (nI (6 * t)))] [] := by
  obtain ⟨hst, hc, hcr, hr, hi, hit⟩ := hv
  refine k_aload_n (pc := 752) dL_law_752 rfl ?_
  refine l_callC sv_L_86 hst hdom (fun q hq => hq) (e_open hst) (pc := 753) dL_law_753 rfl rfl (Nat.le_of_ble_eq_true rfl) (by decide) (by decide) (by show _ ≤ 600000; omega) (by show _ ≤ 7302250; omega) ?_
  obtain ⟨g1, g2, g3, g4⟩ := hr.openR hi hc
  refine k_aload_n (pc := 756) dL_law_756 rfl ?_
  refine l_callM sv_L_89 hmst hdom (fun q hq => hq) h01 hsz (fun B => c_open hmst) (pc := 757) dL_law_757 rfl rfl (Nat.le_of_ble_eq_true rfl) (by decide) (by decide) (by show _ ≤ 600000; omega) (by show _ ≤ 7302250; omega) ?_
  refine k_icmp_eq (tgt := 778) (pc := 760) dL_law_760 (by decide) (fun _ => ?_) (fun z => absurd (g1) z)
  exact nxt kd it (openC σ).2 (openS S).2 _ _ ⟨hst, g4, hcr.same (by unfold openC; split <;> exact ⟨rfl, rfl⟩), g2, g3, hit⟩ (by omega) (by omega)
set_option maxRecDepth 4000 in
theorem law_check (hcap : CPa ad cap) (hmst : MSt mo adm slm) (hdom : DomM N1 N2 mo adm slm) (h01 : N0 ≤ N1) (hsz : s.heap.size = N0) (hX : va_X b L xs s s.heap) (hbl : b < s.heap.size) (hL : L ≤ 3072) {t : Nat} (ht : 6 * t + 6 ≤ L) {kd : Nat → Nat} {it : Nat → Da} {σ : CS} {S : SS} (hv : LIv ad ar ow cap kd it σ S) (nxt : ∀ (kd2 : Nat → Nat) (it2 : Nat → Da) (σ2 : CS) (S2 : SS) (k2 n2 : Nat), LIv ad ar ow cap kd2 it2 σ2 S2 → k2 ≤ 300 + t + 1 → n2 ≤ 14000 + 9 * t + 9 → K p l e s m #[Value.ref b] below meth c room_1 RL cL_law 4 ret G (lwA N0) Q k2 n2  (fun H => CH G (ACl N0 N1 N2) ad ar ow cap kd2 it2 σ2 H ∧ MPS G (AMo N1) mo adm slm S2 H) 778 [some (.ref b), some (.ref (ad 0)), some (.ref mo), some (.int (nI (6 * t)))] []) : K p l e s m #[Value.ref b] below meth c room_1 RL cL_law 4 ret G (lwA N0) Q (300 + t) (14000 + 9 * t)  (fun H => CH G (ACl N0 N1 N2) ad ar ow cap kd it σ H ∧ MPS G (AMo N1) mo adm slm S H) 765 [some (.ref b), some (.ref (ad 0)), some (.ref mo), some (.int (nI (6 * t)))] [] := by
  obtain ⟨hst, hc, hcr, hr, hi, hit⟩ := hv
  refine k_aload_n (pc := 765) dL_law_765 rfl ?_
  refine l_callC sv_L_90 hst hdom (fun q hq => hq) (e_check hst hc (fun _ => hr.ck hst hcap hi)) (pc := 766) dL_law_766 rfl rfl (Nat.le_of_ble_eq_true rfl) (by decide) (by decide) (by show _ ≤ 600000; omega) (by show _ ≤ 7302250; omega) ?_
  refine k_aload_n (pc := 769) dL_law_769 rfl ?_
  refine l_callM sv_L_93 hmst hdom (fun q hq => hq) h01 hsz (fun B => c_check hmst (fun _ => hi.ck)) (pc := 770) dL_law_770 rfl rfl (Nat.le_of_ble_eq_true rfl) (by decide) (by decide) (by show _ ≤ 600000; omega) (by show _ ≤ 7302250; omega) ?_
  have hv2 : LIv ad ar ow cap kd it (if xC σ = true then σ else gatherC ad cap it σ 63 0) S := by
    split
    · exact ⟨hst, hc, hcr, hr, hi, hit⟩
    · exact ⟨hst, hc.gather hst _ _, hcr, hr.row9 hst hc _, hi, hit⟩
  refine k_icmp_eq (tgt := 778) (pc := 773) dL_law_773 (by decide) (fun _ => ?_) (fun z => absurd (by rw [hr.x]) z)
  exact nxt kd it (if xC σ = true then σ else gatherC ad cap it σ 63 0) S _ _ hv2 (by omega) (by omega)
end LAWC
