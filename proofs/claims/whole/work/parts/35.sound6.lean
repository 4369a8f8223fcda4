/-! MATH'S OWN, OBJECT'S CONSTRUCTOR; ALL INSTRUCTIONS; WHOLE METHODS -/
theorem am_math_inv {α : Type} {op : Nat} {st : List Value} {f : Value → List Value → Option α} {ρ : α} (h : am_math op st f = some ρ) : (op = 0 ∧ ∃ x y r, st = .int y :: .int x :: r ∧ f (.int (if x < y then y else x)) r = some ρ) ∨ (op = 1 ∧ ∃ x y r, st = .int y :: .int x :: r ∧ f (.int (if y < x then y else x)) r = some ρ) ∨ (op = 5 ∧ ∃ x r, st = .long x :: r ∧ f (.long (if 0 < x then x else -x)) r = some ρ) := by
  unfold am_math at h
  split at h
  · exact Or.inl ⟨rfl, am_i2_inv h⟩
  · exact Or.inr (Or.inl ⟨rfl, am_i2_inv h⟩)
  · exact Or.inr (Or.inr ⟨rfl, am_l1_inv h⟩)
  · cases h
theorem am_if_inv {α : Type} {b : Bool} {q : Option α} {ρ : α} (h : (if b = true then q else none) = some ρ) : b = true ∧ q = some ρ := by
  cases b
  · cases h
  · exact ⟨rfl, h⟩
section AMT3
variable {p : Program} {l : Launch} {e : Env} {R : Room} {s : State} {m : MethodId} {args : Array Value} {below : List Frame} {meth : Method} {c : Code} {Q : State → Prop}
variable {D : va_G} {dA : Nat → ClassId} {b0 base : Nat} {X : Nat × (Nat → Int32)} {k : Nat}

theorem am_k_invokestatic (Cx : am_Cx p s m args meth c D dA b0 base X k) {n0 z0 nl pc len : Nat} {ls st : List Value} {h : am_H} {σ' : am_P} {j : Nat} (hdg : decode (am_bytes k) pc = .ok (.invokestatic j, len)) (hlen : am_len (.invokestatic j) = 0 ∨ len = am_len (.invokestatic j)) (hdo : am_dp X k (.invokestatic j) pc st h = some σ') (hR1 : σ'.2.2.length ≤ R.cells + n0) (hR2 : am_sz σ'.2.2 ≤ R.slots + z0) (hfr : am_fr k ≤ R.frames) (hlo : am_lc k ≤ R.locals) (hnl : nl = am_mxl k) (kk : am_Go p l e R s m args below meth c Q D dA b0 base n0 z0 nl (σ'.1, ls, σ'.2.1, σ'.2.2)) : am_Go p l e R s m args below meth c Q D dA b0 base n0 z0 nl (pc, ls, st, h) := by
  obtain ⟨hx, hb, hml, hown, hts, hr, hlk, hin, hK, hN, hX, hb0, hbs⟩ := Cx
  obtain rfl : len = 3 := hlen.resolve_left (fun q => absurd q (by show ¬ (3 : Nat) = 0; decide))
  simp only [am_dp] at hdo
  split at hdo
  · rename_i op np hq
    rcases am_math_inv hdo with ⟨rfl, x, y, r, rfl, hf⟩ | ⟨rfl, x, y, r, rfl, hf⟩ | ⟨rfl, x, r, rfl, hf⟩
    · obtain ⟨hlow, hf⟩ := am_if_inv hf
      obtain rfl := am_nx_inv hf
      rw [Bool.and_eq_true, Bool.and_eq_true] at hlow
      intro H locs rl cells slots hW hS hl hn hc hz
      have hc1 : cells + n0 = h.length := hc
      have hz1 : slots + z0 = am_sz h := hz
      have hR1 : h.length ≤ R.cells + n0 := hR1
      have hR2 : am_sz h ≤ R.slots + z0 := hR2
      have hlw := am_low_map (b0 := b0) (base := base) hlow.1.1
      have g1 := Nat.le_of_ble_eq_true hlow.1.2
      have g2 := Nat.le_of_ble_eq_true hlow.2
      exact va_mmax hx hb (by rw [hml, hl.size, ← hnl]; exact hn.symm) hown (hts _ (am_met_max hq).1) (hts _ (am_met_max hq).2) (hts _ am_math_i) (hts _ am_mmax_c) (Nat.le_trans g1 hfr) (by omega) (by omega) (by omega) hdg (kk H locs rl cells slots hW hS hl hn hc hz)
    · obtain ⟨hlow, hf⟩ := am_if_inv hf
      obtain rfl := am_nx_inv hf
      rw [Bool.and_eq_true, Bool.and_eq_true] at hlow
      intro H locs rl cells slots hW hS hl hn hc hz
      have hc1 : cells + n0 = h.length := hc
      have hz1 : slots + z0 = am_sz h := hz
      have hR1 : h.length ≤ R.cells + n0 := hR1
      have hR2 : am_sz h ≤ R.slots + z0 := hR2
      have hlw := am_low_map (b0 := b0) (base := base) hlow.1.1
      have g1 := Nat.le_of_ble_eq_true hlow.1.2
      have g2 := Nat.le_of_ble_eq_true hlow.2
      exact va_mmin hx hb (by rw [hml, hl.size, ← hnl]; exact hn.symm) hown (hts _ (am_met_min hq).1) (hts _ (am_met_min hq).2) (hts _ am_math_i) (hts _ am_mmin_c) (Nat.le_trans g1 hfr) (by omega) (by omega) (by omega) hdg (kk H locs rl cells slots hW hS hl hn hc hz)
    · obtain ⟨hlow, hf⟩ := am_if_inv hf
      obtain rfl := am_nx_inv hf
      rw [Bool.and_eq_true, Bool.and_eq_true] at hlow
      intro H locs rl cells slots hW hS hl hn hc hz
      have hc1 : cells + n0 = h.length := hc
      have hz1 : slots + z0 = am_sz h := hz
      have hR1 : h.length ≤ R.cells + n0 := hR1
      have hR2 : am_sz h ≤ R.slots + z0 := hR2
      have hlw := am_low_map (b0 := b0) (base := base) hlow.1.1
      have g1 := Nat.le_of_ble_eq_true hlow.1.2
      have g2 := Nat.le_of_ble_eq_true hlow.2
      exact va_mabs_long hx hb (by rw [hml, hl.size, ← hnl]; exact hn.symm) hown (hts _ (am_met_abs hq).1) (hts _ (am_met_abs hq).2) (hts _ am_math_i) (hts _ am_mabs_c) (Nat.le_trans g1 hfr) (by omega) (by omega) (by omega) hdg (kk H locs rl cells slots hW hS hl hn hc hz)
  · cases hdo
theorem am_k_invokespecial (Cx : am_Cx p s m args meth c D dA b0 base X k) {n0 z0 nl pc len : Nat} {ls st : List Value} {h : am_H} {σ' : am_P} {j : Nat} (hdg : decode (am_bytes k) pc = .ok (.invokespecial j, len)) (hlen : am_len (.invokespecial j) = 0 ∨ len = am_len (.invokespecial j)) (hdo : am_dp X k (.invokespecial j) pc st h = some σ') (hR1 : σ'.2.2.length ≤ R.cells + n0) (hR2 : am_sz σ'.2.2 ≤ R.slots + z0) (hfr : am_fr k ≤ R.frames) (hlo : am_lc k ≤ R.locals) (hnl : nl = am_mxl k) (kk : am_Go p l e R s m args below meth c Q D dA b0 base n0 z0 nl (σ'.1, ls, σ'.2.1, σ'.2.2)) : am_Go p l e R s m args below meth c Q D dA b0 base n0 z0 nl (pc, ls, st, h) := by
  obtain ⟨hx, hb, hml, hown, hts, hr, hlk, hin, hK, hN, hX, hb0, hbs⟩ := Cx
  obtain rfl : len = 3 := hlen.resolve_left (fun q => absurd q (by show ¬ (3 : Nat) = 0; decide))
  simp only [am_dp] at hdo
  split at hdo
  · rename_i hq
    obtain ⟨a, r, rfl, hf⟩ := am_r1_inv hdo
    obtain ⟨hlow, hf⟩ := am_if_inv hf
    obtain rfl := am_nx_inv hf
    rw [Bool.and_eq_true, Bool.and_eq_true] at hlow
    intro H locs rl cells slots hW hS hl hn hc hz
    have hlw := am_low_map (b0 := b0) (base := base) hlow.1.1
    have g1 := Nat.le_of_ble_eq_true hlow.1.2
    have g2 := Nat.le_of_ble_eq_true hlow.2
    exact W.objInit hx hb hown (hts _ (am_met_ok3 hq)) (hts _ am_obj_i) (hts _ am_obj_c) rfl (by rw [hml, ← hnl]; exact hl.size.trans hn) rfl hdg (Nat.le_trans g1 hfr) (by show 2 * 0 + _ + 12 ≤ _; omega) (kk H locs rl cells slots hW hS hl hn hc hz)
  · cases hdo
theorem am_okp (Cx : am_Cx p s m args meth c D dA b0 base X k) {n0 z0 nl pc len : Nat} {ls st : List Value} {h : am_H} {σ' : am_P} {i : Instr} (hdg : decode (am_bytes k) pc = .ok (i, len)) (hlen : am_len i = 0 ∨ len = am_len i) (hdo : am_dp X k i pc st h = some σ') (hR1 : σ'.2.2.length ≤ R.cells + n0) (hR2 : am_sz σ'.2.2 ≤ R.slots + z0) (hfr : am_fr k ≤ R.frames) (hlo : am_lc k ≤ R.locals) (hnl : nl = am_mxl k) (kk : am_Go p l e R s m args below meth c Q D dA b0 base n0 z0 nl (σ'.1, ls, σ'.2.1, σ'.2.2)) : am_Go p l e R s m args below meth c Q D dA b0 base n0 z0 nl (pc, ls, st, h) := by
  cases i <;> first
    | exact nomatch (show (none : Option am_P) = some _ from hdo)
    | exact am_k_aconst_null Cx hdg hlen hdo hR1 hR2 hfr hlo hnl kk
    | exact am_k_iconst Cx hdg hlen hdo hR1 hR2 hfr hlo hnl kk
    | exact am_k_bipush Cx hdg hlen hdo hR1 hR2 hfr hlo hnl kk
    | exact am_k_sipush Cx hdg hlen hdo hR1 hR2 hfr hlo hnl kk
    | exact am_k_lconst Cx hdg hlen hdo hR1 hR2 hfr hlo hnl kk
    | exact am_k_ldc Cx hdg hlen hdo hR1 hR2 hfr hlo hnl kk
    | exact am_k_ldc2_w Cx hdg hlen hdo hR1 hR2 hfr hlo hnl kk
    | exact am_k_dup Cx hdg hlen hdo hR1 hR2 hfr hlo hnl kk
    | exact am_k_dup_x1 Cx hdg hlen hdo hR1 hR2 hfr hlo hnl kk
    | exact am_k_dup_x2 Cx hdg hlen hdo hR1 hR2 hfr hlo hnl kk
    | exact am_k_dup2 Cx hdg hlen hdo hR1 hR2 hfr hlo hnl kk
    | exact am_k_dup2_x1 Cx hdg hlen hdo hR1 hR2 hfr hlo hnl kk
    | exact am_k_dup2_x2 Cx hdg hlen hdo hR1 hR2 hfr hlo hnl kk
    | exact am_k_pop Cx hdg hlen hdo hR1 hR2 hfr hlo hnl kk
    | exact am_k_pop2 Cx hdg hlen hdo hR1 hR2 hfr hlo hnl kk
    | exact am_k_iadd Cx hdg hlen hdo hR1 hR2 hfr hlo hnl kk
    | exact am_k_isub Cx hdg hlen hdo hR1 hR2 hfr hlo hnl kk
    | exact am_k_imul Cx hdg hlen hdo hR1 hR2 hfr hlo hnl kk
    | exact am_k_iand Cx hdg hlen hdo hR1 hR2 hfr hlo hnl kk
    | exact am_k_ior Cx hdg hlen hdo hR1 hR2 hfr hlo hnl kk
    | exact am_k_ixor Cx hdg hlen hdo hR1 hR2 hfr hlo hnl kk
    | exact am_k_ishl Cx hdg hlen hdo hR1 hR2 hfr hlo hnl kk
    | exact am_k_ishr Cx hdg hlen hdo hR1 hR2 hfr hlo hnl kk
    | exact am_k_iushr Cx hdg hlen hdo hR1 hR2 hfr hlo hnl kk
    | exact am_k_ladd Cx hdg hlen hdo hR1 hR2 hfr hlo hnl kk
    | exact am_k_lsub Cx hdg hlen hdo hR1 hR2 hfr hlo hnl kk
    | exact am_k_lmul Cx hdg hlen hdo hR1 hR2 hfr hlo hnl kk
    | exact am_k_land Cx hdg hlen hdo hR1 hR2 hfr hlo hnl kk
    | exact am_k_lor Cx hdg hlen hdo hR1 hR2 hfr hlo hnl kk
    | exact am_k_lxor Cx hdg hlen hdo hR1 hR2 hfr hlo hnl kk
    | exact am_k_lcmp Cx hdg hlen hdo hR1 hR2 hfr hlo hnl kk
    | exact am_k_idiv Cx hdg hlen hdo hR1 hR2 hfr hlo hnl kk
    | exact am_k_irem Cx hdg hlen hdo hR1 hR2 hfr hlo hnl kk
    | exact am_k_ldiv Cx hdg hlen hdo hR1 hR2 hfr hlo hnl kk
    | exact am_k_lrem Cx hdg hlen hdo hR1 hR2 hfr hlo hnl kk
    | exact am_k_ineg Cx hdg hlen hdo hR1 hR2 hfr hlo hnl kk
    | exact am_k_lneg Cx hdg hlen hdo hR1 hR2 hfr hlo hnl kk
    | exact am_k_i2l Cx hdg hlen hdo hR1 hR2 hfr hlo hnl kk
    | exact am_k_l2i Cx hdg hlen hdo hR1 hR2 hfr hlo hnl kk
    | exact am_k_i2b Cx hdg hlen hdo hR1 hR2 hfr hlo hnl kk
    | exact am_k_i2s Cx hdg hlen hdo hR1 hR2 hfr hlo hnl kk
    | exact am_k_i2c Cx hdg hlen hdo hR1 hR2 hfr hlo hnl kk
    | exact am_k_lshl Cx hdg hlen hdo hR1 hR2 hfr hlo hnl kk
    | exact am_k_lshr Cx hdg hlen hdo hR1 hR2 hfr hlo hnl kk
    | exact am_k_lushr Cx hdg hlen hdo hR1 hR2 hfr hlo hnl kk
    | exact am_k_ifCond Cx hdg hlen hdo hR1 hR2 hfr hlo hnl kk
    | exact am_k_if_icmp Cx hdg hlen hdo hR1 hR2 hfr hlo hnl kk
    | exact am_k_if_acmp Cx hdg hlen hdo hR1 hR2 hfr hlo hnl kk
    | exact am_k_goto Cx hdg hlen hdo hR1 hR2 hfr hlo hnl kk
    | exact am_k_tableswitch Cx hdg hlen hdo hR1 hR2 hfr hlo hnl kk
    | exact am_k_lookupswitch Cx hdg hlen hdo hR1 hR2 hfr hlo hnl kk
    | exact am_k_iaload Cx hdg hlen hdo hR1 hR2 hfr hlo hnl kk
    | exact am_k_laload Cx hdg hlen hdo hR1 hR2 hfr hlo hnl kk
    | exact am_k_iastore Cx hdg hlen hdo hR1 hR2 hfr hlo hnl kk
    | exact am_k_lastore Cx hdg hlen hdo hR1 hR2 hfr hlo hnl kk
    | exact am_k_baload Cx hdg hlen hdo hR1 hR2 hfr hlo hnl kk
    | exact am_k_bastore Cx hdg hlen hdo hR1 hR2 hfr hlo hnl kk
    | exact am_k_arraylength Cx hdg hlen hdo hR1 hR2 hfr hlo hnl kk
    | exact am_k_newarray Cx hdg hlen hdo hR1 hR2 hfr hlo hnl kk
    | exact am_k_new Cx hdg hlen hdo hR1 hR2 hfr hlo hnl kk
    | exact am_k_getfield Cx hdg hlen hdo hR1 hR2 hfr hlo hnl kk
    | exact am_k_putfield Cx hdg hlen hdo hR1 hR2 hfr hlo hnl kk
    | exact am_k_invokestatic Cx hdg hlen hdo hR1 hR2 hfr hlo hnl kk
    | exact am_k_invokespecial Cx hdg hlen hdo hR1 hR2 hfr hlo hnl kk
theorem am_okl (Cx : am_Cx p s m args meth c D dA b0 base X k) {n0 z0 nl pc len : Nat} {ls st : List Value} {h : am_H} {σ' : am_S} {i : Instr} (hdg : decode (am_bytes k) pc = .ok (i, len)) (hlen : am_len i = 0 ∨ len = am_len i) (hdo : am_dl i pc ls st h = some σ') (hR1 : σ'.2.2.2.length ≤ R.cells + n0) (hR2 : am_sz σ'.2.2.2 ≤ R.slots + z0) (hfr : am_fr k ≤ R.frames) (hlo : am_lc k ≤ R.locals) (hnl : nl = am_mxl k) (kk : am_Go p l e R s m args below meth c Q D dA b0 base n0 z0 nl σ') : am_Go p l e R s m args below meth c Q D dA b0 base n0 z0 nl (pc, ls, st, h) := by
  cases i <;> first
    | exact nomatch (show (none : Option am_S) = some _ from hdo)
    | exact am_k_iload Cx hdg hlen hdo hR1 hR2 hfr hlo hnl kk
    | exact am_k_iload_n Cx hdg hlen hdo hR1 hR2 hfr hlo hnl kk
    | exact am_k_lload Cx hdg hlen hdo hR1 hR2 hfr hlo hnl kk
    | exact am_k_lload_n Cx hdg hlen hdo hR1 hR2 hfr hlo hnl kk
    | exact am_k_aload Cx hdg hlen hdo hR1 hR2 hfr hlo hnl kk
    | exact am_k_aload_n Cx hdg hlen hdo hR1 hR2 hfr hlo hnl kk
    | exact am_k_istore Cx hdg hlen hdo hR1 hR2 hfr hlo hnl kk
    | exact am_k_istore_n Cx hdg hlen hdo hR1 hR2 hfr hlo hnl kk
    | exact am_k_lstore Cx hdg hlen hdo hR1 hR2 hfr hlo hnl kk
    | exact am_k_lstore_n Cx hdg hlen hdo hR1 hR2 hfr hlo hnl kk
    | exact am_k_astore Cx hdg hlen hdo hR1 hR2 hfr hlo hnl kk
    | exact am_k_astore_n Cx hdg hlen hdo hR1 hR2 hfr hlo hnl kk
    | exact am_k_iinc Cx hdg hlen hdo hR1 hR2 hfr hlo hnl kk
theorem am_do_inv {X : Nat × (Nat → Int32)} {k pc : Nat} {i : Instr} {ls st : List Value} {h : am_H} {σ' : am_S} (hdo : am_do X k i pc ls st h = some σ') : (∃ σ1 : am_P, am_dp X k i pc st h = some σ1 ∧ σ' = (σ1.1, ls, σ1.2.1, σ1.2.2)) ∨ am_dl i pc ls st h = some σ' := by
  unfold am_do at hdo
  split at hdo
  · rename_i hq
    cases hdo
    exact Or.inl ⟨_, hq, rfl⟩
  · exact Or.inr hdo
theorem am_ok (Cx : am_Cx p s m args meth c D dA b0 base X k) {n0 z0 nl pc len : Nat} {ls st : List Value} {h : am_H} {σ' : am_S} {i : Instr} (hdg : decode (am_bytes k) pc = .ok (i, len)) (hlen : am_len i = 0 ∨ len = am_len i) (hdo : am_do X k i pc ls st h = some σ') (hR1 : σ'.2.2.2.length ≤ R.cells + n0) (hR2 : am_sz σ'.2.2.2 ≤ R.slots + z0) (hfr : am_fr k ≤ R.frames) (hlo : am_lc k ≤ R.locals) (hnl : nl = am_mxl k) (kk : am_Go p l e R s m args below meth c Q D dA b0 base n0 z0 nl σ') : am_Go p l e R s m args below meth c Q D dA b0 base n0 z0 nl (pc, ls, st, h) := by
  rcases am_do_inv hdo with ⟨σ1, hp, rfl⟩ | hl
  · exact am_okp Cx hdg hlen hp hR1 hR2 hfr hlo hnl kk
  · exact am_okl Cx hdg hlen hl hR1 hR2 hfr hlo hnl kk
end AMT3
/-! HEAPS ONLY GROW -/
def am_le (h h' : am_H) : Prop := h.length ≤ h'.length ∧ am_sz h ≤ am_sz h'
theorem am_le.rf (h : am_H) : am_le h h := ⟨Nat.le_refl _, Nat.le_refl _⟩
theorem am_le.tr {a b c : am_H} (h : am_le a b) (g : am_le b c) : am_le a c := ⟨Nat.le_trans h.1 g.1, Nat.le_trans h.2 g.2⟩
theorem am_le_nx {pc : Nat} {st : List Value} {h : am_H} {σ' : am_P} (hf : am_nx pc st h = some σ') : am_le h σ'.2.2 := by
  obtain rfl := am_nx_inv hf
  exact am_le.rf h
theorem am_le_nl {pc : Nat} {ls st : List Value} {h : am_H} {σ' : am_S} (hf : am_nl pc ls st h = some σ') : am_le h σ'.2.2.2 := by
  obtain rfl := am_nl_inv hf
  exact am_le.rf h
theorem am_le_app (h : am_H) (x : va_E) : am_le h (h ++ [x]) := ⟨by simp, by rw [am_sz_app]; omega⟩
theorem am_le_set {h : am_H} {a : Nat} {x y : va_E} (hc : h[a]? = some x) (he : am_cs y = am_cs x) : am_le h (h.set a y) := ⟨by simp, by rw [am_sz_set hc he]; exact Nat.le_refl _⟩
theorem am_go_le {pc : Nat} {off : Int} {st : List Value} {h : am_H} {σ' : am_P} (hf : am_go pc off st h = some σ') : am_le h σ'.2.2 := by
  obtain ⟨t, -, rfl⟩ := am_go_inv hf
  exact am_le.rf h
theorem am_br_le {b : Bool} {pc : Nat} {off : Int} {st : List Value} {h : am_H} {σ' : am_P} (hf : am_br b pc off st h = some σ') : am_le h σ'.2.2 := by
  obtain ⟨t, -, ⟨-, rfl⟩ | ⟨-, rfl⟩⟩ := am_br_inv hf
  · exact am_le.rf h
  · exact am_le.rf h
theorem am_dp_le {X : Nat × (Nat → Int32)} {k pc : Nat} {i : Instr} {st : List Value} {h : am_H} {σ' : am_P} (hdo : am_dp X k i pc st h = some σ') : am_le h σ'.2.2 := by
  cases i <;> try (exact nomatch (show (none : Option am_P) = some _ from hdo))
  case aconst_null =>
    simp only [am_dp] at hdo
    exact am_le_nx hdo
  case iconst n =>
    simp only [am_dp] at hdo
    exact am_le_nx hdo
  case bipush n =>
    simp only [am_dp] at hdo
    exact am_le_nx hdo
  case sipush n =>
    simp only [am_dp] at hdo
    exact am_le_nx hdo
  case lconst n =>
    simp only [am_dp] at hdo
    exact am_le_nx hdo
  case ldc j =>
    simp only [am_dp] at hdo
    split at hdo
    · exact am_le_nx hdo
    · cases hdo
  case ldc2_w j =>
    simp only [am_dp] at hdo
    split at hdo
    · exact am_le_nx hdo
    · cases hdo
  case iadd =>
    simp only [am_dp] at hdo
    obtain ⟨_, _, _, _, hf⟩ := am_i2_inv hdo
    exact am_le_nx hf
  case isub =>
    simp only [am_dp] at hdo
    obtain ⟨_, _, _, _, hf⟩ := am_i2_inv hdo
    exact am_le_nx hf
  case imul =>
    simp only [am_dp] at hdo
    obtain ⟨_, _, _, _, hf⟩ := am_i2_inv hdo
    exact am_le_nx hf
  case iand =>
    simp only [am_dp] at hdo
    obtain ⟨_, _, _, _, hf⟩ := am_i2_inv hdo
    exact am_le_nx hf
  case ior =>
    simp only [am_dp] at hdo
    obtain ⟨_, _, _, _, hf⟩ := am_i2_inv hdo
    exact am_le_nx hf
  case ixor =>
    simp only [am_dp] at hdo
    obtain ⟨_, _, _, _, hf⟩ := am_i2_inv hdo
    exact am_le_nx hf
  case ishl =>
    simp only [am_dp] at hdo
    obtain ⟨_, _, _, _, hf⟩ := am_i2_inv hdo
    exact am_le_nx hf
  case ishr =>
    simp only [am_dp] at hdo
    obtain ⟨_, _, _, _, hf⟩ := am_i2_inv hdo
    exact am_le_nx hf
  case iushr =>
    simp only [am_dp] at hdo
    obtain ⟨_, _, _, _, hf⟩ := am_i2_inv hdo
    exact am_le_nx hf
  case ladd =>
    simp only [am_dp] at hdo
    obtain ⟨_, _, _, _, hf⟩ := am_l2_inv hdo
    exact am_le_nx hf
  case lsub =>
    simp only [am_dp] at hdo
    obtain ⟨_, _, _, _, hf⟩ := am_l2_inv hdo
    exact am_le_nx hf
  case lmul =>
    simp only [am_dp] at hdo
    obtain ⟨_, _, _, _, hf⟩ := am_l2_inv hdo
    exact am_le_nx hf
  case land =>
    simp only [am_dp] at hdo
    obtain ⟨_, _, _, _, hf⟩ := am_l2_inv hdo
    exact am_le_nx hf
  case lor =>
    simp only [am_dp] at hdo
    obtain ⟨_, _, _, _, hf⟩ := am_l2_inv hdo
    exact am_le_nx hf
  case lxor =>
    simp only [am_dp] at hdo
    obtain ⟨_, _, _, _, hf⟩ := am_l2_inv hdo
    exact am_le_nx hf
  case lcmp =>
    simp only [am_dp] at hdo
    obtain ⟨_, _, _, _, hf⟩ := am_l2_inv hdo
    exact am_le_nx hf
  case lshl =>
    simp only [am_dp] at hdo
    obtain ⟨_, _, _, _, hf⟩ := am_s2_inv hdo
    exact am_le_nx hf
  case lshr =>
    simp only [am_dp] at hdo
    obtain ⟨_, _, _, _, hf⟩ := am_s2_inv hdo
    exact am_le_nx hf
  case lushr =>
    simp only [am_dp] at hdo
    obtain ⟨_, _, _, _, hf⟩ := am_s2_inv hdo
    exact am_le_nx hf
  case idiv =>
    simp only [am_dp] at hdo
    obtain ⟨_, _, _, _, hf⟩ := am_i2_inv hdo
    split at hf
    · cases hf
    · exact am_le_nx hf
  case irem =>
    simp only [am_dp] at hdo
    obtain ⟨_, _, _, _, hf⟩ := am_i2_inv hdo
    split at hf
    · cases hf
    · exact am_le_nx hf
  case ldiv =>
    simp only [am_dp] at hdo
    obtain ⟨_, _, _, _, hf⟩ := am_l2_inv hdo
    split at hf
    · cases hf
    · exact am_le_nx hf
  case lrem =>
    simp only [am_dp] at hdo
    obtain ⟨_, _, _, _, hf⟩ := am_l2_inv hdo
    split at hf
    · cases hf
    · exact am_le_nx hf
  case ineg =>
    simp only [am_dp] at hdo
    obtain ⟨_, _, _, hf⟩ := am_i1_inv hdo
    exact am_le_nx hf
  case i2l =>
    simp only [am_dp] at hdo
    obtain ⟨_, _, _, hf⟩ := am_i1_inv hdo
    exact am_le_nx hf
  case i2b =>
    simp only [am_dp] at hdo
    obtain ⟨_, _, _, hf⟩ := am_i1_inv hdo
    exact am_le_nx hf
  case i2s =>
    simp only [am_dp] at hdo
    obtain ⟨_, _, _, hf⟩ := am_i1_inv hdo
    exact am_le_nx hf
  case i2c =>
    simp only [am_dp] at hdo
    obtain ⟨_, _, _, hf⟩ := am_i1_inv hdo
    exact am_le_nx hf
  case lneg =>
    simp only [am_dp] at hdo
    obtain ⟨_, _, _, hf⟩ := am_l1_inv hdo
    exact am_le_nx hf
  case l2i =>
    simp only [am_dp] at hdo
    obtain ⟨_, _, _, hf⟩ := am_l1_inv hdo
    exact am_le_nx hf
  case dup =>
    simp only [am_dp] at hdo
    split at hdo
    · split at hdo
      · exact am_le_nx hdo
      · cases hdo
    · cases hdo
  case dup_x1 =>
    simp only [am_dp] at hdo
    split at hdo
    · split at hdo
      · exact am_le_nx hdo
      · cases hdo
    · cases hdo
  case dup_x2 =>
    simp only [am_dp] at hdo
    split at hdo
    · split at hdo
      · exact am_le_nx hdo
      · cases hdo
    · cases hdo
  case dup2_x1 =>
    simp only [am_dp] at hdo
    split at hdo
    · split at hdo
      · exact am_le_nx hdo
      · cases hdo
    · cases hdo
  case dup2_x2 =>
    simp only [am_dp] at hdo
    split at hdo
    · split at hdo
      · exact am_le_nx hdo
      · cases hdo
    · cases hdo
  case pop =>
    simp only [am_dp] at hdo
    split at hdo
    · split at hdo
      · exact am_le_nx hdo
      · cases hdo
    · cases hdo
  case dup2 =>
    simp only [am_dp] at hdo
    split at hdo
    · exact am_le_nx hdo
    · split at hdo
      · exact am_le_nx hdo
      · cases hdo
    · cases hdo
  case pop2 =>
    simp only [am_dp] at hdo
    split at hdo
    · exact am_le_nx hdo
    · cases hdo
  case ifCond cn off =>
    simp only [am_dp] at hdo
    obtain ⟨_, _, _, hf⟩ := am_i1_inv hdo
    split at hf <;> exact am_br_le hf
  case if_icmp cn off =>
    simp only [am_dp] at hdo
    obtain ⟨_, _, _, _, hf⟩ := am_i2_inv hdo
    split at hf <;> exact am_br_le hf
  case if_acmp cn off =>
    simp only [am_dp] at hdo
    obtain ⟨_, _, _, _, hf⟩ := am_r2_inv hdo
    split at hf <;> exact am_br_le hf
  case goto off =>
    simp only [am_dp] at hdo
    exact am_go_le hdo
  case tableswitch d lo hi offs =>
    simp only [am_dp] at hdo
    obtain ⟨_, _, _, hf⟩ := am_i1_inv hdo
    split at hf
    · exact am_go_le hf
    · split at hf
      · exact am_go_le hf
      · cases hf
  case lookupswitch d ps =>
    simp only [am_dp] at hdo
    obtain ⟨_, _, _, hf⟩ := am_i1_inv hdo
    split at hf
    · exact am_go_le hf
    · cases hf
  case iaload =>
    simp only [am_dp] at hdo
    rcases am_iald_inv hdo with ⟨_, _, _, _, _, _, _, _, hf⟩ | ⟨_, _, _, _, hf⟩
    · exact am_le_nx hf
    · exact am_le_nx hf
  case laload =>
    simp only [am_dp] at hdo
    obtain ⟨_, _, _, _, _, _, _, _, hf⟩ := am_lald_inv hdo
    exact am_le_nx hf
  case baload =>
    simp only [am_dp] at hdo
    obtain ⟨_, _, _, _, _, _, _, _, hf⟩ := am_zald_inv hdo
    exact am_le_nx hf
  case iastore =>
    simp only [am_dp] at hdo
    obtain ⟨x, i, a, r, n, f, _, hc0, _, hf⟩ := am_iast_inv hdo
    exact (am_le_set (y := .inl (0, n, .inl (upd f i.toNatClampNeg x))) hc0 rfl).tr (am_le_nx hf)
  case lastore =>
    simp only [am_dp] at hdo
    obtain ⟨x, i, a, r, n, f, _, hc0, _, hf⟩ := am_last_inv hdo
    exact (am_le_set (y := .inl (1, n, .inr (.inl (vp_updL f i.toNatClampNeg x)))) hc0 rfl).tr (am_le_nx hf)
  case bastore =>
    simp only [am_dp] at hdo
    obtain ⟨x, i, a, r, n, f, _, hc0, _, _, hf⟩ := am_zast_inv hdo
    exact (am_le_set (y := .inl (2, n, .inl (upd f i.toNatClampNeg x))) hc0 rfl).tr (am_le_nx hf)
  case arraylength =>
    simp only [am_dp] at hdo
    rcases am_alen_inv hdo with ⟨_, _, _, _, _, _, hf⟩ | ⟨_, _, hf⟩
    · exact am_le_nx hf
    · exact am_le_nx hf
  case newarray t =>
    simp only [am_dp] at hdo
    obtain ⟨_, _, _, _, _, hf⟩ := am_newa_inv hdo
    rcases hf with ⟨_, hf⟩ | ⟨_, hf⟩ | ⟨_, hf⟩
    · exact (am_le_app _ _).tr (am_le_nx hf)
    · exact (am_le_app _ _).tr (am_le_nx hf)
    · exact (am_le_app _ _).tr (am_le_nx hf)
  case new j =>
    simp only [am_dp] at hdo
    split at hdo
    · exact (am_le_app _ _).tr (am_le_nx hdo)
    · cases hdo
  case getfield j =>
    simp only [am_dp] at hdo
    obtain ⟨_, _, _, _, _, _, _, _, _, _, hf⟩ := am_getf_inv hdo
    exact am_le_nx hf
  case putfield j =>
    simp only [am_dp] at hdo
    obtain ⟨ci, f, v, a, r, fs, _, _, hc0, _, _, _, _, hf⟩ := am_putf_inv hdo
    exact (am_le_set (y := .inr (ci, fs.set f v)) hc0 (by simp [am_cs])).tr (am_le_nx hf)
  case invokestatic j =>
    simp only [am_dp] at hdo
    split at hdo
    · rcases am_math_inv hdo with ⟨_, _, _, _, _, hf⟩ | ⟨_, _, _, _, _, hf⟩ | ⟨_, _, _, _, hf⟩
      · exact am_le_nx (am_if_inv hf).2
      · exact am_le_nx (am_if_inv hf).2
      · exact am_le_nx (am_if_inv hf).2
    · cases hdo
  case invokespecial j =>
    simp only [am_dp] at hdo
    split at hdo
    · obtain ⟨_, _, _, hf⟩ := am_r1_inv hdo
      exact am_le_nx (am_if_inv hf).2
    · cases hdo
theorem am_dl_le {pc : Nat} {i : Instr} {ls st : List Value} {h : am_H} {σ' : am_S} (hdo : am_dl i pc ls st h = some σ') : am_le h σ'.2.2.2 := by
  cases i <;> first
    | exact nomatch (show (none : Option am_S) = some _ from hdo)
    | (simp only [am_dl] at hdo; obtain ⟨_, _, hf⟩ := am_gi_inv hdo; exact am_le_nl hf)
    | (simp only [am_dl] at hdo; obtain ⟨_, _, hf⟩ := am_gl_inv hdo; exact am_le_nl hf)
    | (simp only [am_dl] at hdo; obtain ⟨_, _, _, hf⟩ := am_ga_inv hdo; exact am_le_nl hf)
    | (simp only [am_dl] at hdo; obtain ⟨_, _, _, hf⟩ := am_i1_inv hdo; split at hf <;> first | exact am_le_nl hf | (cases hf; done))
    | (simp only [am_dl] at hdo; obtain ⟨_, _, _, hf⟩ := am_l1_inv hdo; split at hf <;> first | exact am_le_nl hf | (cases hf; done))
    | (simp only [am_dl] at hdo; obtain ⟨_, _, _, hf⟩ := am_r1_inv hdo; split at hf <;> first | exact am_le_nl hf | (cases hf; done))
theorem am_do_le {X : Nat × (Nat → Int32)} {k pc : Nat} {i : Instr} {ls st : List Value} {h : am_H} {σ' : am_S} (hdo : am_do X k i pc ls st h = some σ') : am_le h σ'.2.2.2 := by
  rcases am_do_inv hdo with ⟨σ1, hp, rfl⟩ | hl
  · exact am_dp_le hp
  · exact am_dl_le hl
theorem am_rt_h {k : Nat} {i : Instr} {st : List Value} {h : am_H} {ρ : Option Value × am_H} (hq : am_rt k i st h = some ρ) : ρ.2 = h := by
  cases i <;> first
    | exact nomatch (show (none : Option (Option Value × am_H)) = some _ from hq)
    | (simp only [am_rt] at hq; repeat' split at hq) <;> first | (cases hq; rfl) | (cases hq; done)
theorem am_run_le {X : Nat × (Nat → Int32)} {C : Nat → List Value → am_H → Option Value × am_H → Prop} {k : Nat} (hC : ∀ k' as h r h', C k' as h (r, h') → am_le h h') : ∀ (n : Nat) (σ : am_S) (ρ : Option Value × am_H), am_run X C k n σ ρ → am_le σ.2.2.2 ρ.2
  | 0, _, _, h => h.elim
  | n + 1, σ, ρ, h => by
    obtain ⟨i, -, ⟨σ', h1, h2⟩ | h1 | ⟨k', as, pc, ls, st, h0, r, h', h1, h2, h3⟩⟩ := h
    · exact (am_do_le h1).tr (am_run_le hC n σ' ρ h2)
    · rw [am_rt_h h1]
      exact am_le.rf _
    · have e0 : h0 = σ.2.2.2 := (am_cl_eq h1).2.2
      have h4 := am_run_le hC n _ ρ h3
      rw [← e0]
      exact (hC _ _ _ _ _ h2).tr h4
theorem am_call_le {X : Nat × (Nat → Int32)} : ∀ (d k : Nat) (as : List Value) (h : am_H) (r : Option Value) (h' : am_H), am_call X d k as h (r, h') → am_le h h'
  | 0, _, _, _, _, _, h => h.elim
  | d + 1, k, as, h, r, h', hc => by
    obtain ⟨-, n, hn⟩ := hc
    exact am_run_le (fun k' as h r h' => am_call_le d k' as h r h') n _ _ hn
section AMM
variable {p : Program} {l : Launch} {e : Env} {R : Room} {s : State} {m : MethodId} {args : Array Value} {below : List Frame} {meth : Method} {c : Code} {Q : State → Prop}
variable {D : va_G} {dA : Nat → ClassId} {b0 base : Nat} {X : Nat × (Nat → Int32)} {k : Nat}
/-- A RUN of the plain machine is one of the claim's: to the return, of which the hypothesis speaks -/
theorem am_run_ok (Cx : am_Cx p s m args meth c D dA b0 base X k) {n0 z0 d : Nat} {ρ : Option Value × am_H} (hM : ∀ k' as h r h', am_mok k' → am_call X d k' as h (r, h') → am_Met l D dA b0 base X k' as h r h') (hR1 : ρ.2.length ≤ R.cells + n0) (hR2 : am_sz ρ.2 ≤ R.slots + z0) (hfr : am_fr k ≤ R.frames) (hlo : am_lc k ≤ R.locals)
    (hret : ∀ (pc : Nat) (ls st : List Value) (h : am_H) (i : Instr) (len : Nat), decode (am_bytes k) pc = .ok (i, len) → (am_len i = 0 ∨ len = am_len i) → am_rt k i st h = some ρ → am_Go p l e R s m args below meth c Q D dA b0 base n0 z0 (am_mxl k) (pc, ls, st, h)) :
    ∀ (n : Nat) (σ : am_S), am_run X (am_call X d) k n σ ρ → am_Go p l e R s m args below meth c Q D dA b0 base n0 z0 (am_mxl k) σ
  | 0, _, h => h.elim
  | n + 1, (pc, ls, st, h), hr => by
    obtain ⟨i, hi, ⟨σ', h1, h2⟩ | h1 | ⟨k', as, pc', ls', st', h0, r, h', h1, h2, h3⟩⟩ := hr
    · obtain ⟨len, hdg, hlen⟩ := am_code_ok hi
      have hle := am_run_le (am_call_le d) n σ' ρ h2
      exact am_ok Cx hdg hlen h1 (Nat.le_trans hle.1 hR1) (Nat.le_trans hle.2 hR2) hfr hlo rfl (am_run_ok Cx hM hR1 hR2 hfr hlo hret n σ' h2)
    · obtain ⟨len, hdg, hlen⟩ := am_code_ok hi
      exact hret pc ls st h i len hdg hlen h1
    · obtain ⟨len, hdg, hlen⟩ := am_code_ok hi
      obtain ⟨e1, e2, e3⟩ := am_cl_eq h1
      subst e1 e2 e3
      have hle := am_run_le (am_call_le d) n _ ρ h3
      have hcl := am_call_le d k' as _ r h' h2
      exact am_k_call Cx hdg hlen h1 (fun hk => hM _ _ _ _ _ hk h2) hcl.1 hcl.2 (Nat.le_trans hle.1 hR1) (Nat.le_trans hle.2 hR2) hfr hlo rfl (am_run_ok Cx hM hR1 hR2 hfr hlo hret n _ h3)
end AMM
/-- A METHOD: what the plain machine comes to, the claim's comes to -/
theorem am_sound (l : Launch) (D : va_G) (dA : Nat → ClassId) (b0 base : Nat) (X : Nat × (Nat → Int32)) : ∀ (d k : Nat) (as : List Value) (h : am_H) (r : Option Value) (h' : am_H), am_mok k → am_call X d k as h (r, h') → am_Met l D dA b0 base X k as h r h'
  | 0, _, _, _, _, _, _, hc => hc.elim
  | d + 1, k, as, h, r, h', hk, hc => by
    obtain ⟨hlay, n, hn⟩ := hc
    have hle := am_call_le (X := X) (d + 1) k as h r h' ⟨hlay, n, hn⟩
    obtain ⟨k1, k2, k3, k4, k5, k7, k8⟩ := hk
    refine Met.ofW (cc := am_bytes k) (maxL := am_mxl k) (ret := am_ret k) k5 rfl ?_
    intro p e s m args below meth c s₁ B hml hv
    obtain ⟨rfl, hW, hK, hN, hX, hb0⟩ := hv
    have hts := atoms_spec (ws := am_wsm k) B.pre
    have hown : s.vm.findClass (am_name k).cls = some m.cls := findClass_of_methodNamed B.named
    have Cx : am_Cx p s m (as.map (am_v b0 base)).toArray meth c D dA b0 base X k := ⟨B.exec, B.bytes, hml, by rw [k7]; exact hown, fun w hw => hts w (List.mem_cons_of_mem _ hw), B.returns, B.notSynchronized, fun hi => ((name_of_methodNamed B.named B.method).1).trans (k8 hi), hK, hN, hX, hb0, by rw [hW.1]; omega⟩
    rw [lg_entry_eq]
    have hlen : (am_ent as (am_mxl k)).length = am_mxl k := by simp [am_ent]; omega
    refine am_run_ok Cx (n0 := h.length) (z0 := am_sz h) (d := d) (ρ := (r, h')) (fun k' as h r h' hk' hq => am_sound l D dA b0 base X d k' as h r h' hk' hq) ?_ ?_ ?_ ?_ ?_ n _ hn s.heap [] _ 0 0 hW va_S.rf (am_ent_L hlay) hlen (Nat.zero_add _) (Nat.zero_add _)
    · show h'.length ≤ (h'.length - h.length) + h.length
      omega
    · show am_sz h' ≤ (am_sz h' - am_sz h) + am_sz h
      omega
    · exact Nat.le_refl _
    · exact Nat.le_refl _
    · intro pc ls st h1 i len hdg hlen hrt
      exact am_k_ret Cx hdg hlen hrt

