/-! INSTRUCTIONS THAT LOOK INTO THE HEAP -/
theorem am_iald_inv {α : Type} {X : Nat × (Nat → Int32)} {st : List Value} {h : am_H} {k : Int32 → List Value → Option α} {ρ : α} (hq : am_iald X st h k = some ρ) : (∃ i a r n f, st = .int i :: .ref a :: r ∧ h[a]? = some (.inl (0, n, .inl f)) ∧ vp_in i n ∧ k (f i.toNatClampNeg) r = some ρ) ∨ (∃ i r, st = .int i :: .retAddr 0 :: r ∧ vp_in i X.1 ∧ k (X.2 i.toNatClampNeg) r = some ρ) := by
  unfold am_iald at hq
  split at hq
  · split at hq
    · rename_i hc
      split at hq
      · cases hq
      · rename_i ho
        exact Or.inl ⟨_, _, _, _, _, rfl, hc, am_out_f ho, hq⟩
    · cases hq
  · split at hq
    · cases hq
    · rename_i ho
      exact Or.inr ⟨_, _, rfl, am_out_f ho, hq⟩
  · cases hq
theorem am_lald_inv {α : Type} {st : List Value} {h : am_H} {k : Int64 → List Value → Option α} {ρ : α} (hq : am_lald st h k = some ρ) : ∃ i a r n f, st = .int i :: .ref a :: r ∧ h[a]? = some (.inl (1, n, .inr (.inl f))) ∧ vp_in i n ∧ k (f i.toNatClampNeg) r = some ρ := by
  unfold am_lald at hq
  split at hq
  · split at hq
    · rename_i hc
      split at hq
      · cases hq
      · rename_i ho
        exact ⟨_, _, _, _, _, rfl, hc, am_out_f ho, hq⟩
    · cases hq
  · cases hq
theorem am_iast_inv {α : Type} {st : List Value} {h : am_H} {k : List Value → am_H → Option α} {ρ : α} (hq : am_iast st h k = some ρ) : ∃ x i a r n f, st = .int x :: .int i :: .ref a :: r ∧ h[a]? = some (.inl (0, n, .inl f)) ∧ vp_in i n ∧ k r (h.set a (.inl (0, n, .inl (upd f i.toNatClampNeg x)))) = some ρ := by
  unfold am_iast at hq
  split at hq
  · split at hq
    · rename_i hc
      split at hq
      · cases hq
      · rename_i ho
        exact ⟨_, _, _, _, _, _, rfl, hc, am_out_f ho, hq⟩
    · cases hq
  · cases hq
theorem am_last_inv {α : Type} {st : List Value} {h : am_H} {k : List Value → am_H → Option α} {ρ : α} (hq : am_last st h k = some ρ) : ∃ x i a r n f, st = .long x :: .int i :: .ref a :: r ∧ h[a]? = some (.inl (1, n, .inr (.inl f))) ∧ vp_in i n ∧ k r (h.set a (.inl (1, n, .inr (.inl (vp_updL f i.toNatClampNeg x))))) = some ρ := by
  unfold am_last at hq
  split at hq
  · split at hq
    · rename_i hc
      split at hq
      · cases hq
      · rename_i ho
        exact ⟨_, _, _, _, _, _, rfl, hc, am_out_f ho, hq⟩
    · cases hq
  · cases hq
theorem am_zald_inv {α : Type} {st : List Value} {h : am_H} {k : Int32 → List Value → Option α} {ρ : α} (hq : am_zald st h k = some ρ) : ∃ i a r n f, st = .int i :: .ref a :: r ∧ h[a]? = some (.inl (2, n, .inl f)) ∧ vp_in i n ∧ k (f i.toNatClampNeg) r = some ρ := by
  unfold am_zald at hq
  split at hq
  · split at hq
    · rename_i hc
      split at hq
      · cases hq
      · rename_i ho
        exact ⟨_, _, _, _, _, rfl, hc, am_out_f ho, hq⟩
    · cases hq
  · cases hq
theorem am_zast_inv {α : Type} {st : List Value} {h : am_H} {k : List Value → am_H → Option α} {ρ : α} (hq : am_zast st h k = some ρ) : ∃ x i a r n f, st = .int x :: .int i :: .ref a :: r ∧ h[a]? = some (.inl (2, n, .inl f)) ∧ vp_in i n ∧ x &&& 1 = x ∧ k r (h.set a (.inl (2, n, .inl (upd f i.toNatClampNeg x)))) = some ρ := by
  unfold am_zast at hq
  split at hq
  · split at hq
    · rename_i hc
      split at hq
      · cases hq
      · rename_i ho
        rw [Bool.or_eq_false_iff] at ho
        exact ⟨_, _, _, _, _, _, rfl, hc, am_out_f ho.1, by simpa using ho.2, hq⟩
    · cases hq
  · cases hq
theorem am_alen_inv {α : Type} {X : Nat × (Nat → Int32)} {st : List Value} {h : am_H} {k : Int32 → List Value → Option α} {ρ : α} (hq : am_alen X st h k = some ρ) : (∃ a r n y, st = .ref a :: r ∧ (h[a]? = some (.inl (0, n, y)) ∨ h[a]? = some (.inl (1, n, y))) ∧ k (Int32.ofNat n) r = some ρ) ∨ (∃ r, st = .retAddr 0 :: r ∧ k (Int32.ofNat X.1) r = some ρ) := by
  unfold am_alen at hq
  split at hq
  · split at hq
    · rename_i hc
      exact Or.inl ⟨_, _, _, _, rfl, Or.inl hc, hq⟩
    · rename_i hc
      exact Or.inl ⟨_, _, _, _, rfl, Or.inr hc, hq⟩
    · cases hq
  · exact Or.inr ⟨_, rfl, hq⟩
  · cases hq
theorem am_newa_inv {α : Type} {t : ArrayType} {st : List Value} {h : am_H} {k : Nat → List Value → am_H → Option α} {ρ : α} (hq : am_newa t st h k = some ρ) : ∃ x r, st = .int x :: r ∧ ¬ x < 0 ∧ x.toNatClampNeg ≤ 1000000 ∧ ((t = .int ∧ k h.length r (h ++ [.inl (0, x.toNatClampNeg, .inl fun _ => 0)]) = some ρ) ∨ (t = .long ∧ k h.length r (h ++ [.inl (1, x.toNatClampNeg, .inr (.inl fun _ => 0))]) = some ρ) ∨ (t = .boolean ∧ k h.length r (h ++ [.inl (2, x.toNatClampNeg, .inl fun _ => 0)]) = some ρ)) := by
  unfold am_newa at hq
  split at hq
  · split at hq
    · cases hq
    · rename_i hx
      rw [Bool.or_eq_false_iff] at hx
      refine ⟨_, _, rfl, of_decide_eq_false hx.1, Nat.not_lt.mp (of_decide_eq_false hx.2), ?_⟩
      split at hq
      · exact Or.inl ⟨rfl, hq⟩
      · exact Or.inr (Or.inl ⟨rfl, hq⟩)
      · exact Or.inr (Or.inr ⟨rfl, hq⟩)
      · cases hq
  · cases hq
theorem am_getf_inv {α : Type} {q : Option (Nat × Nat)} {st : List Value} {h : am_H} {k : Value → List Value → Option α} {ρ : α} (hq : am_getf q st h k = some ρ) : ∃ ci f a r fs v, q = some (ci, f) ∧ st = .ref a :: r ∧ h[a]? = some (.inr (ci, fs)) ∧ fs[f]? = some v ∧ k v r = some ρ := by
  unfold am_getf at hq
  split at hq
  · cases hq
  · split at hq
    · split at hq
      · rename_i hc
        split at hq
        · rename_i he
          have he' := eq_of_beq he
          subst he'
          split at hq
          · rename_i hv
            exact ⟨_, _, _, _, _, _, rfl, rfl, hc, hv, hq⟩
          · cases hq
        · cases hq
      · cases hq
    · cases hq
theorem am_putf_inv {α : Type} {k0 : Nat} {q : Option (Nat × Nat)} {st : List Value} {h : am_H} {k : List Value → am_H → Option α} {ρ : α} (hq : am_putf k0 q st h k = some ρ) : ∃ ci f v a r fs, q = some (ci, f) ∧ st = v :: .ref a :: r ∧ h[a]? = some (.inr (ci, fs)) ∧ f < fs.length ∧ (am_fin ci f = false ∨ am_ctor k0 ci = true) ∧ narrow (am_fty ci f) v = v ∧ fits (am_fty ci f) v = true ∧ k r (h.set a (.inr (ci, fs.set f v))) = some ρ := by
  unfold am_putf at hq
  split at hq
  · cases hq
  · split at hq
    · split at hq
      · rename_i hc
        split at hq
        · rename_i he
          simp only [Bool.and_eq_true] at he
          obtain ⟨⟨⟨⟨e1, e2⟩, e3⟩, e4⟩, e5⟩ := he
          have he' := eq_of_beq e1
          subst he'
          refine ⟨_, _, _, _, _, _, rfl, rfl, hc, of_decide_eq_true e2, ?_, of_decide_eq_true e4, e5, hq⟩
          rw [Bool.or_eq_true] at e3
          rcases e3 with e3 | e3
          · left
            simpa using e3
          · exact Or.inr e3
        · cases hq
      · cases hq
    · cases hq
theorem am_v_fit {b0 base : Nat} {ty : FieldType} {v : Value} (h1 : narrow ty v = v) (h2 : fits ty v = true) : narrow ty (am_v b0 base v) = am_v b0 base v ∧ fits ty (am_v b0 base v) = true := by
  cases v with
  | int x => exact ⟨h1, h2⟩
  | long x => exact ⟨h1, h2⟩
  | float x => exact ⟨h1, h2⟩
  | double x => exact ⟨h1, h2⟩
  | null => exact ⟨h1, h2⟩
  | ref a => cases ty <;> first | (cases h2; done) | exact ⟨rfl, rfl⟩
  | retAddr a => cases ty <;> (cases h2; done)
theorem am_Wd.cell {D : va_G} {dA : Nat → ClassId} {b0 base : Nat} {h : am_H} {H : Heap} {a : Nat} {x : va_E} (_ : am_Wd D dA b0 base h H) (hc : h[a]? = some x) : (am_ws dA b0 base h)[a]? = some (base + a, am_e dA b0 base x) := by
  rw [am_ws_get, hc]; rfl
theorem am_Wd.set {D : va_G} {dA : Nat → ClassId} {b0 base : Nat} {h : am_H} {H H1 : Heap} {a : Nat} {x : va_E} (hW : am_Wd D dA b0 base h H) (hz : H1.size = H.size) (hP : va_P D vwCl ((am_ws dA b0 base h).set a (base + a, am_e dA b0 base x)) H1) : am_Wd D dA b0 base (h.set a x) H1 :=
  ⟨by rw [hz, hW.1, List.length_set], by rw [am_ws_set]; exact hP⟩
theorem am_Wd.app {D : va_G} {dA : Nat → ClassId} {b0 base : Nat} {h : am_H} {H H1 : Heap} {x : va_E} (hW : am_Wd D dA b0 base h H) (hz : H1.size = H.size + 1) (hP : va_P D vwCl (am_ws dA b0 base h ++ [(H.size, am_e dA b0 base x)]) H1) : am_Wd D dA b0 base (h ++ [x]) H1 :=
  ⟨by rw [hz, hW.1, List.length_append]; rfl, by rw [am_ws_app, ← hW.1]; exact hP⟩
section AMT2
variable {p : Program} {l : Launch} {e : Env} {R : Room} {s : State} {m : MethodId} {args : Array Value} {below : List Frame} {meth : Method} {c : Code} {Q : State → Prop}
variable {D : va_G} {dA : Nat → ClassId} {b0 base : Nat} {X : Nat × (Nat → Int32)} {k : Nat}

theorem am_k_iaload (Cx : am_Cx p s m args meth c D dA b0 base X k) {n0 z0 nl pc len : Nat} {ls st : List Value} {h : am_H} {σ' : am_P} (hdg : decode (am_bytes k) pc = .ok (.iaload, len)) (hlen : am_len (.iaload) = 0 ∨ len = am_len (.iaload)) (hdo : am_dp X k (.iaload) pc st h = some σ') (hR1 : σ'.2.2.length ≤ R.cells + n0) (hR2 : am_sz σ'.2.2 ≤ R.slots + z0) (hfr : am_fr k ≤ R.frames) (hlo : am_lc k ≤ R.locals) (hnl : nl = am_mxl k) (kk : am_Go p l e R s m args below meth c Q D dA b0 base n0 z0 nl (σ'.1, ls, σ'.2.1, σ'.2.2)) : am_Go p l e R s m args below meth c Q D dA b0 base n0 z0 nl (pc, ls, st, h) := by
  obtain ⟨hx, hb, hml, hown, hts, hr, hlk, hin, hK, hN, hX, hb0, hbs⟩ := Cx
  obtain rfl : len = 1 := hlen.resolve_left (fun q => absurd q (by show ¬ (1 : Nat) = 0; decide))
  simp only [am_dp] at hdo
  rcases am_iald_inv hdo with ⟨i, a, r, n, f, rfl, hc0, hi, hf⟩ | ⟨i, r, rfl, hi, hf⟩
  · obtain rfl := am_nx_inv hf
    intro H locs rl cells slots hW hS hl hn hc hz
    exact va_iald hx hb hK hW.2 a 0 (hW.cell hc0) rfl hi hdg (kk H locs rl cells slots hW hS hl hn hc hz)
  · obtain rfl := am_nx_inv hf
    intro H locs rl cells slots hW hS hl hn hc hz
    exact va_sld hx hb hX (Nat.lt_of_lt_of_le hb0 hbs) (Nat.not_le.mpr hb0) hS hi hdg (kk H locs rl cells slots hW hS hl hn hc hz)
theorem am_k_laload (Cx : am_Cx p s m args meth c D dA b0 base X k) {n0 z0 nl pc len : Nat} {ls st : List Value} {h : am_H} {σ' : am_P} (hdg : decode (am_bytes k) pc = .ok (.laload, len)) (hlen : am_len (.laload) = 0 ∨ len = am_len (.laload)) (hdo : am_dp X k (.laload) pc st h = some σ') (hR1 : σ'.2.2.length ≤ R.cells + n0) (hR2 : am_sz σ'.2.2 ≤ R.slots + z0) (hfr : am_fr k ≤ R.frames) (hlo : am_lc k ≤ R.locals) (hnl : nl = am_mxl k) (kk : am_Go p l e R s m args below meth c Q D dA b0 base n0 z0 nl (σ'.1, ls, σ'.2.1, σ'.2.2)) : am_Go p l e R s m args below meth c Q D dA b0 base n0 z0 nl (pc, ls, st, h) := by
  obtain ⟨hx, hb, hml, hown, hts, hr, hlk, hin, hK, hN, hX, hb0, hbs⟩ := Cx
  obtain rfl : len = 1 := hlen.resolve_left (fun q => absurd q (by show ¬ (1 : Nat) = 0; decide))
  simp only [am_dp] at hdo
  obtain ⟨i, a, r, n, f, rfl, hc0, hi, hf⟩ := am_lald_inv hdo
  obtain rfl := am_nx_inv hf
  intro H locs rl cells slots hW hS hl hn hc hz
  exact va_lald hx hb hK hW.2 a 1 (hW.cell hc0) rfl hi hdg (kk H locs rl cells slots hW hS hl hn hc hz)
theorem am_k_iastore (Cx : am_Cx p s m args meth c D dA b0 base X k) {n0 z0 nl pc len : Nat} {ls st : List Value} {h : am_H} {σ' : am_P} (hdg : decode (am_bytes k) pc = .ok (.iastore, len)) (hlen : am_len (.iastore) = 0 ∨ len = am_len (.iastore)) (hdo : am_dp X k (.iastore) pc st h = some σ') (hR1 : σ'.2.2.length ≤ R.cells + n0) (hR2 : am_sz σ'.2.2 ≤ R.slots + z0) (hfr : am_fr k ≤ R.frames) (hlo : am_lc k ≤ R.locals) (hnl : nl = am_mxl k) (kk : am_Go p l e R s m args below meth c Q D dA b0 base n0 z0 nl (σ'.1, ls, σ'.2.1, σ'.2.2)) : am_Go p l e R s m args below meth c Q D dA b0 base n0 z0 nl (pc, ls, st, h) := by
  obtain ⟨hx, hb, hml, hown, hts, hr, hlk, hin, hK, hN, hX, hb0, hbs⟩ := Cx
  obtain rfl : len = 1 := hlen.resolve_left (fun q => absurd q (by show ¬ (1 : Nat) = 0; decide))
  simp only [am_dp] at hdo
  obtain ⟨x, i, a, r, n, f, rfl, hc0, hi, hf⟩ := am_iast_inv hdo
  obtain rfl := am_nx_inv hf
  intro H locs rl cells slots hW hS hl hn hc hz
  exact am_iastW hx hb (hK.2 0 _ rfl).1 hW.2 (am_D dA b0 base h) hS a (hW.cell hc0) hi hdg (fun H1 locs1 hz1 hP1 hS1 => kk H1 locs1 rl cells slots (hW.set hz1 hP1) hS1 hl hn (by rw [hc]; exact (List.length_set ..).symm) (hz.trans (am_sz_set (c' := (.inl (0, n, .inl (upd f i.toNatClampNeg x)))) hc0 rfl).symm))
theorem am_k_lastore (Cx : am_Cx p s m args meth c D dA b0 base X k) {n0 z0 nl pc len : Nat} {ls st : List Value} {h : am_H} {σ' : am_P} (hdg : decode (am_bytes k) pc = .ok (.lastore, len)) (hlen : am_len (.lastore) = 0 ∨ len = am_len (.lastore)) (hdo : am_dp X k (.lastore) pc st h = some σ') (hR1 : σ'.2.2.length ≤ R.cells + n0) (hR2 : am_sz σ'.2.2 ≤ R.slots + z0) (hfr : am_fr k ≤ R.frames) (hlo : am_lc k ≤ R.locals) (hnl : nl = am_mxl k) (kk : am_Go p l e R s m args below meth c Q D dA b0 base n0 z0 nl (σ'.1, ls, σ'.2.1, σ'.2.2)) : am_Go p l e R s m args below meth c Q D dA b0 base n0 z0 nl (pc, ls, st, h) := by
  obtain ⟨hx, hb, hml, hown, hts, hr, hlk, hin, hK, hN, hX, hb0, hbs⟩ := Cx
  obtain rfl : len = 1 := hlen.resolve_left (fun q => absurd q (by show ¬ (1 : Nat) = 0; decide))
  simp only [am_dp] at hdo
  obtain ⟨x, i, a, r, n, f, rfl, hc0, hi, hf⟩ := am_last_inv hdo
  obtain rfl := am_nx_inv hf
  intro H locs rl cells slots hW hS hl hn hc hz
  exact am_lastW hx hb (hK.2 1 _ rfl).1 hW.2 (am_D dA b0 base h) hS a (hW.cell hc0) hi hdg (fun H1 locs1 hz1 hP1 hS1 => kk H1 locs1 rl cells slots (hW.set hz1 hP1) hS1 hl hn (by rw [hc]; exact (List.length_set ..).symm) (hz.trans (am_sz_set (c' := (.inl (1, n, .inr (.inl (vp_updL f i.toNatClampNeg x))))) hc0 rfl).symm))
theorem am_k_baload (Cx : am_Cx p s m args meth c D dA b0 base X k) {n0 z0 nl pc len : Nat} {ls st : List Value} {h : am_H} {σ' : am_P} (hdg : decode (am_bytes k) pc = .ok (.baload, len)) (hlen : am_len (.baload) = 0 ∨ len = am_len (.baload)) (hdo : am_dp X k (.baload) pc st h = some σ') (hR1 : σ'.2.2.length ≤ R.cells + n0) (hR2 : am_sz σ'.2.2 ≤ R.slots + z0) (hfr : am_fr k ≤ R.frames) (hlo : am_lc k ≤ R.locals) (hnl : nl = am_mxl k) (kk : am_Go p l e R s m args below meth c Q D dA b0 base n0 z0 nl (σ'.1, ls, σ'.2.1, σ'.2.2)) : am_Go p l e R s m args below meth c Q D dA b0 base n0 z0 nl (pc, ls, st, h) := by
  obtain ⟨hx, hb, hml, hown, hts, hr, hlk, hin, hK, hN, hX, hb0, hbs⟩ := Cx
  obtain rfl : len = 1 := hlen.resolve_left (fun q => absurd q (by show ¬ (1 : Nat) = 0; decide))
  simp only [am_dp] at hdo
  obtain ⟨i, a, r, n, f, rfl, hc0, hi, hf⟩ := am_zald_inv hdo
  obtain rfl := am_nx_inv hf
  intro H locs rl cells slots hW hS hl hn hc hz
  exact va_zald hx hb hK hW.2 a 2 (hW.cell hc0) rfl hi hdg (kk H locs rl cells slots hW hS hl hn hc hz)
theorem am_k_bastore (Cx : am_Cx p s m args meth c D dA b0 base X k) {n0 z0 nl pc len : Nat} {ls st : List Value} {h : am_H} {σ' : am_P} (hdg : decode (am_bytes k) pc = .ok (.bastore, len)) (hlen : am_len (.bastore) = 0 ∨ len = am_len (.bastore)) (hdo : am_dp X k (.bastore) pc st h = some σ') (hR1 : σ'.2.2.length ≤ R.cells + n0) (hR2 : am_sz σ'.2.2 ≤ R.slots + z0) (hfr : am_fr k ≤ R.frames) (hlo : am_lc k ≤ R.locals) (hnl : nl = am_mxl k) (kk : am_Go p l e R s m args below meth c Q D dA b0 base n0 z0 nl (σ'.1, ls, σ'.2.1, σ'.2.2)) : am_Go p l e R s m args below meth c Q D dA b0 base n0 z0 nl (pc, ls, st, h) := by
  obtain ⟨hx, hb, hml, hown, hts, hr, hlk, hin, hK, hN, hX, hb0, hbs⟩ := Cx
  obtain rfl : len = 1 := hlen.resolve_left (fun q => absurd q (by show ¬ (1 : Nat) = 0; decide))
  simp only [am_dp] at hdo
  obtain ⟨x, i, a, r, n, f, rfl, hc0, hi, hx1, hf⟩ := am_zast_inv hdo
  obtain rfl := am_nx_inv hf
  intro H locs rl cells slots hW hS hl hn hc hz
  exact am_zastW hx hb (hK.2 2 _ rfl).1 hW.2 (am_D dA b0 base h) hS a (hW.cell hc0) hx1 hi hdg (fun H1 locs1 hz1 hP1 hS1 => kk H1 locs1 rl cells slots (hW.set hz1 hP1) hS1 hl hn (by rw [hc]; exact (List.length_set ..).symm) (hz.trans (am_sz_set (c' := (.inl (2, n, .inl (upd f i.toNatClampNeg x)))) hc0 rfl).symm))
theorem am_k_arraylength (Cx : am_Cx p s m args meth c D dA b0 base X k) {n0 z0 nl pc len : Nat} {ls st : List Value} {h : am_H} {σ' : am_P} (hdg : decode (am_bytes k) pc = .ok (.arraylength, len)) (hlen : am_len (.arraylength) = 0 ∨ len = am_len (.arraylength)) (hdo : am_dp X k (.arraylength) pc st h = some σ') (hR1 : σ'.2.2.length ≤ R.cells + n0) (hR2 : am_sz σ'.2.2 ≤ R.slots + z0) (hfr : am_fr k ≤ R.frames) (hlo : am_lc k ≤ R.locals) (hnl : nl = am_mxl k) (kk : am_Go p l e R s m args below meth c Q D dA b0 base n0 z0 nl (σ'.1, ls, σ'.2.1, σ'.2.2)) : am_Go p l e R s m args below meth c Q D dA b0 base n0 z0 nl (pc, ls, st, h) := by
  obtain ⟨hx, hb, hml, hown, hts, hr, hlk, hin, hK, hN, hX, hb0, hbs⟩ := Cx
  obtain rfl : len = 1 := hlen.resolve_left (fun q => absurd q (by show ¬ (1 : Nat) = 0; decide))
  simp only [am_dp] at hdo
  rcases am_alen_inv hdo with ⟨a, r, n, y, rfl, hc0, hf⟩ | ⟨r, rfl, hf⟩
  · obtain rfl := am_nx_inv hf
    intro H locs rl cells slots hW hS hl hn hc hz
    rcases hc0 with hc0 | hc0
    · exact va_alen hx hb hK hW.2 a 0 (hW.cell hc0) (ty := .int) rfl rfl hdg (kk H locs rl cells slots hW hS hl hn hc hz)
    · exact va_alen hx hb hK hW.2 a 1 (hW.cell hc0) (ty := .long) rfl rfl hdg (kk H locs rl cells slots hW hS hl hn hc hz)
  · obtain rfl := am_nx_inv hf
    intro H locs rl cells slots hW hS hl hn hc hz
    exact va_slen hx hb hX (Nat.lt_of_lt_of_le hb0 hbs) (Nat.not_le.mpr hb0) hS hdg (kk H locs rl cells slots hW hS hl hn hc hz)
theorem am_k_newarray (Cx : am_Cx p s m args meth c D dA b0 base X k) {n0 z0 nl pc len : Nat} {ls st : List Value} {h : am_H} {σ' : am_P} {t : ArrayType} (hdg : decode (am_bytes k) pc = .ok (.newarray t, len)) (hlen : am_len (.newarray t) = 0 ∨ len = am_len (.newarray t)) (hdo : am_dp X k (.newarray t) pc st h = some σ') (hR1 : σ'.2.2.length ≤ R.cells + n0) (hR2 : am_sz σ'.2.2 ≤ R.slots + z0) (hfr : am_fr k ≤ R.frames) (hlo : am_lc k ≤ R.locals) (hnl : nl = am_mxl k) (kk : am_Go p l e R s m args below meth c Q D dA b0 base n0 z0 nl (σ'.1, ls, σ'.2.1, σ'.2.2)) : am_Go p l e R s m args below meth c Q D dA b0 base n0 z0 nl (pc, ls, st, h) := by
  obtain ⟨hx, hb, hml, hown, hts, hr, hlk, hin, hK, hN, hX, hb0, hbs⟩ := Cx
  obtain rfl : len = 2 := hlen.resolve_left (fun q => absurd q (by show ¬ (2 : Nat) = 0; decide))
  simp only [am_dp] at hdo
  obtain ⟨x, r, rfl, hx0, hx1, hf⟩ := am_newa_inv hdo
  rcases hf with ⟨rfl, hf⟩ | ⟨rfl, hf⟩ | ⟨rfl, hf⟩
  · obtain rfl := am_nx_inv hf
    intro H locs rl cells slots hW hS hl hn hc hz
    have hR1 : (h ++ ([Sum.inl (0, x.toNatClampNeg, .inl fun _ => 0)] : am_H)).length ≤ R.cells + n0 := hR1
    have hR2 : am_sz (h ++ ([Sum.inl (0, x.toNatClampNeg, .inl fun _ => 0)] : am_H)) ≤ R.slots + z0 := hR2
    have hc : cells + n0 = h.length := hc
    have hz : slots + z0 = am_sz h := hz
    rw [List.length_append, List.length_singleton] at hR1
    rw [am_sz_app] at hR2
    simp only [am_cs] at hR2
    refine am_newaW (atype := .int) hx hb (hts _ am_arr_i) hW.2 hS (dk := dA 0) (hK.2 0 _ rfl).2 (a0 := (x.toNatClampNeg, .inl fun _ => 0)) (fun cA => rfl) hx0 rfl (by show _ * 4 ≤ _; omega) (by omega) (by omega) hdg (fun H1 hz1 hP1 hS1 => ?_)
    rw [show Value.ref H.size = am_v b0 base (.ref h.length) by rw [hW.1]; rfl]
    exact kk H1 locs rl _ _ (hW.app hz1 hP1) hS1 hl hn (by show _ = (h ++ [_]).length; rw [List.length_append, List.length_singleton]; omega) (by show _ = am_sz (h ++ [_]); rw [am_sz_app]; simp only [am_cs]; omega)
  · obtain rfl := am_nx_inv hf
    intro H locs rl cells slots hW hS hl hn hc hz
    have hR1 : (h ++ ([Sum.inl (1, x.toNatClampNeg, .inr (.inl fun _ => 0))] : am_H)).length ≤ R.cells + n0 := hR1
    have hR2 : am_sz (h ++ ([Sum.inl (1, x.toNatClampNeg, .inr (.inl fun _ => 0))] : am_H)) ≤ R.slots + z0 := hR2
    have hc : cells + n0 = h.length := hc
    have hz : slots + z0 = am_sz h := hz
    rw [List.length_append, List.length_singleton] at hR1
    rw [am_sz_app] at hR2
    simp only [am_cs] at hR2
    refine am_newaW (atype := .long) hx hb (hts _ am_arr_l) hW.2 hS (dk := dA 1) (hK.2 1 _ rfl).2 (a0 := (x.toNatClampNeg, .inr (.inl fun _ => 0))) (fun cA => rfl) hx0 rfl (by show _ * 8 ≤ _; omega) (by omega) (by omega) hdg (fun H1 hz1 hP1 hS1 => ?_)
    rw [show Value.ref H.size = am_v b0 base (.ref h.length) by rw [hW.1]; rfl]
    exact kk H1 locs rl _ _ (hW.app hz1 hP1) hS1 hl hn (by show _ = (h ++ [_]).length; rw [List.length_append, List.length_singleton]; omega) (by show _ = am_sz (h ++ [_]); rw [am_sz_app]; simp only [am_cs]; omega)
  · obtain rfl := am_nx_inv hf
    intro H locs rl cells slots hW hS hl hn hc hz
    have hR1 : (h ++ ([Sum.inl (2, x.toNatClampNeg, .inl fun _ => 0)] : am_H)).length ≤ R.cells + n0 := hR1
    have hR2 : am_sz (h ++ ([Sum.inl (2, x.toNatClampNeg, .inl fun _ => 0)] : am_H)) ≤ R.slots + z0 := hR2
    have hc : cells + n0 = h.length := hc
    have hz : slots + z0 = am_sz h := hz
    rw [List.length_append, List.length_singleton] at hR1
    rw [am_sz_app] at hR2
    simp only [am_cs] at hR2
    refine am_newaW (atype := .boolean) hx hb (hts _ am_arr_z) hW.2 hS (dk := dA 2) (hK.2 2 _ rfl).2 (a0 := (x.toNatClampNeg, .inl fun _ => 0)) (fun cA => rfl) hx0 rfl (by show _ * 1 ≤ _; omega) (by omega) (by omega) hdg (fun H1 hz1 hP1 hS1 => ?_)
    rw [show Value.ref H.size = am_v b0 base (.ref h.length) by rw [hW.1]; rfl]
    exact kk H1 locs rl _ _ (hW.app hz1 hP1) hS1 hl hn (by show _ = (h ++ [_]).length; rw [List.length_append, List.length_singleton]; omega) (by show _ = am_sz (h ++ [_]); rw [am_sz_app]; simp only [am_cs]; omega)
theorem am_k_new (Cx : am_Cx p s m args meth c D dA b0 base X k) {n0 z0 nl pc len : Nat} {ls st : List Value} {h : am_H} {σ' : am_P} {j : Nat} (hdg : decode (am_bytes k) pc = .ok (.new j, len)) (hlen : am_len (.new j) = 0 ∨ len = am_len (.new j)) (hdo : am_dp X k (.new j) pc st h = some σ') (hR1 : σ'.2.2.length ≤ R.cells + n0) (hR2 : am_sz σ'.2.2 ≤ R.slots + z0) (hfr : am_fr k ≤ R.frames) (hlo : am_lc k ≤ R.locals) (hnl : nl = am_mxl k) (kk : am_Go p l e R s m args below meth c Q D dA b0 base n0 z0 nl (σ'.1, ls, σ'.2.1, σ'.2.2)) : am_Go p l e R s m args below meth c Q D dA b0 base n0 z0 nl (pc, ls, st, h) := by
  obtain ⟨hx, hb, hml, hown, hts, hr, hlk, hin, hK, hN, hX, hb0, hbs⟩ := Cx
  obtain rfl : len = 3 := hlen.resolve_left (fun q => absurd q (by show ¬ (3 : Nat) = 0; decide))
  simp only [am_dp] at hdo
  split at hdo
  · rename_i ci hci
    obtain rfl := am_nx_inv hdo
    obtain ⟨C, T, N, h1, h2, h3, h4, h5, h6, h7⟩ := am_newc_ok hci
    intro H locs rl cells slots hW hS hl hn hc hz
    have hR1 : (h ++ [Sum.inr (ci, am_dfl ci)]).length ≤ R.cells + n0 := hR1
    have hR2 : am_sz (h ++ [Sum.inr (ci, am_dfl ci)]) ≤ R.slots + z0 := hR2
    have hc : cells + n0 = h.length := hc
    have hz : slots + z0 = am_sz h := hz
    rw [List.length_append, List.length_singleton] at hR1
    rw [am_sz_app] at hR2
    simp only [am_cs, h5] at hR2
    refine am_newW hx hb hts (am_cls_ok h1) hown (hts _ h2) (hts _ h3) (hts _ h4) hK hW.2 hS h1 (fs := (am_dfl ci).map (am_v b0 base)) (by rw [h7 (am_v b0 base) (fun _ => rfl) (fun _ => rfl) rfl]; exact h6) (by omega) (by omega) hdg (fun H1 hz1 hP1 hS1 => ?_)
    rw [show Value.ref H.size = am_v b0 base (.ref h.length) by rw [hW.1]; rfl]
    exact kk H1 locs rl _ _ (hW.app hz1 hP1) hS1 hl hn (by show _ = (h ++ [_]).length; rw [List.length_append, List.length_singleton]; omega) (by show _ = am_sz (h ++ [_]); rw [am_sz_app]; simp only [am_cs, h5]; omega)
  · cases hdo
theorem am_k_getfield (Cx : am_Cx p s m args meth c D dA b0 base X k) {n0 z0 nl pc len : Nat} {ls st : List Value} {h : am_H} {σ' : am_P} {j : Nat} (hdg : decode (am_bytes k) pc = .ok (.getfield j, len)) (hlen : am_len (.getfield j) = 0 ∨ len = am_len (.getfield j)) (hdo : am_dp X k (.getfield j) pc st h = some σ') (hR1 : σ'.2.2.length ≤ R.cells + n0) (hR2 : am_sz σ'.2.2 ≤ R.slots + z0) (hfr : am_fr k ≤ R.frames) (hlo : am_lc k ≤ R.locals) (hnl : nl = am_mxl k) (kk : am_Go p l e R s m args below meth c Q D dA b0 base n0 z0 nl (σ'.1, ls, σ'.2.1, σ'.2.2)) : am_Go p l e R s m args below meth c Q D dA b0 base n0 z0 nl (pc, ls, st, h) := by
  obtain ⟨hx, hb, hml, hown, hts, hr, hlk, hin, hK, hN, hX, hb0, hbs⟩ := Cx
  obtain rfl : len = 3 := hlen.resolve_left (fun q => absurd q (by show ¬ (3 : Nat) = 0; decide))
  simp only [am_dp] at hdo
  obtain ⟨ci, f, a, r, fs, v, hq, rfl, hc0, hv, hf⟩ := am_getf_inv hdo
  obtain rfl := am_nx_inv hf
  obtain ⟨C, T, N, h1, h2, h3, -⟩ := am_fld_ok hq
  intro H locs rl cells slots hW hS hl hn hc hz
  have hv' : (fs.map (am_v b0 base))[f]? = some (am_v b0 base v) := by rw [List.getElem?_map, hv]; rfl
  rcases h3 with h3 | ⟨host, h3⟩
  · exact va_get hx hb hts (am_cls_ok h1).1 hown hK hW.2 a (hW.cell hc0) h1 f h2 (hts _ h3) (fun _ h9 => h9) hv' hdg (kk H locs rl cells slots hW hS hl hn hc hz)
  · exact va_getN hx hb hts (am_cls_ok h1).1 hown hK hW.2 a (hW.cell hc0) h1 f h2 (va_Nw.use rfl (hN.1 _ h3)) (fun _ h9 => h9) hv' hdg (kk H locs rl cells slots hW hS hl hn hc hz)
theorem am_k_putfield (Cx : am_Cx p s m args meth c D dA b0 base X k) {n0 z0 nl pc len : Nat} {ls st : List Value} {h : am_H} {σ' : am_P} {j : Nat} (hdg : decode (am_bytes k) pc = .ok (.putfield j, len)) (hlen : am_len (.putfield j) = 0 ∨ len = am_len (.putfield j)) (hdo : am_dp X k (.putfield j) pc st h = some σ') (hR1 : σ'.2.2.length ≤ R.cells + n0) (hR2 : am_sz σ'.2.2 ≤ R.slots + z0) (hfr : am_fr k ≤ R.frames) (hlo : am_lc k ≤ R.locals) (hnl : nl = am_mxl k) (kk : am_Go p l e R s m args below meth c Q D dA b0 base n0 z0 nl (σ'.1, ls, σ'.2.1, σ'.2.2)) : am_Go p l e R s m args below meth c Q D dA b0 base n0 z0 nl (pc, ls, st, h) := by
  obtain ⟨hx, hb, hml, hown, hts, hr, hlk, hin, hK, hN, hX, hb0, hbs⟩ := Cx
  obtain rfl : len = 3 := hlen.resolve_left (fun q => absurd q (by show ¬ (3 : Nat) = 0; decide))
  simp only [am_dp] at hdo
  obtain ⟨ci, f, v, a, r, fs, hq, rfl, hc0, hfl, hfin, hnr, hft, hf⟩ := am_putf_inv hdo
  obtain rfl := am_nx_inv hf
  obtain ⟨C, T, N, h1, h2, h3, h4⟩ := am_fld_ok hq
  intro H locs rl cells slots hW hS hl hn hc hz
  obtain ⟨hnr', hft'⟩ := am_v_fit (b0 := b0) (base := base) hnr hft
  have hfl' : f < (fs.map (am_v b0 base)).length := by rw [List.length_map]; exact hfl
  have fin : ∀ (H1 : Heap) (locs1 : List Loc), H1.size = H.size → va_P D vwCl ((am_ws dA b0 base h).set a (base + a, .inr (ci, (fs.map (am_v b0 base)).set f (am_v b0 base v)))) H1 → va_S (am_A base) s.heap H1 locs1 → W p l e R s m args below meth c H1 locs1 cells slots Q (F0 m (pc + 3) rl (r.map (am_v b0 base))) := by
    intro H1 locs1 hz1 hP1 hS1
    rw [← List.map_set] at hP1
    exact kk H1 locs1 rl cells slots (hW.set hz1 hP1) hS1 hl hn (by rw [hc]; exact (List.length_set ..).symm) (by rw [hz]; exact (am_sz_set hc0 (by simp [am_cs])).symm)
  by_cases hfn : (T f).2.2.2 = true
  · have hct : am_ctor k ci = true := by
      rcases hfin with q | q
      · rw [h4] at hfn; rw [hfn] at q; cases q
      · exact q
    obtain ⟨g1, g2⟩ := am_ctor_own hct h1
    have h3' : Cond.fieldLink (am_cn (am_own k)) j (T f).1 (T f).2.1 (T f).2.2.1 ∈ am_WT := by
      rcases h3 with h3 | ⟨host, h3⟩
      · exact h3
      · exact absurd (g2 f h2) (am_NF_other h3)
    exact am_putF hx hb hts (am_cls_ok h1) hown hK hW.2 (am_D dA b0 base h) hS a (hW.cell hc0) h1 f h2 (hts _ h3') hfn (hin g1) (g2 f h2) hnr' hft' hfl' hdg fin
  · have hfn' : (T f).2.2.2 = false := by simpa using hfn
    rcases h3 with h3 | ⟨host, h3⟩
    · exact am_put hx hb hts (am_cls_ok h1) hown hK hW.2 (am_D dA b0 base h) hS a (hW.cell hc0) h1 f h2 (Or.inl (hts _ h3)) hfn' hnr' hft' hfl' hdg fin
    · exact am_put hx hb hts (am_cls_ok h1) hown hK hW.2 (am_D dA b0 base h) hS a (hW.cell hc0) h1 f h2 (Or.inr ⟨host, va_Nw.use rfl (hN.1 _ h3)⟩) hfn' hnr' hft' hfl' hdg fin
end AMT2
