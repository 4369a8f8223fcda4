/-! ONE INSTRUCTION OF THE PLAIN MACHINE IS ONE OF THE CLAIM'S -/
def am_tys (dA : Nat → ClassId) : List (ClassId × FieldType) := [(dA 0, .int), (dA 1, .long), (dA 2, .boolean)]
/-- the links between nest mates hold -/
def am_NW (U : State) : Prop := (∀ q ∈ am_NF, va_Nw (.fieldLinkNest q.1 q.2.1 q.2.2.1 q.2.2.2.1 q.2.2.2.2.1 q.2.2.2.2.2) U) ∧ ∀ q ∈ am_NM, va_Nw (.methodLinkNest q.1 q.2.1 q.2.2.1 q.2.2.2) U
def am_Cx (p : Program) (s : State) (m : MethodId) (args : Array Value) (meth : Method) (c : Code) (D : va_G) (dA : Nat → ClassId) (b0 base : Nat) (X : Nat × (Nat → Int32)) (k : Nat) : Prop :=
  p.tables.exec = Jvm.exec ∧ c.code = am_bytes k ∧ c.maxLocals = am_mxl k ∧ s.vm.findClass (am_cn (am_own k)) = some m.cls ∧ (∀ w ∈ am_WT, w.before args s = true) ∧ meth.sig.returnType = am_ret k ∧ meth.locks = false ∧ (am_isi k = true → meth.name = "<init>") ∧ va_K D vwCl (am_tys dA) s ∧ am_NW s ∧ va_X b0 X.1 X.2 s s.heap ∧ b0 < base ∧ base ≤ s.heap.size
/-- the claim's machine goes on from a plain state -/
def am_Go (p : Program) (l : Launch) (e : Env) (R : Room) (s : State) (m : MethodId) (args : Array Value) (below : List Frame) (meth : Method) (c : Code) (Q : State → Prop) (D : va_G) (dA : Nat → ClassId) (b0 base n0 z0 n : Nat) (σ : am_S) : Prop :=
  ∀ (H : Heap) (locs : List Loc) (rl : Array Slot) (cells slots : Nat), am_Wd D dA b0 base σ.2.2.2 H → va_S (am_A base) s.heap H locs → am_L b0 base σ.2.1 rl → σ.2.1.length = n → cells + n0 = σ.2.2.2.length → slots + z0 = am_sz σ.2.2.2 → W p l e R s m args below meth c H locs cells slots Q (F0 m σ.1 rl (σ.2.2.1.map (am_v b0 base)))
theorem am_nx_inv {pc : Nat} {st : List Value} {h : am_H} {σ' : am_P} (hf : am_nx pc st h = some σ') : σ' = (pc, st, h) := by
  cases hf; rfl
theorem am_nl_inv {pc : Nat} {ls st : List Value} {h : am_H} {σ' : am_S} (hf : am_nl pc ls st h = some σ') : σ' = (pc, ls, st, h) := by
  cases hf; rfl
theorem am_jmp_inv {pc t : Nat} {off : Int} (h : am_jmp pc off = some t) : (pc : Int) + off = (t : Int) := by
  unfold am_jmp at h
  split at h
  · cases h; omega
  · cases h
theorem am_go_inv {pc : Nat} {off : Int} {st : List Value} {h : am_H} {σ' : am_P} (hf : am_go pc off st h = some σ') : ∃ t : Nat, (pc : Int) + off = (t : Int) ∧ σ' = (t, st, h) := by
  unfold am_go at hf
  split at hf
  · rename_i t ht
    exact ⟨t, am_jmp_inv ht, am_nx_inv hf⟩
  · cases hf
theorem am_br_inv {b : Bool} {pc : Nat} {off : Int} {st : List Value} {h : am_H} {σ' : am_P} (hf : am_br b pc off st h = some σ') : ∃ t : Nat, (pc : Int) + off = (t : Int) ∧ ((b = true ∧ σ' = (t, st, h)) ∨ (b = false ∧ σ' = (pc + 3, st, h))) := by
  unfold am_br at hf
  split at hf
  · rename_i t ht
    refine ⟨t, am_jmp_inv ht, ?_⟩
    cases b
    · exact Or.inr ⟨rfl, am_nx_inv hf⟩
    · exact Or.inl ⟨rfl, am_nx_inv hf⟩
  · cases hf
theorem am_i1_inv {α : Type} {st : List Value} {f : Int32 → List Value → Option α} {ρ : α} (h : am_i1 st f = some ρ) : ∃ x r, st = .int x :: r ∧ f x r = some ρ := by
  unfold am_i1 at h
  split at h
  · exact ⟨_, _, rfl, h⟩
  · cases h
theorem am_i2_inv {α : Type} {st : List Value} {f : Int32 → Int32 → List Value → Option α} {ρ : α} (h : am_i2 st f = some ρ) : ∃ x y r, st = .int y :: .int x :: r ∧ f x y r = some ρ := by
  unfold am_i2 at h
  split at h
  · exact ⟨_, _, _, rfl, h⟩
  · cases h
theorem am_l1_inv {α : Type} {st : List Value} {f : Int64 → List Value → Option α} {ρ : α} (h : am_l1 st f = some ρ) : ∃ x r, st = .long x :: r ∧ f x r = some ρ := by
  unfold am_l1 at h
  split at h
  · exact ⟨_, _, rfl, h⟩
  · cases h
theorem am_l2_inv {α : Type} {st : List Value} {f : Int64 → Int64 → List Value → Option α} {ρ : α} (h : am_l2 st f = some ρ) : ∃ x y r, st = .long y :: .long x :: r ∧ f x y r = some ρ := by
  unfold am_l2 at h
  split at h
  · exact ⟨_, _, _, rfl, h⟩
  · cases h
theorem am_s2_inv {α : Type} {st : List Value} {f : Int64 → Int32 → List Value → Option α} {ρ : α} (h : am_s2 st f = some ρ) : ∃ x y r, st = .int y :: .long x :: r ∧ f x y r = some ρ := by
  unfold am_s2 at h
  split at h
  · exact ⟨_, _, _, rfl, h⟩
  · cases h
theorem am_r1_inv {α : Type} {st : List Value} {f : Nat → List Value → Option α} {ρ : α} (h : am_r1 st f = some ρ) : ∃ a r, st = .ref a :: r ∧ f a r = some ρ := by
  unfold am_r1 at h
  split at h
  · exact ⟨_, _, rfl, h⟩
  · cases h
theorem am_r2_inv {α : Type} {st : List Value} {f : Nat → Nat → List Value → Option α} {ρ : α} (h : am_r2 st f = some ρ) : ∃ a b r, st = .ref b :: .ref a :: r ∧ f a b r = some ρ := by
  unfold am_r2 at h
  split at h
  · exact ⟨_, _, _, rfl, h⟩
  · cases h
theorem am_gi_inv {α : Type} {ls : List Value} {x : Nat} {f : Int32 → Option α} {ρ : α} (h : am_gi ls x f = some ρ) : ∃ v, ls[x]? = some (.int v) ∧ f v = some ρ := by
  unfold am_gi at h
  split at h
  · rename_i hv
    exact ⟨_, hv, h⟩
  · cases h
theorem am_gl_inv {α : Type} {ls : List Value} {x : Nat} {f : Int64 → Option α} {ρ : α} (h : am_gl ls x f = some ρ) : ∃ v, ls[x]? = some (.long v) ∧ f v = some ρ := by
  unfold am_gl at h
  split at h
  · rename_i hv
    exact ⟨_, hv, h⟩
  · cases h
theorem am_ga_inv {α : Type} {ls : List Value} {x : Nat} {f : Value → Option α} {ρ : α} (h : am_ga ls x f = some ρ) : ∃ v, ls[x]? = some v ∧ ((∃ a, v = .ref a) ∨ v = am_X) ∧ f v = some ρ := by
  unfold am_ga at h
  split at h
  · rename_i a hv
    exact ⟨_, hv, Or.inl ⟨a, rfl⟩, h⟩
  · rename_i hv
    exact ⟨_, hv, Or.inr rfl, h⟩
  · cases h
theorem am_out_f {i : Int32} {n : Nat} (h : am_out i n = false) : vp_in i n := by
  unfold am_out at h
  rw [Bool.or_eq_false_iff] at h
  intro q
  rcases q with q | q
  · exact absurd q (of_decide_eq_false h.1)
  · exact absurd q (of_decide_eq_false h.2)
section AMT
variable {p : Program} {l : Launch} {e : Env} {R : Room} {s : State} {m : MethodId} {args : Array Value} {below : List Frame} {meth : Method} {c : Code} {Q : State → Prop}
variable {D : va_G} {dA : Nat → ClassId} {b0 base : Nat} {X : Nat × (Nat → Int32)} {k : Nat}

theorem am_k_aconst_null (Cx : am_Cx p s m args meth c D dA b0 base X k) {n0 z0 nl pc len : Nat} {ls st : List Value} {h : am_H} {σ' : am_P} (hdg : decode (am_bytes k) pc = .ok (.aconst_null, len)) (hlen : am_len (.aconst_null) = 0 ∨ len = am_len (.aconst_null)) (hdo : am_dp X k (.aconst_null) pc st h = some σ') (hR1 : σ'.2.2.length ≤ R.cells + n0) (hR2 : am_sz σ'.2.2 ≤ R.slots + z0) (hfr : am_fr k ≤ R.frames) (hlo : am_lc k ≤ R.locals) (hnl : nl = am_mxl k) (kk : am_Go p l e R s m args below meth c Q D dA b0 base n0 z0 nl (σ'.1, ls, σ'.2.1, σ'.2.2)) : am_Go p l e R s m args below meth c Q D dA b0 base n0 z0 nl (pc, ls, st, h) := by
  obtain ⟨hx, hb, hml, hown, hts, hr, hlk, hin, hK, hN, hX, hb0, hbs⟩ := Cx
  obtain rfl : len = 1 := hlen.resolve_left (fun q => absurd q (by show ¬ (1 : Nat) = 0; decide))
  simp only [am_dp] at hdo
  obtain rfl := am_nx_inv hdo
  intro H locs rl cells slots hW hS hl hn hc hz
  exact lv_null hx hb hdg (kk H locs rl cells slots hW hS hl hn hc hz)
theorem am_k_iconst (Cx : am_Cx p s m args meth c D dA b0 base X k) {n0 z0 nl pc len : Nat} {ls st : List Value} {h : am_H} {σ' : am_P} {n : Int} (hdg : decode (am_bytes k) pc = .ok (.iconst n, len)) (hlen : am_len (.iconst n) = 0 ∨ len = am_len (.iconst n)) (hdo : am_dp X k (.iconst n) pc st h = some σ') (hR1 : σ'.2.2.length ≤ R.cells + n0) (hR2 : am_sz σ'.2.2 ≤ R.slots + z0) (hfr : am_fr k ≤ R.frames) (hlo : am_lc k ≤ R.locals) (hnl : nl = am_mxl k) (kk : am_Go p l e R s m args below meth c Q D dA b0 base n0 z0 nl (σ'.1, ls, σ'.2.1, σ'.2.2)) : am_Go p l e R s m args below meth c Q D dA b0 base n0 z0 nl (pc, ls, st, h) := by
  obtain ⟨hx, hb, hml, hown, hts, hr, hlk, hin, hK, hN, hX, hb0, hbs⟩ := Cx
  obtain rfl : len = 1 := hlen.resolve_left (fun q => absurd q (by show ¬ (1 : Nat) = 0; decide))
  simp only [am_dp] at hdo
  obtain rfl := am_nx_inv hdo
  intro H locs rl cells slots hW hS hl hn hc hz
  exact lv_iconst hx hb hdg rfl (kk H locs rl cells slots hW hS hl hn hc hz)
theorem am_k_bipush (Cx : am_Cx p s m args meth c D dA b0 base X k) {n0 z0 nl pc len : Nat} {ls st : List Value} {h : am_H} {σ' : am_P} {n : Int} (hdg : decode (am_bytes k) pc = .ok (.bipush n, len)) (hlen : am_len (.bipush n) = 0 ∨ len = am_len (.bipush n)) (hdo : am_dp X k (.bipush n) pc st h = some σ') (hR1 : σ'.2.2.length ≤ R.cells + n0) (hR2 : am_sz σ'.2.2 ≤ R.slots + z0) (hfr : am_fr k ≤ R.frames) (hlo : am_lc k ≤ R.locals) (hnl : nl = am_mxl k) (kk : am_Go p l e R s m args below meth c Q D dA b0 base n0 z0 nl (σ'.1, ls, σ'.2.1, σ'.2.2)) : am_Go p l e R s m args below meth c Q D dA b0 base n0 z0 nl (pc, ls, st, h) := by
  obtain ⟨hx, hb, hml, hown, hts, hr, hlk, hin, hK, hN, hX, hb0, hbs⟩ := Cx
  obtain rfl : len = 2 := hlen.resolve_left (fun q => absurd q (by show ¬ (2 : Nat) = 0; decide))
  simp only [am_dp] at hdo
  obtain rfl := am_nx_inv hdo
  intro H locs rl cells slots hW hS hl hn hc hz
  exact lv_bipush hx hb hdg rfl (kk H locs rl cells slots hW hS hl hn hc hz)
theorem am_k_sipush (Cx : am_Cx p s m args meth c D dA b0 base X k) {n0 z0 nl pc len : Nat} {ls st : List Value} {h : am_H} {σ' : am_P} {n : Int} (hdg : decode (am_bytes k) pc = .ok (.sipush n, len)) (hlen : am_len (.sipush n) = 0 ∨ len = am_len (.sipush n)) (hdo : am_dp X k (.sipush n) pc st h = some σ') (hR1 : σ'.2.2.length ≤ R.cells + n0) (hR2 : am_sz σ'.2.2 ≤ R.slots + z0) (hfr : am_fr k ≤ R.frames) (hlo : am_lc k ≤ R.locals) (hnl : nl = am_mxl k) (kk : am_Go p l e R s m args below meth c Q D dA b0 base n0 z0 nl (σ'.1, ls, σ'.2.1, σ'.2.2)) : am_Go p l e R s m args below meth c Q D dA b0 base n0 z0 nl (pc, ls, st, h) := by
  obtain ⟨hx, hb, hml, hown, hts, hr, hlk, hin, hK, hN, hX, hb0, hbs⟩ := Cx
  obtain rfl : len = 3 := hlen.resolve_left (fun q => absurd q (by show ¬ (3 : Nat) = 0; decide))
  simp only [am_dp] at hdo
  obtain rfl := am_nx_inv hdo
  intro H locs rl cells slots hW hS hl hn hc hz
  exact lv_sipush hx hb hdg rfl (kk H locs rl cells slots hW hS hl hn hc hz)
theorem am_k_lconst (Cx : am_Cx p s m args meth c D dA b0 base X k) {n0 z0 nl pc len : Nat} {ls st : List Value} {h : am_H} {σ' : am_P} {n : Fin 2} (hdg : decode (am_bytes k) pc = .ok (.lconst n, len)) (hlen : am_len (.lconst n) = 0 ∨ len = am_len (.lconst n)) (hdo : am_dp X k (.lconst n) pc st h = some σ') (hR1 : σ'.2.2.length ≤ R.cells + n0) (hR2 : am_sz σ'.2.2 ≤ R.slots + z0) (hfr : am_fr k ≤ R.frames) (hlo : am_lc k ≤ R.locals) (hnl : nl = am_mxl k) (kk : am_Go p l e R s m args below meth c Q D dA b0 base n0 z0 nl (σ'.1, ls, σ'.2.1, σ'.2.2)) : am_Go p l e R s m args below meth c Q D dA b0 base n0 z0 nl (pc, ls, st, h) := by
  obtain ⟨hx, hb, hml, hown, hts, hr, hlk, hin, hK, hN, hX, hb0, hbs⟩ := Cx
  obtain rfl : len = 1 := hlen.resolve_left (fun q => absurd q (by show ¬ (1 : Nat) = 0; decide))
  simp only [am_dp] at hdo
  obtain rfl := am_nx_inv hdo
  intro H locs rl cells slots hW hS hl hn hc hz
  exact lv_lconst hx hb hdg rfl (kk H locs rl cells slots hW hS hl hn hc hz)
theorem am_k_ldc (Cx : am_Cx p s m args meth c D dA b0 base X k) {n0 z0 nl pc len : Nat} {ls st : List Value} {h : am_H} {σ' : am_P} {j : Nat} (hdg : decode (am_bytes k) pc = .ok (.ldc j, len)) (hlen : am_len (.ldc j) = 0 ∨ len = am_len (.ldc j)) (hdo : am_dp X k (.ldc j) pc st h = some σ') (hR1 : σ'.2.2.length ≤ R.cells + n0) (hR2 : am_sz σ'.2.2 ≤ R.slots + z0) (hfr : am_fr k ≤ R.frames) (hlo : am_lc k ≤ R.locals) (hnl : nl = am_mxl k) (kk : am_Go p l e R s m args below meth c Q D dA b0 base n0 z0 nl (σ'.1, ls, σ'.2.1, σ'.2.2)) : am_Go p l e R s m args below meth c Q D dA b0 base n0 z0 nl (pc, ls, st, h) := by
  obtain ⟨hx, hb, hml, hown, hts, hr, hlk, hin, hK, hN, hX, hb0, hbs⟩ := Cx
  obtain rfl : len = 2 := hlen.resolve_left (fun q => absurd q (by show ¬ (2 : Nat) = 0; decide))
  simp only [am_dp] at hdo
  split at hdo
  · rename_i v hv
    obtain rfl := am_nx_inv hdo
    intro H locs rl cells slots hW hS hl hn hc hz
    exact lv_ldc hx hb hown (hts _ (am_ldi_ok hv)) hdg (kk H locs rl cells slots hW hS hl hn hc hz)
  · cases hdo
theorem am_k_ldc2_w (Cx : am_Cx p s m args meth c D dA b0 base X k) {n0 z0 nl pc len : Nat} {ls st : List Value} {h : am_H} {σ' : am_P} {j : Nat} (hdg : decode (am_bytes k) pc = .ok (.ldc2_w j, len)) (hlen : am_len (.ldc2_w j) = 0 ∨ len = am_len (.ldc2_w j)) (hdo : am_dp X k (.ldc2_w j) pc st h = some σ') (hR1 : σ'.2.2.length ≤ R.cells + n0) (hR2 : am_sz σ'.2.2 ≤ R.slots + z0) (hfr : am_fr k ≤ R.frames) (hlo : am_lc k ≤ R.locals) (hnl : nl = am_mxl k) (kk : am_Go p l e R s m args below meth c Q D dA b0 base n0 z0 nl (σ'.1, ls, σ'.2.1, σ'.2.2)) : am_Go p l e R s m args below meth c Q D dA b0 base n0 z0 nl (pc, ls, st, h) := by
  obtain ⟨hx, hb, hml, hown, hts, hr, hlk, hin, hK, hN, hX, hb0, hbs⟩ := Cx
  obtain rfl : len = 3 := hlen.resolve_left (fun q => absurd q (by show ¬ (3 : Nat) = 0; decide))
  simp only [am_dp] at hdo
  split at hdo
  · rename_i v hv
    obtain rfl := am_nx_inv hdo
    intro H locs rl cells slots hW hS hl hn hc hz
    exact lv_ldc2 hx hb hown (hts _ (am_ldl_ok hv)) hdg (kk H locs rl cells slots hW hS hl hn hc hz)
  · cases hdo
theorem am_k_iload (Cx : am_Cx p s m args meth c D dA b0 base X k) {n0 z0 nl pc len : Nat} {ls st : List Value} {h : am_H} {σ' : am_S} {x : Nat} (hdg : decode (am_bytes k) pc = .ok (.iload x, len)) (hlen : am_len (.iload x) = 0 ∨ len = am_len (.iload x)) (hdo : am_dl (.iload x) pc ls st h = some σ') (hR1 : σ'.2.2.2.length ≤ R.cells + n0) (hR2 : am_sz σ'.2.2.2 ≤ R.slots + z0) (hfr : am_fr k ≤ R.frames) (hlo : am_lc k ≤ R.locals) (hnl : nl = am_mxl k) (kk : am_Go p l e R s m args below meth c Q D dA b0 base n0 z0 nl σ') : am_Go p l e R s m args below meth c Q D dA b0 base n0 z0 nl (pc, ls, st, h) := by
  obtain ⟨hx, hb, hml, hown, hts, hr, hlk, hin, hK, hN, hX, hb0, hbs⟩ := Cx
  obtain rfl : len = 2 := hlen.resolve_left (fun q => absurd q (by show ¬ (2 : Nat) = 0; decide))
  simp only [am_dl] at hdo
  obtain ⟨v, hv, hf⟩ := am_gi_inv hdo
  obtain rfl := am_nl_inv hf
  intro H locs rl cells slots hW hS hl hn hc hz
  exact lv_iload hx hb hdg (hl.get hv (fun q => by cases q)) (kk H locs rl cells slots hW hS hl hn hc hz)
theorem am_k_iload_n (Cx : am_Cx p s m args meth c D dA b0 base X k) {n0 z0 nl pc len : Nat} {ls st : List Value} {h : am_H} {σ' : am_S} {x : Fin 4} (hdg : decode (am_bytes k) pc = .ok (.iload_n x, len)) (hlen : am_len (.iload_n x) = 0 ∨ len = am_len (.iload_n x)) (hdo : am_dl (.iload_n x) pc ls st h = some σ') (hR1 : σ'.2.2.2.length ≤ R.cells + n0) (hR2 : am_sz σ'.2.2.2 ≤ R.slots + z0) (hfr : am_fr k ≤ R.frames) (hlo : am_lc k ≤ R.locals) (hnl : nl = am_mxl k) (kk : am_Go p l e R s m args below meth c Q D dA b0 base n0 z0 nl σ') : am_Go p l e R s m args below meth c Q D dA b0 base n0 z0 nl (pc, ls, st, h) := by
  obtain ⟨hx, hb, hml, hown, hts, hr, hlk, hin, hK, hN, hX, hb0, hbs⟩ := Cx
  obtain rfl : len = 1 := hlen.resolve_left (fun q => absurd q (by show ¬ (1 : Nat) = 0; decide))
  simp only [am_dl] at hdo
  obtain ⟨v, hv, hf⟩ := am_gi_inv hdo
  obtain rfl := am_nl_inv hf
  intro H locs rl cells slots hW hS hl hn hc hz
  exact lv_iload_n hx hb hdg rfl (hl.get hv (fun q => by cases q)) (kk H locs rl cells slots hW hS hl hn hc hz)
theorem am_k_lload (Cx : am_Cx p s m args meth c D dA b0 base X k) {n0 z0 nl pc len : Nat} {ls st : List Value} {h : am_H} {σ' : am_S} {x : Nat} (hdg : decode (am_bytes k) pc = .ok (.lload x, len)) (hlen : am_len (.lload x) = 0 ∨ len = am_len (.lload x)) (hdo : am_dl (.lload x) pc ls st h = some σ') (hR1 : σ'.2.2.2.length ≤ R.cells + n0) (hR2 : am_sz σ'.2.2.2 ≤ R.slots + z0) (hfr : am_fr k ≤ R.frames) (hlo : am_lc k ≤ R.locals) (hnl : nl = am_mxl k) (kk : am_Go p l e R s m args below meth c Q D dA b0 base n0 z0 nl σ') : am_Go p l e R s m args below meth c Q D dA b0 base n0 z0 nl (pc, ls, st, h) := by
  obtain ⟨hx, hb, hml, hown, hts, hr, hlk, hin, hK, hN, hX, hb0, hbs⟩ := Cx
  obtain rfl : len = 2 := hlen.resolve_left (fun q => absurd q (by show ¬ (2 : Nat) = 0; decide))
  simp only [am_dl] at hdo
  obtain ⟨v, hv, hf⟩ := am_gl_inv hdo
  obtain rfl := am_nl_inv hf
  intro H locs rl cells slots hW hS hl hn hc hz
  exact lv_lload hx hb hdg (hl.get hv (fun q => by cases q)) (kk H locs rl cells slots hW hS hl hn hc hz)
theorem am_k_lload_n (Cx : am_Cx p s m args meth c D dA b0 base X k) {n0 z0 nl pc len : Nat} {ls st : List Value} {h : am_H} {σ' : am_S} {x : Fin 4} (hdg : decode (am_bytes k) pc = .ok (.lload_n x, len)) (hlen : am_len (.lload_n x) = 0 ∨ len = am_len (.lload_n x)) (hdo : am_dl (.lload_n x) pc ls st h = some σ') (hR1 : σ'.2.2.2.length ≤ R.cells + n0) (hR2 : am_sz σ'.2.2.2 ≤ R.slots + z0) (hfr : am_fr k ≤ R.frames) (hlo : am_lc k ≤ R.locals) (hnl : nl = am_mxl k) (kk : am_Go p l e R s m args below meth c Q D dA b0 base n0 z0 nl σ') : am_Go p l e R s m args below meth c Q D dA b0 base n0 z0 nl (pc, ls, st, h) := by
  obtain ⟨hx, hb, hml, hown, hts, hr, hlk, hin, hK, hN, hX, hb0, hbs⟩ := Cx
  obtain rfl : len = 1 := hlen.resolve_left (fun q => absurd q (by show ¬ (1 : Nat) = 0; decide))
  simp only [am_dl] at hdo
  obtain ⟨v, hv, hf⟩ := am_gl_inv hdo
  obtain rfl := am_nl_inv hf
  intro H locs rl cells slots hW hS hl hn hc hz
  exact lv_lload_n hx hb hdg rfl (hl.get hv (fun q => by cases q)) (kk H locs rl cells slots hW hS hl hn hc hz)
theorem am_k_aload (Cx : am_Cx p s m args meth c D dA b0 base X k) {n0 z0 nl pc len : Nat} {ls st : List Value} {h : am_H} {σ' : am_S} {x : Nat} (hdg : decode (am_bytes k) pc = .ok (.aload x, len)) (hlen : am_len (.aload x) = 0 ∨ len = am_len (.aload x)) (hdo : am_dl (.aload x) pc ls st h = some σ') (hR1 : σ'.2.2.2.length ≤ R.cells + n0) (hR2 : am_sz σ'.2.2.2 ≤ R.slots + z0) (hfr : am_fr k ≤ R.frames) (hlo : am_lc k ≤ R.locals) (hnl : nl = am_mxl k) (kk : am_Go p l e R s m args below meth c Q D dA b0 base n0 z0 nl σ') : am_Go p l e R s m args below meth c Q D dA b0 base n0 z0 nl (pc, ls, st, h) := by
  obtain ⟨hx, hb, hml, hown, hts, hr, hlk, hin, hK, hN, hX, hb0, hbs⟩ := Cx
  obtain rfl : len = 2 := hlen.resolve_left (fun q => absurd q (by show ¬ (2 : Nat) = 0; decide))
  simp only [am_dl] at hdo
  obtain ⟨v, hv, hk, hf⟩ := am_ga_inv hdo
  obtain rfl := am_nl_inv hf
  intro H locs rl cells slots hW hS hl hn hc hz
  rcases hk with ⟨a, rfl⟩ | rfl
  · exact lv_aload hx hb hdg (hl.get hv (fun q => by cases q)) (kk H locs rl cells slots hW hS hl hn hc hz)
  · exact lv_aload hx hb hdg (hl.get hv (fun q => by cases q)) (kk H locs rl cells slots hW hS hl hn hc hz)
theorem am_k_aload_n (Cx : am_Cx p s m args meth c D dA b0 base X k) {n0 z0 nl pc len : Nat} {ls st : List Value} {h : am_H} {σ' : am_S} {x : Fin 4} (hdg : decode (am_bytes k) pc = .ok (.aload_n x, len)) (hlen : am_len (.aload_n x) = 0 ∨ len = am_len (.aload_n x)) (hdo : am_dl (.aload_n x) pc ls st h = some σ') (hR1 : σ'.2.2.2.length ≤ R.cells + n0) (hR2 : am_sz σ'.2.2.2 ≤ R.slots + z0) (hfr : am_fr k ≤ R.frames) (hlo : am_lc k ≤ R.locals) (hnl : nl = am_mxl k) (kk : am_Go p l e R s m args below meth c Q D dA b0 base n0 z0 nl σ') : am_Go p l e R s m args below meth c Q D dA b0 base n0 z0 nl (pc, ls, st, h) := by
  obtain ⟨hx, hb, hml, hown, hts, hr, hlk, hin, hK, hN, hX, hb0, hbs⟩ := Cx
  obtain rfl : len = 1 := hlen.resolve_left (fun q => absurd q (by show ¬ (1 : Nat) = 0; decide))
  simp only [am_dl] at hdo
  obtain ⟨v, hv, hk, hf⟩ := am_ga_inv hdo
  obtain rfl := am_nl_inv hf
  intro H locs rl cells slots hW hS hl hn hc hz
  rcases hk with ⟨a, rfl⟩ | rfl
  · exact lv_aload_n hx hb hdg rfl (hl.get hv (fun q => by cases q)) (kk H locs rl cells slots hW hS hl hn hc hz)
  · exact lv_aload_n hx hb hdg rfl (hl.get hv (fun q => by cases q)) (kk H locs rl cells slots hW hS hl hn hc hz)
theorem am_k_istore (Cx : am_Cx p s m args meth c D dA b0 base X k) {n0 z0 nl pc len : Nat} {ls st : List Value} {h : am_H} {σ' : am_S} {x : Nat} (hdg : decode (am_bytes k) pc = .ok (.istore x, len)) (hlen : am_len (.istore x) = 0 ∨ len = am_len (.istore x)) (hdo : am_dl (.istore x) pc ls st h = some σ') (hR1 : σ'.2.2.2.length ≤ R.cells + n0) (hR2 : am_sz σ'.2.2.2 ≤ R.slots + z0) (hfr : am_fr k ≤ R.frames) (hlo : am_lc k ≤ R.locals) (hnl : nl = am_mxl k) (kk : am_Go p l e R s m args below meth c Q D dA b0 base n0 z0 nl σ') : am_Go p l e R s m args below meth c Q D dA b0 base n0 z0 nl (pc, ls, st, h) := by
  obtain ⟨hx, hb, hml, hown, hts, hr, hlk, hin, hK, hN, hX, hb0, hbs⟩ := Cx
  obtain rfl : len = 2 := hlen.resolve_left (fun q => absurd q (by show ¬ (2 : Nat) = 0; decide))
  simp only [am_dl] at hdo
  obtain ⟨v, r, rfl, hf⟩ := am_i1_inv hdo
  by_cases hxl : (x : Nat) < ls.length
  · rw [if_pos hxl] at hf
    obtain rfl := am_nl_inv hf
    intro H locs rl cells slots hW hS hl hn hc hz
    obtain ⟨lv, hl1, hl2⟩ := hl
    exact lv_istore hx hb hdg hl1 hxl rfl (fun rl' hl' => kk H locs rl' cells slots hW hS (am_L.p1 (v := .int v) hl2 hxl hl') ((am_p1_len _ _ _).trans hn) hc hz)
  · rw [if_neg hxl] at hf
    cases hf
theorem am_k_istore_n (Cx : am_Cx p s m args meth c D dA b0 base X k) {n0 z0 nl pc len : Nat} {ls st : List Value} {h : am_H} {σ' : am_S} {x : Fin 4} (hdg : decode (am_bytes k) pc = .ok (.istore_n x, len)) (hlen : am_len (.istore_n x) = 0 ∨ len = am_len (.istore_n x)) (hdo : am_dl (.istore_n x) pc ls st h = some σ') (hR1 : σ'.2.2.2.length ≤ R.cells + n0) (hR2 : am_sz σ'.2.2.2 ≤ R.slots + z0) (hfr : am_fr k ≤ R.frames) (hlo : am_lc k ≤ R.locals) (hnl : nl = am_mxl k) (kk : am_Go p l e R s m args below meth c Q D dA b0 base n0 z0 nl σ') : am_Go p l e R s m args below meth c Q D dA b0 base n0 z0 nl (pc, ls, st, h) := by
  obtain ⟨hx, hb, hml, hown, hts, hr, hlk, hin, hK, hN, hX, hb0, hbs⟩ := Cx
  obtain rfl : len = 1 := hlen.resolve_left (fun q => absurd q (by show ¬ (1 : Nat) = 0; decide))
  simp only [am_dl] at hdo
  obtain ⟨v, r, rfl, hf⟩ := am_i1_inv hdo
  by_cases hxl : (x : Nat) < ls.length
  · rw [if_pos hxl] at hf
    obtain rfl := am_nl_inv hf
    intro H locs rl cells slots hW hS hl hn hc hz
    obtain ⟨lv, hl1, hl2⟩ := hl
    exact lv_istore_n hx hb hdg rfl hl1 hxl rfl (fun rl' hl' => kk H locs rl' cells slots hW hS (am_L.p1 (v := .int v) hl2 hxl hl') ((am_p1_len _ _ _).trans hn) hc hz)
  · rw [if_neg hxl] at hf
    cases hf
theorem am_k_lstore (Cx : am_Cx p s m args meth c D dA b0 base X k) {n0 z0 nl pc len : Nat} {ls st : List Value} {h : am_H} {σ' : am_S} {x : Nat} (hdg : decode (am_bytes k) pc = .ok (.lstore x, len)) (hlen : am_len (.lstore x) = 0 ∨ len = am_len (.lstore x)) (hdo : am_dl (.lstore x) pc ls st h = some σ') (hR1 : σ'.2.2.2.length ≤ R.cells + n0) (hR2 : am_sz σ'.2.2.2 ≤ R.slots + z0) (hfr : am_fr k ≤ R.frames) (hlo : am_lc k ≤ R.locals) (hnl : nl = am_mxl k) (kk : am_Go p l e R s m args below meth c Q D dA b0 base n0 z0 nl σ') : am_Go p l e R s m args below meth c Q D dA b0 base n0 z0 nl (pc, ls, st, h) := by
  obtain ⟨hx, hb, hml, hown, hts, hr, hlk, hin, hK, hN, hX, hb0, hbs⟩ := Cx
  obtain rfl : len = 2 := hlen.resolve_left (fun q => absurd q (by show ¬ (2 : Nat) = 0; decide))
  simp only [am_dl] at hdo
  obtain ⟨v, r, rfl, hf⟩ := am_l1_inv hdo
  by_cases hxl : (x : Nat) + 1 < ls.length
  · rw [if_pos hxl] at hf
    obtain rfl := am_nl_inv hf
    intro H locs rl cells slots hW hS hl hn hc hz
    obtain ⟨lv, hl1, hl2⟩ := hl
    exact lv_lstore hx hb hdg hl1 hxl rfl (fun rl' hl' => kk H locs rl' cells slots hW hS (am_L.p2 (v := .long v) hl2 hxl hl') ((am_p2_len _ _ _).trans hn) hc hz)
  · rw [if_neg hxl] at hf
    cases hf
theorem am_k_lstore_n (Cx : am_Cx p s m args meth c D dA b0 base X k) {n0 z0 nl pc len : Nat} {ls st : List Value} {h : am_H} {σ' : am_S} {x : Fin 4} (hdg : decode (am_bytes k) pc = .ok (.lstore_n x, len)) (hlen : am_len (.lstore_n x) = 0 ∨ len = am_len (.lstore_n x)) (hdo : am_dl (.lstore_n x) pc ls st h = some σ') (hR1 : σ'.2.2.2.length ≤ R.cells + n0) (hR2 : am_sz σ'.2.2.2 ≤ R.slots + z0) (hfr : am_fr k ≤ R.frames) (hlo : am_lc k ≤ R.locals) (hnl : nl = am_mxl k) (kk : am_Go p l e R s m args below meth c Q D dA b0 base n0 z0 nl σ') : am_Go p l e R s m args below meth c Q D dA b0 base n0 z0 nl (pc, ls, st, h) := by
  obtain ⟨hx, hb, hml, hown, hts, hr, hlk, hin, hK, hN, hX, hb0, hbs⟩ := Cx
  obtain rfl : len = 1 := hlen.resolve_left (fun q => absurd q (by show ¬ (1 : Nat) = 0; decide))
  simp only [am_dl] at hdo
  obtain ⟨v, r, rfl, hf⟩ := am_l1_inv hdo
  by_cases hxl : (x : Nat) + 1 < ls.length
  · rw [if_pos hxl] at hf
    obtain rfl := am_nl_inv hf
    intro H locs rl cells slots hW hS hl hn hc hz
    obtain ⟨lv, hl1, hl2⟩ := hl
    exact lv_lstore_n hx hb hdg rfl hl1 hxl rfl (fun rl' hl' => kk H locs rl' cells slots hW hS (am_L.p2 (v := .long v) hl2 hxl hl') ((am_p2_len _ _ _).trans hn) hc hz)
  · rw [if_neg hxl] at hf
    cases hf
theorem am_k_astore (Cx : am_Cx p s m args meth c D dA b0 base X k) {n0 z0 nl pc len : Nat} {ls st : List Value} {h : am_H} {σ' : am_S} {x : Nat} (hdg : decode (am_bytes k) pc = .ok (.astore x, len)) (hlen : am_len (.astore x) = 0 ∨ len = am_len (.astore x)) (hdo : am_dl (.astore x) pc ls st h = some σ') (hR1 : σ'.2.2.2.length ≤ R.cells + n0) (hR2 : am_sz σ'.2.2.2 ≤ R.slots + z0) (hfr : am_fr k ≤ R.frames) (hlo : am_lc k ≤ R.locals) (hnl : nl = am_mxl k) (kk : am_Go p l e R s m args below meth c Q D dA b0 base n0 z0 nl σ') : am_Go p l e R s m args below meth c Q D dA b0 base n0 z0 nl (pc, ls, st, h) := by
  obtain ⟨hx, hb, hml, hown, hts, hr, hlk, hin, hK, hN, hX, hb0, hbs⟩ := Cx
  obtain rfl : len = 2 := hlen.resolve_left (fun q => absurd q (by show ¬ (2 : Nat) = 0; decide))
  simp only [am_dl] at hdo
  obtain ⟨v, r, rfl, hf⟩ := am_r1_inv hdo
  by_cases hxl : (x : Nat) < ls.length
  · rw [if_pos hxl] at hf
    obtain rfl := am_nl_inv hf
    intro H locs rl cells slots hW hS hl hn hc hz
    obtain ⟨lv, hl1, hl2⟩ := hl
    exact lv_astore hx hb hdg hl1 hxl rfl (fun rl' hl' => kk H locs rl' cells slots hW hS (am_L.p1 (v := .ref v) hl2 hxl hl') ((am_p1_len _ _ _).trans hn) hc hz)
  · rw [if_neg hxl] at hf
    cases hf
theorem am_k_astore_n (Cx : am_Cx p s m args meth c D dA b0 base X k) {n0 z0 nl pc len : Nat} {ls st : List Value} {h : am_H} {σ' : am_S} {x : Fin 4} (hdg : decode (am_bytes k) pc = .ok (.astore_n x, len)) (hlen : am_len (.astore_n x) = 0 ∨ len = am_len (.astore_n x)) (hdo : am_dl (.astore_n x) pc ls st h = some σ') (hR1 : σ'.2.2.2.length ≤ R.cells + n0) (hR2 : am_sz σ'.2.2.2 ≤ R.slots + z0) (hfr : am_fr k ≤ R.frames) (hlo : am_lc k ≤ R.locals) (hnl : nl = am_mxl k) (kk : am_Go p l e R s m args below meth c Q D dA b0 base n0 z0 nl σ') : am_Go p l e R s m args below meth c Q D dA b0 base n0 z0 nl (pc, ls, st, h) := by
  obtain ⟨hx, hb, hml, hown, hts, hr, hlk, hin, hK, hN, hX, hb0, hbs⟩ := Cx
  obtain rfl : len = 1 := hlen.resolve_left (fun q => absurd q (by show ¬ (1 : Nat) = 0; decide))
  simp only [am_dl] at hdo
  obtain ⟨v, r, rfl, hf⟩ := am_r1_inv hdo
  by_cases hxl : (x : Nat) < ls.length
  · rw [if_pos hxl] at hf
    obtain rfl := am_nl_inv hf
    intro H locs rl cells slots hW hS hl hn hc hz
    obtain ⟨lv, hl1, hl2⟩ := hl
    exact lv_astore_n hx hb hdg rfl hl1 hxl rfl (fun rl' hl' => kk H locs rl' cells slots hW hS (am_L.p1 (v := .ref v) hl2 hxl hl') ((am_p1_len _ _ _).trans hn) hc hz)
  · rw [if_neg hxl] at hf
    cases hf
theorem am_k_iinc (Cx : am_Cx p s m args meth c D dA b0 base X k) {n0 z0 nl pc len : Nat} {ls st : List Value} {h : am_H} {σ' : am_S} {x : Nat} {n : Int} (hdg : decode (am_bytes k) pc = .ok (.iinc x n, len)) (hlen : am_len (.iinc x n) = 0 ∨ len = am_len (.iinc x n)) (hdo : am_dl (.iinc x n) pc ls st h = some σ') (hR1 : σ'.2.2.2.length ≤ R.cells + n0) (hR2 : am_sz σ'.2.2.2 ≤ R.slots + z0) (hfr : am_fr k ≤ R.frames) (hlo : am_lc k ≤ R.locals) (hnl : nl = am_mxl k) (kk : am_Go p l e R s m args below meth c Q D dA b0 base n0 z0 nl σ') : am_Go p l e R s m args below meth c Q D dA b0 base n0 z0 nl (pc, ls, st, h) := by
  obtain ⟨hx, hb, hml, hown, hts, hr, hlk, hin, hK, hN, hX, hb0, hbs⟩ := Cx
  obtain rfl : len = 3 := hlen.resolve_left (fun q => absurd q (by show ¬ (3 : Nat) = 0; decide))
  simp only [am_dl] at hdo
  obtain ⟨v, hv, hf⟩ := am_gi_inv hdo
  obtain rfl := am_nl_inv hf
  intro H locs rl cells slots hW hS hl hn hc hz
  obtain ⟨lv, hl1, hl2⟩ := hl
  have hxl : x < ls.length := (List.getElem?_eq_some_iff.mp hv).1
  obtain ⟨q, hq⟩ := List.getElem?_of_mem (hl2 x _ hv (fun q => by cases q))
  exact lv_iinc hx hb hdg hl1 hq rfl hxl rfl (fun rl' hl' => kk H locs rl' cells slots hW hS (am_L.p1 (v := .int (v + Int32.ofInt n)) hl2 hxl hl') ((am_p1_len _ _ _).trans hn) hc hz)
theorem am_k_dup (Cx : am_Cx p s m args meth c D dA b0 base X k) {n0 z0 nl pc len : Nat} {ls st : List Value} {h : am_H} {σ' : am_P} (hdg : decode (am_bytes k) pc = .ok (.dup, len)) (hlen : am_len (.dup) = 0 ∨ len = am_len (.dup)) (hdo : am_dp X k (.dup) pc st h = some σ') (hR1 : σ'.2.2.length ≤ R.cells + n0) (hR2 : am_sz σ'.2.2 ≤ R.slots + z0) (hfr : am_fr k ≤ R.frames) (hlo : am_lc k ≤ R.locals) (hnl : nl = am_mxl k) (kk : am_Go p l e R s m args below meth c Q D dA b0 base n0 z0 nl (σ'.1, ls, σ'.2.1, σ'.2.2)) : am_Go p l e R s m args below meth c Q D dA b0 base n0 z0 nl (pc, ls, st, h) := by
  obtain ⟨hx, hb, hml, hown, hts, hr, hlk, hin, hK, hN, hX, hb0, hbs⟩ := Cx
  obtain rfl : len = 1 := hlen.resolve_left (fun q => absurd q (by show ¬ (1 : Nat) = 0; decide))
  simp only [am_dp] at hdo
  split at hdo
  · rename_i v r
    by_cases h1 : v.category = 1
    · rw [if_pos h1] at hdo
      obtain rfl := am_nx_inv hdo
      intro H locs rl cells slots hW hS hl hn hc hz
      exact lv_dup hx hb hdg (by rw [am_v_cat]; exact h1) (kk H locs rl cells slots hW hS hl hn hc hz)
    · rw [if_neg h1] at hdo
      cases hdo
  · cases hdo
theorem am_k_dup_x1 (Cx : am_Cx p s m args meth c D dA b0 base X k) {n0 z0 nl pc len : Nat} {ls st : List Value} {h : am_H} {σ' : am_P} (hdg : decode (am_bytes k) pc = .ok (.dup_x1, len)) (hlen : am_len (.dup_x1) = 0 ∨ len = am_len (.dup_x1)) (hdo : am_dp X k (.dup_x1) pc st h = some σ') (hR1 : σ'.2.2.length ≤ R.cells + n0) (hR2 : am_sz σ'.2.2 ≤ R.slots + z0) (hfr : am_fr k ≤ R.frames) (hlo : am_lc k ≤ R.locals) (hnl : nl = am_mxl k) (kk : am_Go p l e R s m args below meth c Q D dA b0 base n0 z0 nl (σ'.1, ls, σ'.2.1, σ'.2.2)) : am_Go p l e R s m args below meth c Q D dA b0 base n0 z0 nl (pc, ls, st, h) := by
  obtain ⟨hx, hb, hml, hown, hts, hr, hlk, hin, hK, hN, hX, hb0, hbs⟩ := Cx
  obtain rfl : len = 1 := hlen.resolve_left (fun q => absurd q (by show ¬ (1 : Nat) = 0; decide))
  simp only [am_dp] at hdo
  split at hdo
  · rename_i v w r
    by_cases h1 : v.category = 1 ∧ w.category = 1
    · rw [if_pos h1] at hdo
      obtain rfl := am_nx_inv hdo
      intro H locs rl cells slots hW hS hl hn hc hz
      exact lv_dup_x1 hx hb hdg (by rw [am_v_cat]; exact h1.1) (by rw [am_v_cat]; exact h1.2) (kk H locs rl cells slots hW hS hl hn hc hz)
    · rw [if_neg h1] at hdo
      cases hdo
  · cases hdo
theorem am_k_dup_x2 (Cx : am_Cx p s m args meth c D dA b0 base X k) {n0 z0 nl pc len : Nat} {ls st : List Value} {h : am_H} {σ' : am_P} (hdg : decode (am_bytes k) pc = .ok (.dup_x2, len)) (hlen : am_len (.dup_x2) = 0 ∨ len = am_len (.dup_x2)) (hdo : am_dp X k (.dup_x2) pc st h = some σ') (hR1 : σ'.2.2.length ≤ R.cells + n0) (hR2 : am_sz σ'.2.2 ≤ R.slots + z0) (hfr : am_fr k ≤ R.frames) (hlo : am_lc k ≤ R.locals) (hnl : nl = am_mxl k) (kk : am_Go p l e R s m args below meth c Q D dA b0 base n0 z0 nl (σ'.1, ls, σ'.2.1, σ'.2.2)) : am_Go p l e R s m args below meth c Q D dA b0 base n0 z0 nl (pc, ls, st, h) := by
  obtain ⟨hx, hb, hml, hown, hts, hr, hlk, hin, hK, hN, hX, hb0, hbs⟩ := Cx
  obtain rfl : len = 1 := hlen.resolve_left (fun q => absurd q (by show ¬ (1 : Nat) = 0; decide))
  simp only [am_dp] at hdo
  split at hdo
  · rename_i v w u r
    by_cases h1 : v.category = 1 ∧ w.category = 1 ∧ u.category = 1
    · rw [if_pos h1] at hdo
      obtain rfl := am_nx_inv hdo
      intro H locs rl cells slots hW hS hl hn hc hz
      exact lv_dup_x2 hx hb hdg (by rw [am_v_cat]; exact h1.1) (by rw [am_v_cat]; exact h1.2.1) (by rw [am_v_cat]; exact h1.2.2) (kk H locs rl cells slots hW hS hl hn hc hz)
    · rw [if_neg h1] at hdo
      cases hdo
  · cases hdo
theorem am_k_dup2 (Cx : am_Cx p s m args meth c D dA b0 base X k) {n0 z0 nl pc len : Nat} {ls st : List Value} {h : am_H} {σ' : am_P} (hdg : decode (am_bytes k) pc = .ok (.dup2, len)) (hlen : am_len (.dup2) = 0 ∨ len = am_len (.dup2)) (hdo : am_dp X k (.dup2) pc st h = some σ') (hR1 : σ'.2.2.length ≤ R.cells + n0) (hR2 : am_sz σ'.2.2 ≤ R.slots + z0) (hfr : am_fr k ≤ R.frames) (hlo : am_lc k ≤ R.locals) (hnl : nl = am_mxl k) (kk : am_Go p l e R s m args below meth c Q D dA b0 base n0 z0 nl (σ'.1, ls, σ'.2.1, σ'.2.2)) : am_Go p l e R s m args below meth c Q D dA b0 base n0 z0 nl (pc, ls, st, h) := by
  obtain ⟨hx, hb, hml, hown, hts, hr, hlk, hin, hK, hN, hX, hb0, hbs⟩ := Cx
  obtain rfl : len = 1 := hlen.resolve_left (fun q => absurd q (by show ¬ (1 : Nat) = 0; decide))
  simp only [am_dp] at hdo
  split at hdo
  · obtain rfl := am_nx_inv hdo
    intro H locs rl cells slots hW hS hl hn hc hz
    exact lv_dup2_2 hx hb hdg rfl (kk H locs rl cells slots hW hS hl hn hc hz)
  · rename_i v w r hne
    by_cases h1 : v.category = 1 ∧ w.category = 1
    · rw [if_pos h1] at hdo
      obtain rfl := am_nx_inv hdo
      intro H locs rl cells slots hW hS hl hn hc hz
      exact lv_dup2_11 hx hb hdg (by rw [am_v_cat]; exact h1.1) (by rw [am_v_cat]; exact h1.2) (kk H locs rl cells slots hW hS hl hn hc hz)
    · rw [if_neg h1] at hdo
      cases hdo
  · cases hdo
theorem am_k_dup2_x1 (Cx : am_Cx p s m args meth c D dA b0 base X k) {n0 z0 nl pc len : Nat} {ls st : List Value} {h : am_H} {σ' : am_P} (hdg : decode (am_bytes k) pc = .ok (.dup2_x1, len)) (hlen : am_len (.dup2_x1) = 0 ∨ len = am_len (.dup2_x1)) (hdo : am_dp X k (.dup2_x1) pc st h = some σ') (hR1 : σ'.2.2.length ≤ R.cells + n0) (hR2 : am_sz σ'.2.2 ≤ R.slots + z0) (hfr : am_fr k ≤ R.frames) (hlo : am_lc k ≤ R.locals) (hnl : nl = am_mxl k) (kk : am_Go p l e R s m args below meth c Q D dA b0 base n0 z0 nl (σ'.1, ls, σ'.2.1, σ'.2.2)) : am_Go p l e R s m args below meth c Q D dA b0 base n0 z0 nl (pc, ls, st, h) := by
  obtain ⟨hx, hb, hml, hown, hts, hr, hlk, hin, hK, hN, hX, hb0, hbs⟩ := Cx
  obtain rfl : len = 1 := hlen.resolve_left (fun q => absurd q (by show ¬ (1 : Nat) = 0; decide))
  simp only [am_dp] at hdo
  split at hdo
  · rename_i x w r
    by_cases h1 : w.category = 1
    · rw [if_pos h1] at hdo
      obtain rfl := am_nx_inv hdo
      intro H locs rl cells slots hW hS hl hn hc hz
      exact lv_dup2_x1_2 (va := .long x) hx hb hdg rfl (by rw [am_v_cat]; exact h1) (kk H locs rl cells slots hW hS hl hn hc hz)
    · rw [if_neg h1] at hdo
      cases hdo
  · cases hdo
theorem am_k_dup2_x2 (Cx : am_Cx p s m args meth c D dA b0 base X k) {n0 z0 nl pc len : Nat} {ls st : List Value} {h : am_H} {σ' : am_P} (hdg : decode (am_bytes k) pc = .ok (.dup2_x2, len)) (hlen : am_len (.dup2_x2) = 0 ∨ len = am_len (.dup2_x2)) (hdo : am_dp X k (.dup2_x2) pc st h = some σ') (hR1 : σ'.2.2.length ≤ R.cells + n0) (hR2 : am_sz σ'.2.2 ≤ R.slots + z0) (hfr : am_fr k ≤ R.frames) (hlo : am_lc k ≤ R.locals) (hnl : nl = am_mxl k) (kk : am_Go p l e R s m args below meth c Q D dA b0 base n0 z0 nl (σ'.1, ls, σ'.2.1, σ'.2.2)) : am_Go p l e R s m args below meth c Q D dA b0 base n0 z0 nl (pc, ls, st, h) := by
  obtain ⟨hx, hb, hml, hown, hts, hr, hlk, hin, hK, hN, hX, hb0, hbs⟩ := Cx
  obtain rfl : len = 1 := hlen.resolve_left (fun q => absurd q (by show ¬ (1 : Nat) = 0; decide))
  simp only [am_dp] at hdo
  split at hdo
  · rename_i x w u r
    by_cases h1 : w.category = 1 ∧ u.category = 1
    · rw [if_pos h1] at hdo
      obtain rfl := am_nx_inv hdo
      intro H locs rl cells slots hW hS hl hn hc hz
      exact lv_dup2_x2_2 (va := .long x) hx hb hdg rfl (by rw [am_v_cat]; exact h1.1) (by rw [am_v_cat]; exact h1.2) (kk H locs rl cells slots hW hS hl hn hc hz)
    · rw [if_neg h1] at hdo
      cases hdo
  · cases hdo
theorem am_k_pop (Cx : am_Cx p s m args meth c D dA b0 base X k) {n0 z0 nl pc len : Nat} {ls st : List Value} {h : am_H} {σ' : am_P} (hdg : decode (am_bytes k) pc = .ok (.pop, len)) (hlen : am_len (.pop) = 0 ∨ len = am_len (.pop)) (hdo : am_dp X k (.pop) pc st h = some σ') (hR1 : σ'.2.2.length ≤ R.cells + n0) (hR2 : am_sz σ'.2.2 ≤ R.slots + z0) (hfr : am_fr k ≤ R.frames) (hlo : am_lc k ≤ R.locals) (hnl : nl = am_mxl k) (kk : am_Go p l e R s m args below meth c Q D dA b0 base n0 z0 nl (σ'.1, ls, σ'.2.1, σ'.2.2)) : am_Go p l e R s m args below meth c Q D dA b0 base n0 z0 nl (pc, ls, st, h) := by
  obtain ⟨hx, hb, hml, hown, hts, hr, hlk, hin, hK, hN, hX, hb0, hbs⟩ := Cx
  obtain rfl : len = 1 := hlen.resolve_left (fun q => absurd q (by show ¬ (1 : Nat) = 0; decide))
  simp only [am_dp] at hdo
  split at hdo
  · rename_i v r
    by_cases h1 : v.category = 1
    · rw [if_pos h1] at hdo
      obtain rfl := am_nx_inv hdo
      intro H locs rl cells slots hW hS hl hn hc hz
      exact lv_pop hx hb hdg (by rw [am_v_cat]; exact h1) (kk H locs rl cells slots hW hS hl hn hc hz)
    · rw [if_neg h1] at hdo
      cases hdo
  · cases hdo
theorem am_k_pop2 (Cx : am_Cx p s m args meth c D dA b0 base X k) {n0 z0 nl pc len : Nat} {ls st : List Value} {h : am_H} {σ' : am_P} (hdg : decode (am_bytes k) pc = .ok (.pop2, len)) (hlen : am_len (.pop2) = 0 ∨ len = am_len (.pop2)) (hdo : am_dp X k (.pop2) pc st h = some σ') (hR1 : σ'.2.2.length ≤ R.cells + n0) (hR2 : am_sz σ'.2.2 ≤ R.slots + z0) (hfr : am_fr k ≤ R.frames) (hlo : am_lc k ≤ R.locals) (hnl : nl = am_mxl k) (kk : am_Go p l e R s m args below meth c Q D dA b0 base n0 z0 nl (σ'.1, ls, σ'.2.1, σ'.2.2)) : am_Go p l e R s m args below meth c Q D dA b0 base n0 z0 nl (pc, ls, st, h) := by
  obtain ⟨hx, hb, hml, hown, hts, hr, hlk, hin, hK, hN, hX, hb0, hbs⟩ := Cx
  obtain rfl : len = 1 := hlen.resolve_left (fun q => absurd q (by show ¬ (1 : Nat) = 0; decide))
  simp only [am_dp] at hdo
  split at hdo
  · rename_i x r
    obtain rfl := am_nx_inv hdo
    intro H locs rl cells slots hW hS hl hn hc hz
    exact lv_pop2_2 (va := .long x) hx hb hdg rfl (kk H locs rl cells slots hW hS hl hn hc hz)
  · cases hdo
theorem am_k_iadd (Cx : am_Cx p s m args meth c D dA b0 base X k) {n0 z0 nl pc len : Nat} {ls st : List Value} {h : am_H} {σ' : am_P} (hdg : decode (am_bytes k) pc = .ok (.iadd, len)) (hlen : am_len (.iadd) = 0 ∨ len = am_len (.iadd)) (hdo : am_dp X k (.iadd) pc st h = some σ') (hR1 : σ'.2.2.length ≤ R.cells + n0) (hR2 : am_sz σ'.2.2 ≤ R.slots + z0) (hfr : am_fr k ≤ R.frames) (hlo : am_lc k ≤ R.locals) (hnl : nl = am_mxl k) (kk : am_Go p l e R s m args below meth c Q D dA b0 base n0 z0 nl (σ'.1, ls, σ'.2.1, σ'.2.2)) : am_Go p l e R s m args below meth c Q D dA b0 base n0 z0 nl (pc, ls, st, h) := by
  obtain ⟨hx, hb, hml, hown, hts, hr, hlk, hin, hK, hN, hX, hb0, hbs⟩ := Cx
  obtain rfl : len = 1 := hlen.resolve_left (fun q => absurd q (by show ¬ (1 : Nat) = 0; decide))
  simp only [am_dp] at hdo
  obtain ⟨x, y, r, rfl, hf⟩ := am_i2_inv hdo
  obtain rfl := am_nx_inv hf
  intro H locs rl cells slots hW hS hl hn hc hz
  exact lv_iadd hx hb hdg (kk H locs rl cells slots hW hS hl hn hc hz)
theorem am_k_isub (Cx : am_Cx p s m args meth c D dA b0 base X k) {n0 z0 nl pc len : Nat} {ls st : List Value} {h : am_H} {σ' : am_P} (hdg : decode (am_bytes k) pc = .ok (.isub, len)) (hlen : am_len (.isub) = 0 ∨ len = am_len (.isub)) (hdo : am_dp X k (.isub) pc st h = some σ') (hR1 : σ'.2.2.length ≤ R.cells + n0) (hR2 : am_sz σ'.2.2 ≤ R.slots + z0) (hfr : am_fr k ≤ R.frames) (hlo : am_lc k ≤ R.locals) (hnl : nl = am_mxl k) (kk : am_Go p l e R s m args below meth c Q D dA b0 base n0 z0 nl (σ'.1, ls, σ'.2.1, σ'.2.2)) : am_Go p l e R s m args below meth c Q D dA b0 base n0 z0 nl (pc, ls, st, h) := by
  obtain ⟨hx, hb, hml, hown, hts, hr, hlk, hin, hK, hN, hX, hb0, hbs⟩ := Cx
  obtain rfl : len = 1 := hlen.resolve_left (fun q => absurd q (by show ¬ (1 : Nat) = 0; decide))
  simp only [am_dp] at hdo
  obtain ⟨x, y, r, rfl, hf⟩ := am_i2_inv hdo
  obtain rfl := am_nx_inv hf
  intro H locs rl cells slots hW hS hl hn hc hz
  exact lv_isub hx hb hdg (kk H locs rl cells slots hW hS hl hn hc hz)
theorem am_k_imul (Cx : am_Cx p s m args meth c D dA b0 base X k) {n0 z0 nl pc len : Nat} {ls st : List Value} {h : am_H} {σ' : am_P} (hdg : decode (am_bytes k) pc = .ok (.imul, len)) (hlen : am_len (.imul) = 0 ∨ len = am_len (.imul)) (hdo : am_dp X k (.imul) pc st h = some σ') (hR1 : σ'.2.2.length ≤ R.cells + n0) (hR2 : am_sz σ'.2.2 ≤ R.slots + z0) (hfr : am_fr k ≤ R.frames) (hlo : am_lc k ≤ R.locals) (hnl : nl = am_mxl k) (kk : am_Go p l e R s m args below meth c Q D dA b0 base n0 z0 nl (σ'.1, ls, σ'.2.1, σ'.2.2)) : am_Go p l e R s m args below meth c Q D dA b0 base n0 z0 nl (pc, ls, st, h) := by
  obtain ⟨hx, hb, hml, hown, hts, hr, hlk, hin, hK, hN, hX, hb0, hbs⟩ := Cx
  obtain rfl : len = 1 := hlen.resolve_left (fun q => absurd q (by show ¬ (1 : Nat) = 0; decide))
  simp only [am_dp] at hdo
  obtain ⟨x, y, r, rfl, hf⟩ := am_i2_inv hdo
  obtain rfl := am_nx_inv hf
  intro H locs rl cells slots hW hS hl hn hc hz
  exact lv_imul hx hb hdg (kk H locs rl cells slots hW hS hl hn hc hz)
theorem am_k_iand (Cx : am_Cx p s m args meth c D dA b0 base X k) {n0 z0 nl pc len : Nat} {ls st : List Value} {h : am_H} {σ' : am_P} (hdg : decode (am_bytes k) pc = .ok (.iand, len)) (hlen : am_len (.iand) = 0 ∨ len = am_len (.iand)) (hdo : am_dp X k (.iand) pc st h = some σ') (hR1 : σ'.2.2.length ≤ R.cells + n0) (hR2 : am_sz σ'.2.2 ≤ R.slots + z0) (hfr : am_fr k ≤ R.frames) (hlo : am_lc k ≤ R.locals) (hnl : nl = am_mxl k) (kk : am_Go p l e R s m args below meth c Q D dA b0 base n0 z0 nl (σ'.1, ls, σ'.2.1, σ'.2.2)) : am_Go p l e R s m args below meth c Q D dA b0 base n0 z0 nl (pc, ls, st, h) := by
  obtain ⟨hx, hb, hml, hown, hts, hr, hlk, hin, hK, hN, hX, hb0, hbs⟩ := Cx
  obtain rfl : len = 1 := hlen.resolve_left (fun q => absurd q (by show ¬ (1 : Nat) = 0; decide))
  simp only [am_dp] at hdo
  obtain ⟨x, y, r, rfl, hf⟩ := am_i2_inv hdo
  obtain rfl := am_nx_inv hf
  intro H locs rl cells slots hW hS hl hn hc hz
  exact lv_iand hx hb hdg (kk H locs rl cells slots hW hS hl hn hc hz)
theorem am_k_ior (Cx : am_Cx p s m args meth c D dA b0 base X k) {n0 z0 nl pc len : Nat} {ls st : List Value} {h : am_H} {σ' : am_P} (hdg : decode (am_bytes k) pc = .ok (.ior, len)) (hlen : am_len (.ior) = 0 ∨ len = am_len (.ior)) (hdo : am_dp X k (.ior) pc st h = some σ') (hR1 : σ'.2.2.length ≤ R.cells + n0) (hR2 : am_sz σ'.2.2 ≤ R.slots + z0) (hfr : am_fr k ≤ R.frames) (hlo : am_lc k ≤ R.locals) (hnl : nl = am_mxl k) (kk : am_Go p l e R s m args below meth c Q D dA b0 base n0 z0 nl (σ'.1, ls, σ'.2.1, σ'.2.2)) : am_Go p l e R s m args below meth c Q D dA b0 base n0 z0 nl (pc, ls, st, h) := by
  obtain ⟨hx, hb, hml, hown, hts, hr, hlk, hin, hK, hN, hX, hb0, hbs⟩ := Cx
  obtain rfl : len = 1 := hlen.resolve_left (fun q => absurd q (by show ¬ (1 : Nat) = 0; decide))
  simp only [am_dp] at hdo
  obtain ⟨x, y, r, rfl, hf⟩ := am_i2_inv hdo
  obtain rfl := am_nx_inv hf
  intro H locs rl cells slots hW hS hl hn hc hz
  exact lv_ior hx hb hdg (kk H locs rl cells slots hW hS hl hn hc hz)
theorem am_k_ixor (Cx : am_Cx p s m args meth c D dA b0 base X k) {n0 z0 nl pc len : Nat} {ls st : List Value} {h : am_H} {σ' : am_P} (hdg : decode (am_bytes k) pc = .ok (.ixor, len)) (hlen : am_len (.ixor) = 0 ∨ len = am_len (.ixor)) (hdo : am_dp X k (.ixor) pc st h = some σ') (hR1 : σ'.2.2.length ≤ R.cells + n0) (hR2 : am_sz σ'.2.2 ≤ R.slots + z0) (hfr : am_fr k ≤ R.frames) (hlo : am_lc k ≤ R.locals) (hnl : nl = am_mxl k) (kk : am_Go p l e R s m args below meth c Q D dA b0 base n0 z0 nl (σ'.1, ls, σ'.2.1, σ'.2.2)) : am_Go p l e R s m args below meth c Q D dA b0 base n0 z0 nl (pc, ls, st, h) := by
  obtain ⟨hx, hb, hml, hown, hts, hr, hlk, hin, hK, hN, hX, hb0, hbs⟩ := Cx
  obtain rfl : len = 1 := hlen.resolve_left (fun q => absurd q (by show ¬ (1 : Nat) = 0; decide))
  simp only [am_dp] at hdo
  obtain ⟨x, y, r, rfl, hf⟩ := am_i2_inv hdo
  obtain rfl := am_nx_inv hf
  intro H locs rl cells slots hW hS hl hn hc hz
  exact lv_ixor hx hb hdg (kk H locs rl cells slots hW hS hl hn hc hz)
theorem am_k_ishl (Cx : am_Cx p s m args meth c D dA b0 base X k) {n0 z0 nl pc len : Nat} {ls st : List Value} {h : am_H} {σ' : am_P} (hdg : decode (am_bytes k) pc = .ok (.ishl, len)) (hlen : am_len (.ishl) = 0 ∨ len = am_len (.ishl)) (hdo : am_dp X k (.ishl) pc st h = some σ') (hR1 : σ'.2.2.length ≤ R.cells + n0) (hR2 : am_sz σ'.2.2 ≤ R.slots + z0) (hfr : am_fr k ≤ R.frames) (hlo : am_lc k ≤ R.locals) (hnl : nl = am_mxl k) (kk : am_Go p l e R s m args below meth c Q D dA b0 base n0 z0 nl (σ'.1, ls, σ'.2.1, σ'.2.2)) : am_Go p l e R s m args below meth c Q D dA b0 base n0 z0 nl (pc, ls, st, h) := by
  obtain ⟨hx, hb, hml, hown, hts, hr, hlk, hin, hK, hN, hX, hb0, hbs⟩ := Cx
  obtain rfl : len = 1 := hlen.resolve_left (fun q => absurd q (by show ¬ (1 : Nat) = 0; decide))
  simp only [am_dp] at hdo
  obtain ⟨x, y, r, rfl, hf⟩ := am_i2_inv hdo
  obtain rfl := am_nx_inv hf
  intro H locs rl cells slots hW hS hl hn hc hz
  exact lv_ishl hx hb hdg (kk H locs rl cells slots hW hS hl hn hc hz)
theorem am_k_ishr (Cx : am_Cx p s m args meth c D dA b0 base X k) {n0 z0 nl pc len : Nat} {ls st : List Value} {h : am_H} {σ' : am_P} (hdg : decode (am_bytes k) pc = .ok (.ishr, len)) (hlen : am_len (.ishr) = 0 ∨ len = am_len (.ishr)) (hdo : am_dp X k (.ishr) pc st h = some σ') (hR1 : σ'.2.2.length ≤ R.cells + n0) (hR2 : am_sz σ'.2.2 ≤ R.slots + z0) (hfr : am_fr k ≤ R.frames) (hlo : am_lc k ≤ R.locals) (hnl : nl = am_mxl k) (kk : am_Go p l e R s m args below meth c Q D dA b0 base n0 z0 nl (σ'.1, ls, σ'.2.1, σ'.2.2)) : am_Go p l e R s m args below meth c Q D dA b0 base n0 z0 nl (pc, ls, st, h) := by
  obtain ⟨hx, hb, hml, hown, hts, hr, hlk, hin, hK, hN, hX, hb0, hbs⟩ := Cx
  obtain rfl : len = 1 := hlen.resolve_left (fun q => absurd q (by show ¬ (1 : Nat) = 0; decide))
  simp only [am_dp] at hdo
  obtain ⟨x, y, r, rfl, hf⟩ := am_i2_inv hdo
  obtain rfl := am_nx_inv hf
  intro H locs rl cells slots hW hS hl hn hc hz
  exact lv_ishr hx hb hdg (kk H locs rl cells slots hW hS hl hn hc hz)
theorem am_k_iushr (Cx : am_Cx p s m args meth c D dA b0 base X k) {n0 z0 nl pc len : Nat} {ls st : List Value} {h : am_H} {σ' : am_P} (hdg : decode (am_bytes k) pc = .ok (.iushr, len)) (hlen : am_len (.iushr) = 0 ∨ len = am_len (.iushr)) (hdo : am_dp X k (.iushr) pc st h = some σ') (hR1 : σ'.2.2.length ≤ R.cells + n0) (hR2 : am_sz σ'.2.2 ≤ R.slots + z0) (hfr : am_fr k ≤ R.frames) (hlo : am_lc k ≤ R.locals) (hnl : nl = am_mxl k) (kk : am_Go p l e R s m args below meth c Q D dA b0 base n0 z0 nl (σ'.1, ls, σ'.2.1, σ'.2.2)) : am_Go p l e R s m args below meth c Q D dA b0 base n0 z0 nl (pc, ls, st, h) := by
  obtain ⟨hx, hb, hml, hown, hts, hr, hlk, hin, hK, hN, hX, hb0, hbs⟩ := Cx
  obtain rfl : len = 1 := hlen.resolve_left (fun q => absurd q (by show ¬ (1 : Nat) = 0; decide))
  simp only [am_dp] at hdo
  obtain ⟨x, y, r, rfl, hf⟩ := am_i2_inv hdo
  obtain rfl := am_nx_inv hf
  intro H locs rl cells slots hW hS hl hn hc hz
  exact lv_iushr hx hb hdg rfl (kk H locs rl cells slots hW hS hl hn hc hz)
theorem am_k_ladd (Cx : am_Cx p s m args meth c D dA b0 base X k) {n0 z0 nl pc len : Nat} {ls st : List Value} {h : am_H} {σ' : am_P} (hdg : decode (am_bytes k) pc = .ok (.ladd, len)) (hlen : am_len (.ladd) = 0 ∨ len = am_len (.ladd)) (hdo : am_dp X k (.ladd) pc st h = some σ') (hR1 : σ'.2.2.length ≤ R.cells + n0) (hR2 : am_sz σ'.2.2 ≤ R.slots + z0) (hfr : am_fr k ≤ R.frames) (hlo : am_lc k ≤ R.locals) (hnl : nl = am_mxl k) (kk : am_Go p l e R s m args below meth c Q D dA b0 base n0 z0 nl (σ'.1, ls, σ'.2.1, σ'.2.2)) : am_Go p l e R s m args below meth c Q D dA b0 base n0 z0 nl (pc, ls, st, h) := by
  obtain ⟨hx, hb, hml, hown, hts, hr, hlk, hin, hK, hN, hX, hb0, hbs⟩ := Cx
  obtain rfl : len = 1 := hlen.resolve_left (fun q => absurd q (by show ¬ (1 : Nat) = 0; decide))
  simp only [am_dp] at hdo
  obtain ⟨x, y, r, rfl, hf⟩ := am_l2_inv hdo
  obtain rfl := am_nx_inv hf
  intro H locs rl cells slots hW hS hl hn hc hz
  exact lv_ladd hx hb hdg (kk H locs rl cells slots hW hS hl hn hc hz)
theorem am_k_lsub (Cx : am_Cx p s m args meth c D dA b0 base X k) {n0 z0 nl pc len : Nat} {ls st : List Value} {h : am_H} {σ' : am_P} (hdg : decode (am_bytes k) pc = .ok (.lsub, len)) (hlen : am_len (.lsub) = 0 ∨ len = am_len (.lsub)) (hdo : am_dp X k (.lsub) pc st h = some σ') (hR1 : σ'.2.2.length ≤ R.cells + n0) (hR2 : am_sz σ'.2.2 ≤ R.slots + z0) (hfr : am_fr k ≤ R.frames) (hlo : am_lc k ≤ R.locals) (hnl : nl = am_mxl k) (kk : am_Go p l e R s m args below meth c Q D dA b0 base n0 z0 nl (σ'.1, ls, σ'.2.1, σ'.2.2)) : am_Go p l e R s m args below meth c Q D dA b0 base n0 z0 nl (pc, ls, st, h) := by
  obtain ⟨hx, hb, hml, hown, hts, hr, hlk, hin, hK, hN, hX, hb0, hbs⟩ := Cx
  obtain rfl : len = 1 := hlen.resolve_left (fun q => absurd q (by show ¬ (1 : Nat) = 0; decide))
  simp only [am_dp] at hdo
  obtain ⟨x, y, r, rfl, hf⟩ := am_l2_inv hdo
  obtain rfl := am_nx_inv hf
  intro H locs rl cells slots hW hS hl hn hc hz
  exact lv_lsub hx hb hdg (kk H locs rl cells slots hW hS hl hn hc hz)
theorem am_k_lmul (Cx : am_Cx p s m args meth c D dA b0 base X k) {n0 z0 nl pc len : Nat} {ls st : List Value} {h : am_H} {σ' : am_P} (hdg : decode (am_bytes k) pc = .ok (.lmul, len)) (hlen : am_len (.lmul) = 0 ∨ len = am_len (.lmul)) (hdo : am_dp X k (.lmul) pc st h = some σ') (hR1 : σ'.2.2.length ≤ R.cells + n0) (hR2 : am_sz σ'.2.2 ≤ R.slots + z0) (hfr : am_fr k ≤ R.frames) (hlo : am_lc k ≤ R.locals) (hnl : nl = am_mxl k) (kk : am_Go p l e R s m args below meth c Q D dA b0 base n0 z0 nl (σ'.1, ls, σ'.2.1, σ'.2.2)) : am_Go p l e R s m args below meth c Q D dA b0 base n0 z0 nl (pc, ls, st, h) := by
  obtain ⟨hx, hb, hml, hown, hts, hr, hlk, hin, hK, hN, hX, hb0, hbs⟩ := Cx
  obtain rfl : len = 1 := hlen.resolve_left (fun q => absurd q (by show ¬ (1 : Nat) = 0; decide))
  simp only [am_dp] at hdo
  obtain ⟨x, y, r, rfl, hf⟩ := am_l2_inv hdo
  obtain rfl := am_nx_inv hf
  intro H locs rl cells slots hW hS hl hn hc hz
  exact lv_lmul hx hb hdg (kk H locs rl cells slots hW hS hl hn hc hz)
theorem am_k_land (Cx : am_Cx p s m args meth c D dA b0 base X k) {n0 z0 nl pc len : Nat} {ls st : List Value} {h : am_H} {σ' : am_P} (hdg : decode (am_bytes k) pc = .ok (.land, len)) (hlen : am_len (.land) = 0 ∨ len = am_len (.land)) (hdo : am_dp X k (.land) pc st h = some σ') (hR1 : σ'.2.2.length ≤ R.cells + n0) (hR2 : am_sz σ'.2.2 ≤ R.slots + z0) (hfr : am_fr k ≤ R.frames) (hlo : am_lc k ≤ R.locals) (hnl : nl = am_mxl k) (kk : am_Go p l e R s m args below meth c Q D dA b0 base n0 z0 nl (σ'.1, ls, σ'.2.1, σ'.2.2)) : am_Go p l e R s m args below meth c Q D dA b0 base n0 z0 nl (pc, ls, st, h) := by
  obtain ⟨hx, hb, hml, hown, hts, hr, hlk, hin, hK, hN, hX, hb0, hbs⟩ := Cx
  obtain rfl : len = 1 := hlen.resolve_left (fun q => absurd q (by show ¬ (1 : Nat) = 0; decide))
  simp only [am_dp] at hdo
  obtain ⟨x, y, r, rfl, hf⟩ := am_l2_inv hdo
  obtain rfl := am_nx_inv hf
  intro H locs rl cells slots hW hS hl hn hc hz
  exact lv_land hx hb hdg (kk H locs rl cells slots hW hS hl hn hc hz)
theorem am_k_lor (Cx : am_Cx p s m args meth c D dA b0 base X k) {n0 z0 nl pc len : Nat} {ls st : List Value} {h : am_H} {σ' : am_P} (hdg : decode (am_bytes k) pc = .ok (.lor, len)) (hlen : am_len (.lor) = 0 ∨ len = am_len (.lor)) (hdo : am_dp X k (.lor) pc st h = some σ') (hR1 : σ'.2.2.length ≤ R.cells + n0) (hR2 : am_sz σ'.2.2 ≤ R.slots + z0) (hfr : am_fr k ≤ R.frames) (hlo : am_lc k ≤ R.locals) (hnl : nl = am_mxl k) (kk : am_Go p l e R s m args below meth c Q D dA b0 base n0 z0 nl (σ'.1, ls, σ'.2.1, σ'.2.2)) : am_Go p l e R s m args below meth c Q D dA b0 base n0 z0 nl (pc, ls, st, h) := by
  obtain ⟨hx, hb, hml, hown, hts, hr, hlk, hin, hK, hN, hX, hb0, hbs⟩ := Cx
  obtain rfl : len = 1 := hlen.resolve_left (fun q => absurd q (by show ¬ (1 : Nat) = 0; decide))
  simp only [am_dp] at hdo
  obtain ⟨x, y, r, rfl, hf⟩ := am_l2_inv hdo
  obtain rfl := am_nx_inv hf
  intro H locs rl cells slots hW hS hl hn hc hz
  exact lv_lor hx hb hdg (kk H locs rl cells slots hW hS hl hn hc hz)
theorem am_k_lxor (Cx : am_Cx p s m args meth c D dA b0 base X k) {n0 z0 nl pc len : Nat} {ls st : List Value} {h : am_H} {σ' : am_P} (hdg : decode (am_bytes k) pc = .ok (.lxor, len)) (hlen : am_len (.lxor) = 0 ∨ len = am_len (.lxor)) (hdo : am_dp X k (.lxor) pc st h = some σ') (hR1 : σ'.2.2.length ≤ R.cells + n0) (hR2 : am_sz σ'.2.2 ≤ R.slots + z0) (hfr : am_fr k ≤ R.frames) (hlo : am_lc k ≤ R.locals) (hnl : nl = am_mxl k) (kk : am_Go p l e R s m args below meth c Q D dA b0 base n0 z0 nl (σ'.1, ls, σ'.2.1, σ'.2.2)) : am_Go p l e R s m args below meth c Q D dA b0 base n0 z0 nl (pc, ls, st, h) := by
  obtain ⟨hx, hb, hml, hown, hts, hr, hlk, hin, hK, hN, hX, hb0, hbs⟩ := Cx
  obtain rfl : len = 1 := hlen.resolve_left (fun q => absurd q (by show ¬ (1 : Nat) = 0; decide))
  simp only [am_dp] at hdo
  obtain ⟨x, y, r, rfl, hf⟩ := am_l2_inv hdo
  obtain rfl := am_nx_inv hf
  intro H locs rl cells slots hW hS hl hn hc hz
  exact lv_lxor hx hb hdg (kk H locs rl cells slots hW hS hl hn hc hz)
theorem am_k_lcmp (Cx : am_Cx p s m args meth c D dA b0 base X k) {n0 z0 nl pc len : Nat} {ls st : List Value} {h : am_H} {σ' : am_P} (hdg : decode (am_bytes k) pc = .ok (.lcmp, len)) (hlen : am_len (.lcmp) = 0 ∨ len = am_len (.lcmp)) (hdo : am_dp X k (.lcmp) pc st h = some σ') (hR1 : σ'.2.2.length ≤ R.cells + n0) (hR2 : am_sz σ'.2.2 ≤ R.slots + z0) (hfr : am_fr k ≤ R.frames) (hlo : am_lc k ≤ R.locals) (hnl : nl = am_mxl k) (kk : am_Go p l e R s m args below meth c Q D dA b0 base n0 z0 nl (σ'.1, ls, σ'.2.1, σ'.2.2)) : am_Go p l e R s m args below meth c Q D dA b0 base n0 z0 nl (pc, ls, st, h) := by
  obtain ⟨hx, hb, hml, hown, hts, hr, hlk, hin, hK, hN, hX, hb0, hbs⟩ := Cx
  obtain rfl : len = 1 := hlen.resolve_left (fun q => absurd q (by show ¬ (1 : Nat) = 0; decide))
  simp only [am_dp] at hdo
  obtain ⟨x, y, r, rfl, hf⟩ := am_l2_inv hdo
  obtain rfl := am_nx_inv hf
  intro H locs rl cells slots hW hS hl hn hc hz
  exact W.lcmp hx hb hdg (kk H locs rl cells slots hW hS hl hn hc hz)
theorem am_k_idiv (Cx : am_Cx p s m args meth c D dA b0 base X k) {n0 z0 nl pc len : Nat} {ls st : List Value} {h : am_H} {σ' : am_P} (hdg : decode (am_bytes k) pc = .ok (.idiv, len)) (hlen : am_len (.idiv) = 0 ∨ len = am_len (.idiv)) (hdo : am_dp X k (.idiv) pc st h = some σ') (hR1 : σ'.2.2.length ≤ R.cells + n0) (hR2 : am_sz σ'.2.2 ≤ R.slots + z0) (hfr : am_fr k ≤ R.frames) (hlo : am_lc k ≤ R.locals) (hnl : nl = am_mxl k) (kk : am_Go p l e R s m args below meth c Q D dA b0 base n0 z0 nl (σ'.1, ls, σ'.2.1, σ'.2.2)) : am_Go p l e R s m args below meth c Q D dA b0 base n0 z0 nl (pc, ls, st, h) := by
  obtain ⟨hx, hb, hml, hown, hts, hr, hlk, hin, hK, hN, hX, hb0, hbs⟩ := Cx
  obtain rfl : len = 1 := hlen.resolve_left (fun q => absurd q (by show ¬ (1 : Nat) = 0; decide))
  simp only [am_dp] at hdo
  obtain ⟨x, y, r, rfl, hf⟩ := am_i2_inv hdo
  by_cases hy : y = 0
  · rw [if_pos hy] at hf
    cases hf
  · rw [if_neg hy] at hf
    obtain rfl := am_nx_inv hf
    intro H locs rl cells slots hW hS hl hn hc hz
    exact lv_idiv hx hb hdg hy (kk H locs rl cells slots hW hS hl hn hc hz)
theorem am_k_irem (Cx : am_Cx p s m args meth c D dA b0 base X k) {n0 z0 nl pc len : Nat} {ls st : List Value} {h : am_H} {σ' : am_P} (hdg : decode (am_bytes k) pc = .ok (.irem, len)) (hlen : am_len (.irem) = 0 ∨ len = am_len (.irem)) (hdo : am_dp X k (.irem) pc st h = some σ') (hR1 : σ'.2.2.length ≤ R.cells + n0) (hR2 : am_sz σ'.2.2 ≤ R.slots + z0) (hfr : am_fr k ≤ R.frames) (hlo : am_lc k ≤ R.locals) (hnl : nl = am_mxl k) (kk : am_Go p l e R s m args below meth c Q D dA b0 base n0 z0 nl (σ'.1, ls, σ'.2.1, σ'.2.2)) : am_Go p l e R s m args below meth c Q D dA b0 base n0 z0 nl (pc, ls, st, h) := by
  obtain ⟨hx, hb, hml, hown, hts, hr, hlk, hin, hK, hN, hX, hb0, hbs⟩ := Cx
  obtain rfl : len = 1 := hlen.resolve_left (fun q => absurd q (by show ¬ (1 : Nat) = 0; decide))
  simp only [am_dp] at hdo
  obtain ⟨x, y, r, rfl, hf⟩ := am_i2_inv hdo
  by_cases hy : y = 0
  · rw [if_pos hy] at hf
    cases hf
  · rw [if_neg hy] at hf
    obtain rfl := am_nx_inv hf
    intro H locs rl cells slots hW hS hl hn hc hz
    exact lv_irem hx hb hdg hy (kk H locs rl cells slots hW hS hl hn hc hz)
theorem am_k_ldiv (Cx : am_Cx p s m args meth c D dA b0 base X k) {n0 z0 nl pc len : Nat} {ls st : List Value} {h : am_H} {σ' : am_P} (hdg : decode (am_bytes k) pc = .ok (.ldiv, len)) (hlen : am_len (.ldiv) = 0 ∨ len = am_len (.ldiv)) (hdo : am_dp X k (.ldiv) pc st h = some σ') (hR1 : σ'.2.2.length ≤ R.cells + n0) (hR2 : am_sz σ'.2.2 ≤ R.slots + z0) (hfr : am_fr k ≤ R.frames) (hlo : am_lc k ≤ R.locals) (hnl : nl = am_mxl k) (kk : am_Go p l e R s m args below meth c Q D dA b0 base n0 z0 nl (σ'.1, ls, σ'.2.1, σ'.2.2)) : am_Go p l e R s m args below meth c Q D dA b0 base n0 z0 nl (pc, ls, st, h) := by
  obtain ⟨hx, hb, hml, hown, hts, hr, hlk, hin, hK, hN, hX, hb0, hbs⟩ := Cx
  obtain rfl : len = 1 := hlen.resolve_left (fun q => absurd q (by show ¬ (1 : Nat) = 0; decide))
  simp only [am_dp] at hdo
  obtain ⟨x, y, r, rfl, hf⟩ := am_l2_inv hdo
  by_cases hy : y = 0
  · rw [if_pos hy] at hf
    cases hf
  · rw [if_neg hy] at hf
    obtain rfl := am_nx_inv hf
    intro H locs rl cells slots hW hS hl hn hc hz
    exact lv_ldiv hx hb hdg hy (kk H locs rl cells slots hW hS hl hn hc hz)
theorem am_k_lrem (Cx : am_Cx p s m args meth c D dA b0 base X k) {n0 z0 nl pc len : Nat} {ls st : List Value} {h : am_H} {σ' : am_P} (hdg : decode (am_bytes k) pc = .ok (.lrem, len)) (hlen : am_len (.lrem) = 0 ∨ len = am_len (.lrem)) (hdo : am_dp X k (.lrem) pc st h = some σ') (hR1 : σ'.2.2.length ≤ R.cells + n0) (hR2 : am_sz σ'.2.2 ≤ R.slots + z0) (hfr : am_fr k ≤ R.frames) (hlo : am_lc k ≤ R.locals) (hnl : nl = am_mxl k) (kk : am_Go p l e R s m args below meth c Q D dA b0 base n0 z0 nl (σ'.1, ls, σ'.2.1, σ'.2.2)) : am_Go p l e R s m args below meth c Q D dA b0 base n0 z0 nl (pc, ls, st, h) := by
  obtain ⟨hx, hb, hml, hown, hts, hr, hlk, hin, hK, hN, hX, hb0, hbs⟩ := Cx
  obtain rfl : len = 1 := hlen.resolve_left (fun q => absurd q (by show ¬ (1 : Nat) = 0; decide))
  simp only [am_dp] at hdo
  obtain ⟨x, y, r, rfl, hf⟩ := am_l2_inv hdo
  by_cases hy : y = 0
  · rw [if_pos hy] at hf
    cases hf
  · rw [if_neg hy] at hf
    obtain rfl := am_nx_inv hf
    intro H locs rl cells slots hW hS hl hn hc hz
    exact lv_lrem hx hb hdg hy (kk H locs rl cells slots hW hS hl hn hc hz)
theorem am_k_ineg (Cx : am_Cx p s m args meth c D dA b0 base X k) {n0 z0 nl pc len : Nat} {ls st : List Value} {h : am_H} {σ' : am_P} (hdg : decode (am_bytes k) pc = .ok (.ineg, len)) (hlen : am_len (.ineg) = 0 ∨ len = am_len (.ineg)) (hdo : am_dp X k (.ineg) pc st h = some σ') (hR1 : σ'.2.2.length ≤ R.cells + n0) (hR2 : am_sz σ'.2.2 ≤ R.slots + z0) (hfr : am_fr k ≤ R.frames) (hlo : am_lc k ≤ R.locals) (hnl : nl = am_mxl k) (kk : am_Go p l e R s m args below meth c Q D dA b0 base n0 z0 nl (σ'.1, ls, σ'.2.1, σ'.2.2)) : am_Go p l e R s m args below meth c Q D dA b0 base n0 z0 nl (pc, ls, st, h) := by
  obtain ⟨hx, hb, hml, hown, hts, hr, hlk, hin, hK, hN, hX, hb0, hbs⟩ := Cx
  obtain rfl : len = 1 := hlen.resolve_left (fun q => absurd q (by show ¬ (1 : Nat) = 0; decide))
  simp only [am_dp] at hdo
  obtain ⟨x, r, rfl, hf⟩ := am_i1_inv hdo
  obtain rfl := am_nx_inv hf
  intro H locs rl cells slots hW hS hl hn hc hz
  exact lv_ineg hx hb hdg (kk H locs rl cells slots hW hS hl hn hc hz)
theorem am_k_lneg (Cx : am_Cx p s m args meth c D dA b0 base X k) {n0 z0 nl pc len : Nat} {ls st : List Value} {h : am_H} {σ' : am_P} (hdg : decode (am_bytes k) pc = .ok (.lneg, len)) (hlen : am_len (.lneg) = 0 ∨ len = am_len (.lneg)) (hdo : am_dp X k (.lneg) pc st h = some σ') (hR1 : σ'.2.2.length ≤ R.cells + n0) (hR2 : am_sz σ'.2.2 ≤ R.slots + z0) (hfr : am_fr k ≤ R.frames) (hlo : am_lc k ≤ R.locals) (hnl : nl = am_mxl k) (kk : am_Go p l e R s m args below meth c Q D dA b0 base n0 z0 nl (σ'.1, ls, σ'.2.1, σ'.2.2)) : am_Go p l e R s m args below meth c Q D dA b0 base n0 z0 nl (pc, ls, st, h) := by
  obtain ⟨hx, hb, hml, hown, hts, hr, hlk, hin, hK, hN, hX, hb0, hbs⟩ := Cx
  obtain rfl : len = 1 := hlen.resolve_left (fun q => absurd q (by show ¬ (1 : Nat) = 0; decide))
  simp only [am_dp] at hdo
  obtain ⟨x, r, rfl, hf⟩ := am_l1_inv hdo
  obtain rfl := am_nx_inv hf
  intro H locs rl cells slots hW hS hl hn hc hz
  exact lv_lneg hx hb hdg (kk H locs rl cells slots hW hS hl hn hc hz)
theorem am_k_i2l (Cx : am_Cx p s m args meth c D dA b0 base X k) {n0 z0 nl pc len : Nat} {ls st : List Value} {h : am_H} {σ' : am_P} (hdg : decode (am_bytes k) pc = .ok (.i2l, len)) (hlen : am_len (.i2l) = 0 ∨ len = am_len (.i2l)) (hdo : am_dp X k (.i2l) pc st h = some σ') (hR1 : σ'.2.2.length ≤ R.cells + n0) (hR2 : am_sz σ'.2.2 ≤ R.slots + z0) (hfr : am_fr k ≤ R.frames) (hlo : am_lc k ≤ R.locals) (hnl : nl = am_mxl k) (kk : am_Go p l e R s m args below meth c Q D dA b0 base n0 z0 nl (σ'.1, ls, σ'.2.1, σ'.2.2)) : am_Go p l e R s m args below meth c Q D dA b0 base n0 z0 nl (pc, ls, st, h) := by
  obtain ⟨hx, hb, hml, hown, hts, hr, hlk, hin, hK, hN, hX, hb0, hbs⟩ := Cx
  obtain rfl : len = 1 := hlen.resolve_left (fun q => absurd q (by show ¬ (1 : Nat) = 0; decide))
  simp only [am_dp] at hdo
  obtain ⟨x, r, rfl, hf⟩ := am_i1_inv hdo
  obtain rfl := am_nx_inv hf
  intro H locs rl cells slots hW hS hl hn hc hz
  exact lv_i2l hx hb hdg rfl (kk H locs rl cells slots hW hS hl hn hc hz)
theorem am_k_l2i (Cx : am_Cx p s m args meth c D dA b0 base X k) {n0 z0 nl pc len : Nat} {ls st : List Value} {h : am_H} {σ' : am_P} (hdg : decode (am_bytes k) pc = .ok (.l2i, len)) (hlen : am_len (.l2i) = 0 ∨ len = am_len (.l2i)) (hdo : am_dp X k (.l2i) pc st h = some σ') (hR1 : σ'.2.2.length ≤ R.cells + n0) (hR2 : am_sz σ'.2.2 ≤ R.slots + z0) (hfr : am_fr k ≤ R.frames) (hlo : am_lc k ≤ R.locals) (hnl : nl = am_mxl k) (kk : am_Go p l e R s m args below meth c Q D dA b0 base n0 z0 nl (σ'.1, ls, σ'.2.1, σ'.2.2)) : am_Go p l e R s m args below meth c Q D dA b0 base n0 z0 nl (pc, ls, st, h) := by
  obtain ⟨hx, hb, hml, hown, hts, hr, hlk, hin, hK, hN, hX, hb0, hbs⟩ := Cx
  obtain rfl : len = 1 := hlen.resolve_left (fun q => absurd q (by show ¬ (1 : Nat) = 0; decide))
  simp only [am_dp] at hdo
  obtain ⟨x, r, rfl, hf⟩ := am_l1_inv hdo
  obtain rfl := am_nx_inv hf
  intro H locs rl cells slots hW hS hl hn hc hz
  exact lv_l2i hx hb hdg rfl (kk H locs rl cells slots hW hS hl hn hc hz)
theorem am_k_i2b (Cx : am_Cx p s m args meth c D dA b0 base X k) {n0 z0 nl pc len : Nat} {ls st : List Value} {h : am_H} {σ' : am_P} (hdg : decode (am_bytes k) pc = .ok (.i2b, len)) (hlen : am_len (.i2b) = 0 ∨ len = am_len (.i2b)) (hdo : am_dp X k (.i2b) pc st h = some σ') (hR1 : σ'.2.2.length ≤ R.cells + n0) (hR2 : am_sz σ'.2.2 ≤ R.slots + z0) (hfr : am_fr k ≤ R.frames) (hlo : am_lc k ≤ R.locals) (hnl : nl = am_mxl k) (kk : am_Go p l e R s m args below meth c Q D dA b0 base n0 z0 nl (σ'.1, ls, σ'.2.1, σ'.2.2)) : am_Go p l e R s m args below meth c Q D dA b0 base n0 z0 nl (pc, ls, st, h) := by
  obtain ⟨hx, hb, hml, hown, hts, hr, hlk, hin, hK, hN, hX, hb0, hbs⟩ := Cx
  obtain rfl : len = 1 := hlen.resolve_left (fun q => absurd q (by show ¬ (1 : Nat) = 0; decide))
  simp only [am_dp] at hdo
  obtain ⟨x, r, rfl, hf⟩ := am_i1_inv hdo
  obtain rfl := am_nx_inv hf
  intro H locs rl cells slots hW hS hl hn hc hz
  exact lv_i2b hx hb hdg rfl (kk H locs rl cells slots hW hS hl hn hc hz)
theorem am_k_i2s (Cx : am_Cx p s m args meth c D dA b0 base X k) {n0 z0 nl pc len : Nat} {ls st : List Value} {h : am_H} {σ' : am_P} (hdg : decode (am_bytes k) pc = .ok (.i2s, len)) (hlen : am_len (.i2s) = 0 ∨ len = am_len (.i2s)) (hdo : am_dp X k (.i2s) pc st h = some σ') (hR1 : σ'.2.2.length ≤ R.cells + n0) (hR2 : am_sz σ'.2.2 ≤ R.slots + z0) (hfr : am_fr k ≤ R.frames) (hlo : am_lc k ≤ R.locals) (hnl : nl = am_mxl k) (kk : am_Go p l e R s m args below meth c Q D dA b0 base n0 z0 nl (σ'.1, ls, σ'.2.1, σ'.2.2)) : am_Go p l e R s m args below meth c Q D dA b0 base n0 z0 nl (pc, ls, st, h) := by
  obtain ⟨hx, hb, hml, hown, hts, hr, hlk, hin, hK, hN, hX, hb0, hbs⟩ := Cx
  obtain rfl : len = 1 := hlen.resolve_left (fun q => absurd q (by show ¬ (1 : Nat) = 0; decide))
  simp only [am_dp] at hdo
  obtain ⟨x, r, rfl, hf⟩ := am_i1_inv hdo
  obtain rfl := am_nx_inv hf
  intro H locs rl cells slots hW hS hl hn hc hz
  exact lv_i2s hx hb hdg rfl (kk H locs rl cells slots hW hS hl hn hc hz)
theorem am_k_i2c (Cx : am_Cx p s m args meth c D dA b0 base X k) {n0 z0 nl pc len : Nat} {ls st : List Value} {h : am_H} {σ' : am_P} (hdg : decode (am_bytes k) pc = .ok (.i2c, len)) (hlen : am_len (.i2c) = 0 ∨ len = am_len (.i2c)) (hdo : am_dp X k (.i2c) pc st h = some σ') (hR1 : σ'.2.2.length ≤ R.cells + n0) (hR2 : am_sz σ'.2.2 ≤ R.slots + z0) (hfr : am_fr k ≤ R.frames) (hlo : am_lc k ≤ R.locals) (hnl : nl = am_mxl k) (kk : am_Go p l e R s m args below meth c Q D dA b0 base n0 z0 nl (σ'.1, ls, σ'.2.1, σ'.2.2)) : am_Go p l e R s m args below meth c Q D dA b0 base n0 z0 nl (pc, ls, st, h) := by
  obtain ⟨hx, hb, hml, hown, hts, hr, hlk, hin, hK, hN, hX, hb0, hbs⟩ := Cx
  obtain rfl : len = 1 := hlen.resolve_left (fun q => absurd q (by show ¬ (1 : Nat) = 0; decide))
  simp only [am_dp] at hdo
  obtain ⟨x, r, rfl, hf⟩ := am_i1_inv hdo
  obtain rfl := am_nx_inv hf
  intro H locs rl cells slots hW hS hl hn hc hz
  exact lv_i2c hx hb hdg rfl (kk H locs rl cells slots hW hS hl hn hc hz)
theorem am_k_lshl (Cx : am_Cx p s m args meth c D dA b0 base X k) {n0 z0 nl pc len : Nat} {ls st : List Value} {h : am_H} {σ' : am_P} (hdg : decode (am_bytes k) pc = .ok (.lshl, len)) (hlen : am_len (.lshl) = 0 ∨ len = am_len (.lshl)) (hdo : am_dp X k (.lshl) pc st h = some σ') (hR1 : σ'.2.2.length ≤ R.cells + n0) (hR2 : am_sz σ'.2.2 ≤ R.slots + z0) (hfr : am_fr k ≤ R.frames) (hlo : am_lc k ≤ R.locals) (hnl : nl = am_mxl k) (kk : am_Go p l e R s m args below meth c Q D dA b0 base n0 z0 nl (σ'.1, ls, σ'.2.1, σ'.2.2)) : am_Go p l e R s m args below meth c Q D dA b0 base n0 z0 nl (pc, ls, st, h) := by
  obtain ⟨hx, hb, hml, hown, hts, hr, hlk, hin, hK, hN, hX, hb0, hbs⟩ := Cx
  obtain rfl : len = 1 := hlen.resolve_left (fun q => absurd q (by show ¬ (1 : Nat) = 0; decide))
  simp only [am_dp] at hdo
  obtain ⟨x, y, r, rfl, hf⟩ := am_s2_inv hdo
  obtain rfl := am_nx_inv hf
  intro H locs rl cells slots hW hS hl hn hc hz
  exact lv_lshl hx hb hdg rfl (kk H locs rl cells slots hW hS hl hn hc hz)
theorem am_k_lshr (Cx : am_Cx p s m args meth c D dA b0 base X k) {n0 z0 nl pc len : Nat} {ls st : List Value} {h : am_H} {σ' : am_P} (hdg : decode (am_bytes k) pc = .ok (.lshr, len)) (hlen : am_len (.lshr) = 0 ∨ len = am_len (.lshr)) (hdo : am_dp X k (.lshr) pc st h = some σ') (hR1 : σ'.2.2.length ≤ R.cells + n0) (hR2 : am_sz σ'.2.2 ≤ R.slots + z0) (hfr : am_fr k ≤ R.frames) (hlo : am_lc k ≤ R.locals) (hnl : nl = am_mxl k) (kk : am_Go p l e R s m args below meth c Q D dA b0 base n0 z0 nl (σ'.1, ls, σ'.2.1, σ'.2.2)) : am_Go p l e R s m args below meth c Q D dA b0 base n0 z0 nl (pc, ls, st, h) := by
  obtain ⟨hx, hb, hml, hown, hts, hr, hlk, hin, hK, hN, hX, hb0, hbs⟩ := Cx
  obtain rfl : len = 1 := hlen.resolve_left (fun q => absurd q (by show ¬ (1 : Nat) = 0; decide))
  simp only [am_dp] at hdo
  obtain ⟨x, y, r, rfl, hf⟩ := am_s2_inv hdo
  obtain rfl := am_nx_inv hf
  intro H locs rl cells slots hW hS hl hn hc hz
  exact lv_lshr hx hb hdg rfl (kk H locs rl cells slots hW hS hl hn hc hz)
theorem am_k_lushr (Cx : am_Cx p s m args meth c D dA b0 base X k) {n0 z0 nl pc len : Nat} {ls st : List Value} {h : am_H} {σ' : am_P} (hdg : decode (am_bytes k) pc = .ok (.lushr, len)) (hlen : am_len (.lushr) = 0 ∨ len = am_len (.lushr)) (hdo : am_dp X k (.lushr) pc st h = some σ') (hR1 : σ'.2.2.length ≤ R.cells + n0) (hR2 : am_sz σ'.2.2 ≤ R.slots + z0) (hfr : am_fr k ≤ R.frames) (hlo : am_lc k ≤ R.locals) (hnl : nl = am_mxl k) (kk : am_Go p l e R s m args below meth c Q D dA b0 base n0 z0 nl (σ'.1, ls, σ'.2.1, σ'.2.2)) : am_Go p l e R s m args below meth c Q D dA b0 base n0 z0 nl (pc, ls, st, h) := by
  obtain ⟨hx, hb, hml, hown, hts, hr, hlk, hin, hK, hN, hX, hb0, hbs⟩ := Cx
  obtain rfl : len = 1 := hlen.resolve_left (fun q => absurd q (by show ¬ (1 : Nat) = 0; decide))
  simp only [am_dp] at hdo
  obtain ⟨x, y, r, rfl, hf⟩ := am_s2_inv hdo
  obtain rfl := am_nx_inv hf
  intro H locs rl cells slots hW hS hl hn hc hz
  exact lv_lushr hx hb hdg rfl (kk H locs rl cells slots hW hS hl hn hc hz)
theorem am_k_ifCond (Cx : am_Cx p s m args meth c D dA b0 base X k) {n0 z0 nl pc len : Nat} {ls st : List Value} {h : am_H} {σ' : am_P} {cn : ClassFile.Cond} {off : Int} (hdg : decode (am_bytes k) pc = .ok (.ifCond cn off, len)) (hlen : am_len (.ifCond cn off) = 0 ∨ len = am_len (.ifCond cn off)) (hdo : am_dp X k (.ifCond cn off) pc st h = some σ') (hR1 : σ'.2.2.length ≤ R.cells + n0) (hR2 : am_sz σ'.2.2 ≤ R.slots + z0) (hfr : am_fr k ≤ R.frames) (hlo : am_lc k ≤ R.locals) (hnl : nl = am_mxl k) (kk : am_Go p l e R s m args below meth c Q D dA b0 base n0 z0 nl (σ'.1, ls, σ'.2.1, σ'.2.2)) : am_Go p l e R s m args below meth c Q D dA b0 base n0 z0 nl (pc, ls, st, h) := by
  obtain ⟨hx, hb, hml, hown, hts, hr, hlk, hin, hK, hN, hX, hb0, hbs⟩ := Cx
  obtain rfl : len = 3 := hlen.resolve_left (fun q => absurd q (by show ¬ (3 : Nat) = 0; decide))
  simp only [am_dp] at hdo
  obtain ⟨x, r, rfl, hf⟩ := am_i1_inv hdo
  cases cn
  case eq =>
    obtain ⟨t, ht, ⟨hb1, rfl⟩ | ⟨hb1, rfl⟩⟩ := am_br_inv hf
    · intro H locs rl cells slots hW hS hl hn hc hz
      exact lv_if_eq hx hb hdg ht (fun _ => (kk H locs rl cells slots hW hS hl hn hc hz)) (fun q => absurd (of_decide_eq_true hb1) q)
    · intro H locs rl cells slots hW hS hl hn hc hz
      exact lv_if_eq hx hb hdg ht (fun q => absurd q (of_decide_eq_false hb1)) (fun _ => (kk H locs rl cells slots hW hS hl hn hc hz))
  case ne =>
    obtain ⟨t, ht, ⟨hb1, rfl⟩ | ⟨hb1, rfl⟩⟩ := am_br_inv hf
    · intro H locs rl cells slots hW hS hl hn hc hz
      exact lv_if_ne hx hb hdg ht (fun _ => (kk H locs rl cells slots hW hS hl hn hc hz)) (fun q => absurd q (of_decide_eq_true hb1))
    · intro H locs rl cells slots hW hS hl hn hc hz
      exact lv_if_ne hx hb hdg ht (fun q => absurd q (of_decide_eq_false hb1)) (fun _ => (kk H locs rl cells slots hW hS hl hn hc hz))
  case lt =>
    obtain ⟨t, ht, ⟨hb1, rfl⟩ | ⟨hb1, rfl⟩⟩ := am_br_inv hf
    · intro H locs rl cells slots hW hS hl hn hc hz
      exact lv_if_lt hx hb hdg ht (fun _ => (kk H locs rl cells slots hW hS hl hn hc hz)) (fun q => absurd (of_decide_eq_true hb1) q)
    · intro H locs rl cells slots hW hS hl hn hc hz
      exact lv_if_lt hx hb hdg ht (fun q => absurd q (of_decide_eq_false hb1)) (fun _ => (kk H locs rl cells slots hW hS hl hn hc hz))
  case ge =>
    obtain ⟨t, ht, ⟨hb1, rfl⟩ | ⟨hb1, rfl⟩⟩ := am_br_inv hf
    · intro H locs rl cells slots hW hS hl hn hc hz
      exact lv_if_ge hx hb hdg ht (fun _ => (kk H locs rl cells slots hW hS hl hn hc hz)) (fun q => absurd (of_decide_eq_true hb1) q)
    · intro H locs rl cells slots hW hS hl hn hc hz
      exact lv_if_ge hx hb hdg ht (fun q => absurd q (of_decide_eq_false hb1)) (fun _ => (kk H locs rl cells slots hW hS hl hn hc hz))
  case gt =>
    obtain ⟨t, ht, ⟨hb1, rfl⟩ | ⟨hb1, rfl⟩⟩ := am_br_inv hf
    · intro H locs rl cells slots hW hS hl hn hc hz
      exact lv_if_gt hx hb hdg ht (fun _ => (kk H locs rl cells slots hW hS hl hn hc hz)) (fun q => absurd (of_decide_eq_true hb1) q)
    · intro H locs rl cells slots hW hS hl hn hc hz
      exact lv_if_gt hx hb hdg ht (fun q => absurd q (of_decide_eq_false hb1)) (fun _ => (kk H locs rl cells slots hW hS hl hn hc hz))
  case le =>
    obtain ⟨t, ht, ⟨hb1, rfl⟩ | ⟨hb1, rfl⟩⟩ := am_br_inv hf
    · intro H locs rl cells slots hW hS hl hn hc hz
      exact lv_if_le hx hb hdg ht (fun _ => (kk H locs rl cells slots hW hS hl hn hc hz)) (fun q => absurd (of_decide_eq_true hb1) q)
    · intro H locs rl cells slots hW hS hl hn hc hz
      exact lv_if_le hx hb hdg ht (fun q => absurd q (of_decide_eq_false hb1)) (fun _ => (kk H locs rl cells slots hW hS hl hn hc hz))
theorem am_k_if_icmp (Cx : am_Cx p s m args meth c D dA b0 base X k) {n0 z0 nl pc len : Nat} {ls st : List Value} {h : am_H} {σ' : am_P} {cn : ClassFile.Cond} {off : Int} (hdg : decode (am_bytes k) pc = .ok (.if_icmp cn off, len)) (hlen : am_len (.if_icmp cn off) = 0 ∨ len = am_len (.if_icmp cn off)) (hdo : am_dp X k (.if_icmp cn off) pc st h = some σ') (hR1 : σ'.2.2.length ≤ R.cells + n0) (hR2 : am_sz σ'.2.2 ≤ R.slots + z0) (hfr : am_fr k ≤ R.frames) (hlo : am_lc k ≤ R.locals) (hnl : nl = am_mxl k) (kk : am_Go p l e R s m args below meth c Q D dA b0 base n0 z0 nl (σ'.1, ls, σ'.2.1, σ'.2.2)) : am_Go p l e R s m args below meth c Q D dA b0 base n0 z0 nl (pc, ls, st, h) := by
  obtain ⟨hx, hb, hml, hown, hts, hr, hlk, hin, hK, hN, hX, hb0, hbs⟩ := Cx
  obtain rfl : len = 3 := hlen.resolve_left (fun q => absurd q (by show ¬ (3 : Nat) = 0; decide))
  simp only [am_dp] at hdo
  obtain ⟨x, y, r, rfl, hf⟩ := am_i2_inv hdo
  cases cn
  case eq =>
    obtain ⟨t, ht, ⟨hb1, rfl⟩ | ⟨hb1, rfl⟩⟩ := am_br_inv hf
    · intro H locs rl cells slots hW hS hl hn hc hz
      exact lv_icmp_eq hx hb hdg ht (fun _ => (kk H locs rl cells slots hW hS hl hn hc hz)) (fun q => absurd (of_decide_eq_true hb1) q)
    · intro H locs rl cells slots hW hS hl hn hc hz
      exact lv_icmp_eq hx hb hdg ht (fun q => absurd q (of_decide_eq_false hb1)) (fun _ => (kk H locs rl cells slots hW hS hl hn hc hz))
  case ne =>
    obtain ⟨t, ht, ⟨hb1, rfl⟩ | ⟨hb1, rfl⟩⟩ := am_br_inv hf
    · intro H locs rl cells slots hW hS hl hn hc hz
      exact lv_icmp_ne hx hb hdg ht (fun _ => (kk H locs rl cells slots hW hS hl hn hc hz)) (fun q => absurd q (of_decide_eq_true hb1))
    · intro H locs rl cells slots hW hS hl hn hc hz
      exact lv_icmp_ne hx hb hdg ht (fun q => absurd q (of_decide_eq_false hb1)) (fun _ => (kk H locs rl cells slots hW hS hl hn hc hz))
  case lt =>
    obtain ⟨t, ht, ⟨hb1, rfl⟩ | ⟨hb1, rfl⟩⟩ := am_br_inv hf
    · intro H locs rl cells slots hW hS hl hn hc hz
      exact lv_icmp_lt hx hb hdg ht (fun _ => (kk H locs rl cells slots hW hS hl hn hc hz)) (fun q => absurd (of_decide_eq_true hb1) q)
    · intro H locs rl cells slots hW hS hl hn hc hz
      exact lv_icmp_lt hx hb hdg ht (fun q => absurd q (of_decide_eq_false hb1)) (fun _ => (kk H locs rl cells slots hW hS hl hn hc hz))
  case ge =>
    obtain ⟨t, ht, ⟨hb1, rfl⟩ | ⟨hb1, rfl⟩⟩ := am_br_inv hf
    · intro H locs rl cells slots hW hS hl hn hc hz
      exact lv_icmp_ge hx hb hdg ht (fun _ => (kk H locs rl cells slots hW hS hl hn hc hz)) (fun q => absurd (of_decide_eq_true hb1) q)
    · intro H locs rl cells slots hW hS hl hn hc hz
      exact lv_icmp_ge hx hb hdg ht (fun q => absurd q (of_decide_eq_false hb1)) (fun _ => (kk H locs rl cells slots hW hS hl hn hc hz))
  case gt =>
    obtain ⟨t, ht, ⟨hb1, rfl⟩ | ⟨hb1, rfl⟩⟩ := am_br_inv hf
    · intro H locs rl cells slots hW hS hl hn hc hz
      exact lv_icmp_gt hx hb hdg ht (fun _ => (kk H locs rl cells slots hW hS hl hn hc hz)) (fun q => absurd (of_decide_eq_true hb1) q)
    · intro H locs rl cells slots hW hS hl hn hc hz
      exact lv_icmp_gt hx hb hdg ht (fun q => absurd q (of_decide_eq_false hb1)) (fun _ => (kk H locs rl cells slots hW hS hl hn hc hz))
  case le =>
    obtain ⟨t, ht, ⟨hb1, rfl⟩ | ⟨hb1, rfl⟩⟩ := am_br_inv hf
    · intro H locs rl cells slots hW hS hl hn hc hz
      exact lv_icmp_le hx hb hdg ht (fun _ => (kk H locs rl cells slots hW hS hl hn hc hz)) (fun q => absurd (of_decide_eq_true hb1) q)
    · intro H locs rl cells slots hW hS hl hn hc hz
      exact lv_icmp_le hx hb hdg ht (fun q => absurd q (of_decide_eq_false hb1)) (fun _ => (kk H locs rl cells slots hW hS hl hn hc hz))
theorem am_k_if_acmp (Cx : am_Cx p s m args meth c D dA b0 base X k) {n0 z0 nl pc len : Nat} {ls st : List Value} {h : am_H} {σ' : am_P} {cn : ClassFile.ACond} {off : Int} (hdg : decode (am_bytes k) pc = .ok (.if_acmp cn off, len)) (hlen : am_len (.if_acmp cn off) = 0 ∨ len = am_len (.if_acmp cn off)) (hdo : am_dp X k (.if_acmp cn off) pc st h = some σ') (hR1 : σ'.2.2.length ≤ R.cells + n0) (hR2 : am_sz σ'.2.2 ≤ R.slots + z0) (hfr : am_fr k ≤ R.frames) (hlo : am_lc k ≤ R.locals) (hnl : nl = am_mxl k) (kk : am_Go p l e R s m args below meth c Q D dA b0 base n0 z0 nl (σ'.1, ls, σ'.2.1, σ'.2.2)) : am_Go p l e R s m args below meth c Q D dA b0 base n0 z0 nl (pc, ls, st, h) := by
  obtain ⟨hx, hb, hml, hown, hts, hr, hlk, hin, hK, hN, hX, hb0, hbs⟩ := Cx
  obtain rfl : len = 3 := hlen.resolve_left (fun q => absurd q (by show ¬ (3 : Nat) = 0; decide))
  simp only [am_dp] at hdo
  obtain ⟨a, b, r, rfl, hf⟩ := am_r2_inv hdo
  cases cn
  case eq =>
    obtain ⟨t, ht, ⟨hb1, rfl⟩ | ⟨hb1, rfl⟩⟩ := am_br_inv hf
    · intro H locs rl cells slots hW hS hl hn hc hz
      exact lv_acmp_eq (rx := some (base + a)) (ry := some (base + b)) hx hb hdg ht (fun _ => (kk H locs rl cells slots hW hS hl hn hc hz)) (fun q => absurd (by rw [of_decide_eq_true hb1]) q)
    · intro H locs rl cells slots hW hS hl hn hc hz
      exact lv_acmp_eq (rx := some (base + a)) (ry := some (base + b)) hx hb hdg ht (fun q => absurd (by have := Option.some.inj q; omega) (of_decide_eq_false hb1)) (fun _ => (kk H locs rl cells slots hW hS hl hn hc hz))
  case ne =>
    obtain ⟨t, ht, ⟨hb1, rfl⟩ | ⟨hb1, rfl⟩⟩ := am_br_inv hf
    · intro H locs rl cells slots hW hS hl hn hc hz
      exact lv_acmp_ne (rx := some (base + a)) (ry := some (base + b)) hx hb hdg ht (fun _ => (kk H locs rl cells slots hW hS hl hn hc hz)) (fun q => absurd (by have := Option.some.inj q; omega) (of_decide_eq_true hb1))
    · intro H locs rl cells slots hW hS hl hn hc hz
      exact lv_acmp_ne (rx := some (base + a)) (ry := some (base + b)) hx hb hdg ht (fun q => absurd (show ¬ a = b from fun z => q (by rw [z])) (of_decide_eq_false hb1)) (fun _ => (kk H locs rl cells slots hW hS hl hn hc hz))
theorem am_k_goto (Cx : am_Cx p s m args meth c D dA b0 base X k) {n0 z0 nl pc len : Nat} {ls st : List Value} {h : am_H} {σ' : am_P} {off : Int} (hdg : decode (am_bytes k) pc = .ok (.goto off, len)) (hlen : am_len (.goto off) = 0 ∨ len = am_len (.goto off)) (hdo : am_dp X k (.goto off) pc st h = some σ') (hR1 : σ'.2.2.length ≤ R.cells + n0) (hR2 : am_sz σ'.2.2 ≤ R.slots + z0) (hfr : am_fr k ≤ R.frames) (hlo : am_lc k ≤ R.locals) (hnl : nl = am_mxl k) (kk : am_Go p l e R s m args below meth c Q D dA b0 base n0 z0 nl (σ'.1, ls, σ'.2.1, σ'.2.2)) : am_Go p l e R s m args below meth c Q D dA b0 base n0 z0 nl (pc, ls, st, h) := by
  obtain ⟨hx, hb, hml, hown, hts, hr, hlk, hin, hK, hN, hX, hb0, hbs⟩ := Cx
  obtain rfl : len = 3 := hlen.resolve_left (fun q => absurd q (by show ¬ (3 : Nat) = 0; decide))
  simp only [am_dp] at hdo
  obtain ⟨t, ht, rfl⟩ := am_go_inv hdo
  intro H locs rl cells slots hW hS hl hn hc hz
  exact lv_goto hx hb hdg ht (kk H locs rl cells slots hW hS hl hn hc hz)
theorem am_k_tableswitch (Cx : am_Cx p s m args meth c D dA b0 base X k) {n0 z0 nl pc len : Nat} {ls st : List Value} {h : am_H} {σ' : am_P} {d lo hi : Int} {offs : Array Int} (hdg : decode (am_bytes k) pc = .ok (.tableswitch d lo hi offs, len)) (hlen : am_len (.tableswitch d lo hi offs) = 0 ∨ len = am_len (.tableswitch d lo hi offs)) (hdo : am_dp X k (.tableswitch d lo hi offs) pc st h = some σ') (hR1 : σ'.2.2.length ≤ R.cells + n0) (hR2 : am_sz σ'.2.2 ≤ R.slots + z0) (hfr : am_fr k ≤ R.frames) (hlo : am_lc k ≤ R.locals) (hnl : nl = am_mxl k) (kk : am_Go p l e R s m args below meth c Q D dA b0 base n0 z0 nl (σ'.1, ls, σ'.2.1, σ'.2.2)) : am_Go p l e R s m args below meth c Q D dA b0 base n0 z0 nl (pc, ls, st, h) := by
  obtain ⟨hx, hb, hml, hown, hts, hr, hlk, hin, hK, hN, hX, hb0, hbs⟩ := Cx
  simp only [am_dp] at hdo
  obtain ⟨x, r, rfl, hf⟩ := am_i1_inv hdo
  by_cases hq : x.toInt < lo ∨ hi < x.toInt
  · rw [if_pos hq] at hf
    obtain ⟨t, ht, rfl⟩ := am_go_inv hf
    intro H locs rl cells slots hW hS hl hn hc hz
    exact lv_tableOut hx hb hdg hq ht (kk H locs rl cells slots hW hS hl hn hc hz)
  · rw [if_neg hq] at hf
    split at hf
    · rename_i off ho
      obtain ⟨t, ht, rfl⟩ := am_go_inv hf
      intro H locs rl cells slots hW hS hl hn hc hz
      exact lv_tableIn hx hb hdg (fun z => hq (Or.inl z)) (fun z => hq (Or.inr z)) ho ht (kk H locs rl cells slots hW hS hl hn hc hz)
    · cases hf
theorem am_k_lookupswitch (Cx : am_Cx p s m args meth c D dA b0 base X k) {n0 z0 nl pc len : Nat} {ls st : List Value} {h : am_H} {σ' : am_P} {d : Int} {ps : Array (Int × Int)} (hdg : decode (am_bytes k) pc = .ok (.lookupswitch d ps, len)) (hlen : am_len (.lookupswitch d ps) = 0 ∨ len = am_len (.lookupswitch d ps)) (hdo : am_dp X k (.lookupswitch d ps) pc st h = some σ') (hR1 : σ'.2.2.length ≤ R.cells + n0) (hR2 : am_sz σ'.2.2 ≤ R.slots + z0) (hfr : am_fr k ≤ R.frames) (hlo : am_lc k ≤ R.locals) (hnl : nl = am_mxl k) (kk : am_Go p l e R s m args below meth c Q D dA b0 base n0 z0 nl (σ'.1, ls, σ'.2.1, σ'.2.2)) : am_Go p l e R s m args below meth c Q D dA b0 base n0 z0 nl (pc, ls, st, h) := by
  obtain ⟨hx, hb, hml, hown, hts, hr, hlk, hin, hK, hN, hX, hb0, hbs⟩ := Cx
  simp only [am_dp] at hdo
  obtain ⟨x, r, rfl, hf⟩ := am_i1_inv hdo
  split at hf
  · rename_i hp
    obtain ⟨t, ht, rfl⟩ := am_go_inv hf
    intro H locs rl cells slots hW hS hl hn hc hz
    exact lv_lookup hx hb hdg hp rfl ht (kk H locs rl cells slots hW hS hl hn hc hz)
  · cases hf
end AMT
