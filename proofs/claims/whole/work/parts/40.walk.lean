/-! WALKING THE PLAIN MACHINE, goal first -/
/-- from this state of method k, whose calls have d frames, the plain machine comes to an answer and a heap with Q -/
def am_w (X : Nat × (Nat → Int32)) (d k : Nat) (σ : am_S) (Q : Option Value → am_H → Prop) : Prop := ∃ n r h', am_run X (am_call X d) k n σ (r, h') ∧ Q r h'
/-- method k called -/
def am_c (X : Nat × (Nat → Int32)) (d k : Nat) (as : List Value) (h : am_H) (Q : Option Value → am_H → Prop) : Prop := ∃ r h', am_call X d k as h (r, h') ∧ Q r h'
section AMW
variable {X : Nat × (Nat → Int32)} {d k pc : Nat} {ls st : List Value} {h : am_H} {i : Instr} {Q : Option Value → am_H → Prop}
theorem am_w.go {σ' : am_S} (hi : am_code k pc = some i) (hd : am_do X k i pc ls st h = some σ') (kk : am_w X d k σ' Q) : am_w X d k (pc, ls, st, h) Q := by
  obtain ⟨n, r, h', h1, h2⟩ := kk
  exact ⟨n + 1, r, h', ⟨i, hi, Or.inl ⟨σ', hd, h1⟩⟩, h2⟩
theorem am_w.ret {r : Option Value} {h' : am_H} (hi : am_code k pc = some i) (hr : am_rt k i st h = some (r, h')) (hq : Q r h') : am_w X d k (pc, ls, st, h) Q :=
  ⟨1, r, h', ⟨i, hi, Or.inr (Or.inl hr)⟩, hq⟩
theorem am_w.call {k' pc' : Nat} {as ls' st' : List Value} {h0 : am_H} {Q' : Option Value → am_H → Prop} (hi : am_code k pc = some i) (hc : am_cl k i pc ls st h = some (k', as, (pc', ls', st', h0))) (hC : am_c X d k' as h0 Q') (kk : ∀ r h', Q' r h' → am_w X d k (pc', ls', r.toList ++ st', h') Q) : am_w X d k (pc, ls, st, h) Q := by
  obtain ⟨r, h', h1, h2⟩ := hC
  obtain ⟨n, r2, h2', h3, h4⟩ := kk r h' h2
  exact ⟨n + 1, r2, h2', ⟨i, hi, Or.inr (Or.inr ⟨k', as, pc', ls', st', h0, r, h', hc, h1, h3⟩)⟩, h4⟩
theorem am_c.of {as : List Value} (hl : (am_lay as).length ≤ am_mxl k) (hw : am_w X d k (0, am_ent as (am_mxl k), [], h) Q) : am_c X (d + 1) k as h Q := by
  obtain ⟨n, r, h', h1, h2⟩ := hw
  exact ⟨r, h', ⟨hl, n, h1⟩, h2⟩
theorem am_w.mono {σ : am_S} {Q' : Option Value → am_H → Prop} (h : am_w X d k σ Q') (hq : ∀ r h', Q' r h' → Q r h') : am_w X d k σ Q := by
  obtain ⟨n, r, h', h1, h2⟩ := h
  exact ⟨n, r, h', h1, hq r h' h2⟩
theorem am_c.mono {as : List Value} {Q' : Option Value → am_H → Prop} (hc : am_c X d k as h Q') (hq : ∀ r h', Q' r h' → Q r h') : am_c X d k as h Q := by
  obtain ⟨r, h', h1, h2⟩ := hc
  exact ⟨r, h', h1, hq r h' h2⟩
end AMW
/-! a state may know less of its locals -/
def am_lq : List Value → List Value → Prop
  | [], [] => True
  | a :: l, b :: l' => (b = am_U ∨ a = b) ∧ am_lq l l'
  | _, _ => False
theorem am_lq.rf : ∀ l : List Value, am_lq l l
  | [] => trivial
  | _ :: l => ⟨Or.inr rfl, am_lq.rf l⟩
theorem am_lq.len : ∀ {l l' : List Value}, am_lq l l' → l.length = l'.length
  | [], [], _ => rfl
  | _ :: _, _ :: _, h => by simp [am_lq.len h.2]
theorem am_lq.get : ∀ {l l' : List Value} {i : Nat} {v : Value}, am_lq l l' → l'[i]? = some v → v ≠ am_U → l[i]? = some v
  | [], [], _, _, _, h, _ => by simp at h
  | a :: l, b :: l', 0, v, hq, h, hv => by
    have e : b = v := Option.some.inj h
    rcases hq.1 with e1 | e1
    · exact absurd (e.symm.trans e1) hv
    · rw [e1]; exact h
  | a :: l, b :: l', i + 1, v, hq, h, hv => am_lq.get (l := l) (l' := l') (i := i) hq.2 h hv
theorem am_lq.set : ∀ {l l' : List Value} (i : Nat) (v : Value), am_lq l l' → am_lq (l.set i v) (l'.set i v)
  | [], [], _, _, _ => trivial
  | a :: l, b :: l', 0, v, hq => ⟨Or.inr rfl, hq.2⟩
  | a :: l, b :: l', i + 1, v, hq => ⟨hq.1, am_lq.set i v hq.2⟩
theorem am_lq.setl : ∀ {l l' : List Value} (i : Nat) (v : Value), am_lq l l' → l'[i]? = some am_U → am_lq (l.set i v) l'
  | [], [], _, _, _, _ => trivial
  | a :: l, b :: l', 0, v, hq, h => ⟨Or.inl (Option.some.inj h), hq.2⟩
  | a :: l, b :: l', i + 1, v, hq, h => ⟨hq.1, am_lq.setl i v hq.2 h⟩
theorem am_lq.cut {l l' : List Value} (x : Nat) (hq : am_lq l l') : am_lq (am_cut l x) (am_cut l' x) := by
  cases x with
  | zero => exact hq
  | succ y =>
    cases hy : l'[y]? with
    | none =>
      have hy2 : l[y]? = none := by
        rw [List.getElem?_eq_none_iff] at hy ⊢
        rw [hq.len]; exact hy
      simp only [am_cut, hy, hy2]
      exact hq
    | some w =>
      by_cases hw : w = am_U
      · subst hw
        have e : am_cut l' (y + 1) = l' := by simp only [am_cut, hy]
        rw [e]
        unfold am_cut
        dsimp only
        split
        · exact hq.setl y _ hy
        · exact hq.setl y _ hy
        · exact hq
      · have hy2 := hq.get hy hw
        unfold am_cut
        dsimp only
        rw [hy, hy2]
        cases w <;> first | exact hq.set y _ | exact hq
theorem am_lq.p1 {l l' : List Value} (x : Nat) (v : Value) (hq : am_lq l l') : am_lq (am_p1 l x v) (am_p1 l' x v) := (hq.cut x).set x v
theorem am_lq.p2 {l l' : List Value} (x : Nat) (v : Value) (hq : am_lq l l') : am_lq (am_p2 l x v) (am_p2 l' x v) := ((hq.cut x).set x v).set (x + 1) _
theorem am_dl_wk {pc : Nat} {i : Instr} {ls ls' st : List Value} {h : am_H} {σ' : am_S} (hq : am_lq ls ls') (hdo : am_dl i pc ls' st h = some σ') : ∃ l1, am_dl i pc ls st h = some (σ'.1, l1, σ'.2.2.1, σ'.2.2.2) ∧ am_lq l1 σ'.2.1 := by
  cases i <;> try (exact nomatch (show (none : Option am_S) = some _ from hdo))
  case iload x =>
    simp only [am_dl] at hdo ⊢
    obtain ⟨v, hv, hf⟩ := am_gi_inv hdo
    have hv2 := hq.get hv (fun q => by cases q)
    obtain rfl := am_nl_inv hf
    exact ⟨ls, by simp only [am_gi, hv2]; rfl, hq⟩
  case iload_n x =>
    simp only [am_dl] at hdo ⊢
    obtain ⟨v, hv, hf⟩ := am_gi_inv hdo
    have hv2 := hq.get hv (fun q => by cases q)
    obtain rfl := am_nl_inv hf
    exact ⟨ls, by simp only [am_gi, hv2]; rfl, hq⟩
  case lload x =>
    simp only [am_dl] at hdo ⊢
    obtain ⟨v, hv, hf⟩ := am_gl_inv hdo
    have hv2 := hq.get hv (fun q => by cases q)
    obtain rfl := am_nl_inv hf
    exact ⟨ls, by simp only [am_gl, hv2]; rfl, hq⟩
  case lload_n x =>
    simp only [am_dl] at hdo ⊢
    obtain ⟨v, hv, hf⟩ := am_gl_inv hdo
    have hv2 := hq.get hv (fun q => by cases q)
    obtain rfl := am_nl_inv hf
    exact ⟨ls, by simp only [am_gl, hv2]; rfl, hq⟩
  case aload x =>
    simp only [am_dl] at hdo ⊢
    obtain ⟨v, hv, hk, hf⟩ := am_ga_inv hdo
    obtain rfl := am_nl_inv hf
    rcases hk with ⟨a, rfl⟩ | rfl
    · have hv2 := hq.get hv (fun q => by cases q)
      exact ⟨ls, by simp only [am_ga, hv2]; rfl, hq⟩
    · have hv2 := hq.get hv (fun q => by cases q)
      exact ⟨ls, by simp only [am_ga, hv2]; rfl, hq⟩
  case aload_n x =>
    simp only [am_dl] at hdo ⊢
    obtain ⟨v, hv, hk, hf⟩ := am_ga_inv hdo
    obtain rfl := am_nl_inv hf
    rcases hk with ⟨a, rfl⟩ | rfl
    · have hv2 := hq.get hv (fun q => by cases q)
      exact ⟨ls, by simp only [am_ga, hv2]; rfl, hq⟩
    · have hv2 := hq.get hv (fun q => by cases q)
      exact ⟨ls, by simp only [am_ga, hv2]; rfl, hq⟩
  case istore x =>
    simp only [am_dl] at hdo ⊢
    obtain ⟨v, r, rfl, hf⟩ := am_i1_inv hdo
    split at hf
    · rename_i hx
      obtain rfl := am_nl_inv hf
      exact ⟨_, by simp only [am_i1]; rw [if_pos (by rw [hq.len]; exact hx)]; rfl, hq.p1 _ _⟩
    · cases hf
  case istore_n x =>
    simp only [am_dl] at hdo ⊢
    obtain ⟨v, r, rfl, hf⟩ := am_i1_inv hdo
    split at hf
    · rename_i hx
      obtain rfl := am_nl_inv hf
      exact ⟨_, by simp only [am_i1]; rw [if_pos (by rw [hq.len]; exact hx)]; rfl, hq.p1 _ _⟩
    · cases hf
  case lstore x =>
    simp only [am_dl] at hdo ⊢
    obtain ⟨v, r, rfl, hf⟩ := am_l1_inv hdo
    split at hf
    · rename_i hx
      obtain rfl := am_nl_inv hf
      exact ⟨_, by simp only [am_l1]; rw [if_pos (by rw [hq.len]; exact hx)]; rfl, hq.p2 _ _⟩
    · cases hf
  case lstore_n x =>
    simp only [am_dl] at hdo ⊢
    obtain ⟨v, r, rfl, hf⟩ := am_l1_inv hdo
    split at hf
    · rename_i hx
      obtain rfl := am_nl_inv hf
      exact ⟨_, by simp only [am_l1]; rw [if_pos (by rw [hq.len]; exact hx)]; rfl, hq.p2 _ _⟩
    · cases hf
  case astore x =>
    simp only [am_dl] at hdo ⊢
    obtain ⟨v, r, rfl, hf⟩ := am_r1_inv hdo
    split at hf
    · rename_i hx
      obtain rfl := am_nl_inv hf
      exact ⟨_, by simp only [am_r1]; rw [if_pos (by rw [hq.len]; exact hx)]; rfl, hq.p1 _ _⟩
    · cases hf
  case astore_n x =>
    simp only [am_dl] at hdo ⊢
    obtain ⟨v, r, rfl, hf⟩ := am_r1_inv hdo
    split at hf
    · rename_i hx
      obtain rfl := am_nl_inv hf
      exact ⟨_, by simp only [am_r1]; rw [if_pos (by rw [hq.len]; exact hx)]; rfl, hq.p1 _ _⟩
    · cases hf
  case iinc x n =>
    simp only [am_dl] at hdo ⊢
    obtain ⟨v, hv, hf⟩ := am_gi_inv hdo
    have hv2 := hq.get hv (fun q => by cases q)
    obtain rfl := am_nl_inv hf
    exact ⟨_, by simp only [am_gi, hv2]; rfl, hq.p1 _ _⟩
theorem am_do_wk {X : Nat × (Nat → Int32)} {k pc : Nat} {i : Instr} {ls ls' st : List Value} {h : am_H} {σ' : am_S} (hq : am_lq ls ls') (hdo : am_do X k i pc ls' st h = some σ') : ∃ l1, am_do X k i pc ls st h = some (σ'.1, l1, σ'.2.2.1, σ'.2.2.2) ∧ am_lq l1 σ'.2.1 := by
  unfold am_do at hdo ⊢
  split at hdo
  · cases hdo
    exact ⟨ls, rfl, hq⟩
  · exact am_dl_wk hq hdo
theorem am_inv_wk {k kind : Nat} {q : Option (Nat × Nat × Nat)} {pc k' pc' : Nat} {ls ls' st as l1 st' : List Value} {h h0 : am_H} (hk : kind < 3) (hq : am_inv k kind q pc ls' st h = some (k', as, (pc', l1, st', h0))) : l1 = ls' ∧ am_inv k kind q pc ls st h = some (k', as, (pc', ls, st', h0)) := by
  match kind, hk with
  | 0, _ =>
    obtain ⟨np, rfl, h0, h1, h2, rfl, rfl, rfl, e2, e3⟩ := am_inv0 hq
    refine ⟨e2, ?_⟩
    simp [am_inv, h0, h1, h2, e3]
  | 1, _ =>
    obtain ⟨np, a, fs, rfl, h0, h1, h2, h3, h4, rfl, rfl, e2, e3⟩ := am_inv1 hq
    refine ⟨e2, ?_⟩
    simp [am_inv, h0, h1, h2, h3, h4, e3]
  | 2, _ =>
    obtain ⟨np, a, rfl, h0, h1, h2, h4, rfl, rfl, e2, e3⟩ := am_inv2 hq
    refine ⟨e2, ?_⟩
    simp [am_inv, h0, h1, h2, h4, e3]
theorem am_cl_wk {k pc k' pc' : Nat} {i : Instr} {ls ls' st as l1 st' : List Value} {h h0 : am_H} (hq : am_cl k i pc ls' st h = some (k', as, (pc', l1, st', h0))) : l1 = ls' ∧ am_cl k i pc ls st h = some (k', as, (pc', ls, st', h0)) := by
  cases i <;> first
    | exact nomatch (show (none : Option (Nat × List Value × am_S)) = some _ from hq)
    | exact am_inv_wk (kind := 0) (by decide) hq
    | exact am_inv_wk (kind := 1) (by decide) hq
    | exact am_inv_wk (kind := 2) (by decide) hq
theorem am_run_wk {X : Nat × (Nat → Int32)} {C : Nat → List Value → am_H → Option Value × am_H → Prop} {k : Nat} : ∀ (n pc : Nat) (ls ls' st : List Value) (h : am_H) (ρ : Option Value × am_H), am_lq ls ls' → am_run X C k n (pc, ls', st, h) ρ → am_run X C k n (pc, ls, st, h) ρ
  | 0, _, _, _, _, _, _, _, h => h.elim
  | n + 1, pc, ls, ls', st, h, ρ, hq, hr => by
    obtain ⟨i, hi, ⟨σ', h1, h2⟩ | h1 | ⟨k', as, pc', l1, st', h0, r, h', h1, h2, h3⟩⟩ := hr
    · obtain ⟨l1, g1, g2⟩ := am_do_wk (X := X) hq h1
      exact ⟨i, hi, Or.inl ⟨_, g1, am_run_wk n _ _ _ _ _ ρ g2 h2⟩⟩
    · exact ⟨i, hi, Or.inr (Or.inl h1)⟩
    · obtain ⟨rfl, g1⟩ := am_cl_wk (ls := ls) h1
      exact ⟨i, hi, Or.inr (Or.inr ⟨k', as, pc', ls, st', h0, r, h', g1, h2, am_run_wk n _ _ _ _ _ ρ hq h3⟩)⟩
theorem am_w.wk {X : Nat × (Nat → Int32)} {d k pc : Nat} {ls ls' st : List Value} {h : am_H} {Q : Option Value → am_H → Prop} (hq : am_lq ls ls') (hw : am_w X d k (pc, ls', st, h) Q) : am_w X d k (pc, ls, st, h) Q := by
  obtain ⟨n, r, h', h1, h2⟩ := hw
  exact ⟨n, r, h', am_run_wk n pc ls ls' st h _ hq h1, h2⟩
