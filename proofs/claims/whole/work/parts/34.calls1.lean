/-! CALLS, RETURNS, WHOLE METHODS -/
def am_wsm (k : Nat) : List Cond := Cond.code (am_name k) (am_bytes k) (am_mxl k) (am_ret k) :: am_WT
theorem am_good {k : Nat} (h : am_mok k) : GoodIn am_WT (am_wsm k) := by
  intro w hw
  rcases List.mem_cons.mp hw with rfl | hw
  · exact ⟨h.2.1, am_WT_good _ h.2.1⟩
  · exact ⟨hw, am_WT_good _ hw⟩
/-- the world at a method's start and end -/
def am_W0 (D : va_G) (dA : Nat → ClassId) (b0 base : Nat) (X : Nat × (Nat → Int32)) (h : am_H) (U : State) : Prop :=
  am_Wd D dA b0 base h U.heap ∧ va_K D vwCl (am_tys dA) U ∧ am_NW U ∧ va_X b0 X.1 X.2 U U.heap ∧ b0 < base
def am_Q (D : va_G) (dA : Nat → ClassId) (b0 base : Nat) (X : Nat × (Nat → Int32)) (r : Option Value) (h' : am_H) : Array Value → State → Outcome → State → Prop := fun _ st o t =>
  (o = .returned (r.map (am_v b0 base)) ∧ am_W0 D dA b0 base X h' t) ∧ va_F (am_A base) st t
def am_rm (k n z : Nat) : Room := { frames := am_fr k, cells := n, slots := z, locals := am_lc k }
/-- method k, from arguments and a heap, comes to this answer and this heap -/
def am_Met (l : Launch) (D : va_G) (dA : Nat → ClassId) (b0 base : Nat) (X : Nat × (Nat → Int32)) (k : Nat) (as : List Value) (h : am_H) (r : Option Value) (h' : am_H) : Prop :=
  Met l (am_name k) (am_wsm k) (am_rm k (h'.length - h.length) (am_sz h' - am_sz h)) (va_Pc (as.map (am_v b0 base)) (am_W0 D dA b0 base X h)) (am_Q D dA b0 base X r h') (h'.length - h.length) (am_sz h' - am_sz h) (am_A base)
theorem am_NW_warm {s U : State} (hW : s.WarmedH U.vm) (h : am_NW s) : am_NW U := ⟨fun q hq => va_Nw.warmF hW (h.1 q hq), fun q hq => va_Nw.warmM hW (h.2 q hq)⟩
theorem am_NW_same {s U : State} (hv : s.vm = U.vm) (h : am_NW s) : am_NW U := ⟨fun q hq => va_Nw.same rfl hv (h.1 q hq), fun q hq => va_Nw.same rfl hv (h.2 q hq)⟩
theorem am_blind {D : va_G} {dA : Nat → ClassId} {b0 base : Nat} {X : Nat × (Nat → Int32)} {h : am_H} {av : List Value} : FrameBlind (va_Pc av (am_W0 D dA b0 base X h)) := by
  intro a U g mk q
  obtain ⟨q0, q1, q2, q3, q4, q5⟩ := q
  exact ⟨q0, q1, va_K.moved (u := U) (U := U.calling g mk a) (Vm.Alike.refl U.vm) q2, am_NW_same (s := U) (U := U.calling g mk a) rfl q3, va_X.moved (u := U) (U := U.calling g mk a) (Vm.Alike.refl U.vm) q4, q5⟩
theorem am_inv0 {k : Nat} {q : Option (Nat × Nat × Nat)} {pc k' pc' : Nat} {ls st as ls' st' : List Value} {h h0 : am_H} (hq : am_inv k 0 q pc ls st h = some (k', as, (pc', ls', st', h0))) : ∃ np, q = some (0, k', np) ∧ am_may k k' = true ∧ np ≤ st.length ∧ am_low st' = true ∧ as = (st.take np).reverse ∧ st' = st.drop np ∧ pc' = pc + 3 ∧ ls' = ls ∧ h0 = h := by
  unfold am_inv at hq
  split at hq
  · cases hq
  · split at hq
    · cases hq
    · rename_i hk
      rw [Bool.and_eq_true, Bool.and_eq_true] at hk
      have e1 := eq_of_beq hk.1.1
      subst e1
      split at hq <;> first | (rename_i e; exact absurd e (by decide)) | (cases hq; done) | skip
      split at hq
      · rename_i hl
        cases hq
        exact ⟨_, rfl, hk.2, of_decide_eq_true hk.1.2, hl, rfl, rfl, rfl, rfl, rfl⟩
      · cases hq
theorem am_inv1 {k : Nat} {q : Option (Nat × Nat × Nat)} {pc k' pc' : Nat} {ls st as ls' st' : List Value} {h h0 : am_H} (hq : am_inv k 1 q pc ls st h = some (k', as, (pc', ls', st', h0))) : ∃ np a fs, q = some (1, k', np) ∧ am_may k k' = true ∧ np ≤ st.length ∧ st.drop np = .ref a :: st' ∧ h[a]? = some (.inr (am_rcv k', fs)) ∧ am_low st' = true ∧ as = .ref a :: (st.take np).reverse ∧ pc' = pc + 3 ∧ ls' = ls ∧ h0 = h := by
  unfold am_inv at hq
  split at hq
  · cases hq
  · split at hq
    · cases hq
    · rename_i hk
      rw [Bool.and_eq_true, Bool.and_eq_true] at hk
      have e1 := eq_of_beq hk.1.1
      subst e1
      split at hq <;> first | (rename_i e; exact absurd e (by decide)) | (cases hq; done) | skip
      split at hq
      · rename_i hd
        split at hq
        · rename_i hc
          split at hq
          · rename_i hl
            rw [Bool.and_eq_true] at hl
            have e2 := eq_of_beq hl.1
            subst e2
            cases hq
            exact ⟨_, _, _, rfl, hk.2, of_decide_eq_true hk.1.2, hd, hc, hl.2, rfl, rfl, rfl, rfl⟩
          · cases hq
        · cases hq
      · cases hq
theorem am_inv2 {k : Nat} {q : Option (Nat × Nat × Nat)} {pc k' pc' : Nat} {ls st as ls' st' : List Value} {h h0 : am_H} (hq : am_inv k 2 q pc ls st h = some (k', as, (pc', ls', st', h0))) : ∃ np a, q = some (2, k', np) ∧ am_may k k' = true ∧ np ≤ st.length ∧ st.drop np = .ref a :: st' ∧ am_low st' = true ∧ as = .ref a :: (st.take np).reverse ∧ pc' = pc + 3 ∧ ls' = ls ∧ h0 = h := by
  unfold am_inv at hq
  split at hq
  · cases hq
  · split at hq
    · cases hq
    · rename_i hk
      rw [Bool.and_eq_true, Bool.and_eq_true] at hk
      have e1 := eq_of_beq hk.1.1
      subst e1
      split at hq <;> first | (rename_i e; exact absurd e (by decide)) | (cases hq; done) | skip
      split at hq
      · rename_i hd
        split at hq
        · rename_i hl
          cases hq
          exact ⟨_, _, rfl, hk.2, of_decide_eq_true hk.1.2, hd, hl, rfl, rfl, rfl, rfl⟩
        · cases hq
      · cases hq
theorem am_cl_eq {k pc k' pc' : Nat} {i : Instr} {ls st as ls' st' : List Value} {h h0 : am_H} (hq : am_cl k i pc ls st h = some (k', as, (pc', ls', st', h0))) : pc' = pc + 3 ∧ ls' = ls ∧ h0 = h := by
  cases i <;> try (exact nomatch (show (none : Option (Nat × List Value × am_S)) = some _ from hq))
  case invokestatic j =>
    obtain ⟨_, _, _, _, _, _, _, e⟩ := am_inv0 (show am_inv k 0 _ pc ls st h = _ from hq)
    exact e
  case invokevirtual j =>
    obtain ⟨_, _, _, _, _, _, _, _, _, _, e⟩ := am_inv1 (show am_inv k 1 _ pc ls st h = _ from hq)
    exact e
  case invokespecial j =>
    obtain ⟨_, _, _, _, _, _, _, _, e⟩ := am_inv2 (show am_inv k 2 _ pc ls st h = _ from hq)
    exact e
theorem am_low_map {b0 base : Nat} {st : List Value} (h : am_low st = true) : ((st.map (am_v b0 base)).map fun v => v.category).sum ≤ 8 := by
  have h1 := of_decide_eq_true h
  rw [List.map_map, show ((fun v : Value => v.category) ∘ am_v b0 base) = (fun v : Value => v.category) from funext (am_v_cat b0 base)]
  exact h1
theorem am_take_map (b0 base : Nat) (st : List Value) (np : Nat) : st.map (am_v b0 base) = ((st.take np).reverse.map (am_v b0 base)).reverse ++ (st.drop np).map (am_v b0 base) := by
  rw [List.map_reverse, List.reverse_reverse, ← List.map_append, List.take_append_drop]
