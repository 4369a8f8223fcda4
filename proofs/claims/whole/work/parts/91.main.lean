/-! FROM THE PLAIN MACHINE TO THE CLAIM -/
/-- THE 208 ON THE PLAIN MACHINE: on every script of at most 2048 ints it comes to 1, within the room -/
def am_Main : Prop := ∀ X : Nat × (Nat → Int32), X.1 ≤ 2048 → ∃ (d : Nat) (h' : am_H), am_call X d 208 [am_X] [] (some (.int 1), h') ∧ h'.length ≤ 600000 ∧ am_sz h' ≤ 7302250
theorem am_ins_ok : (List.range 13).all (fun ci => match vwCl[ci]? with | some (C, _, N) => lw_tbl.contains (.instantiable C N) | none => true) = true := by decide +kernel
theorem am_known {s : State} {args : Array Value} (hts : ∀ w ∈ lw_tbl, w.before args s = true) : ∃ (dC : Nat → ClassId) (dI : Nat → Nat → Nat), ∀ (k : Nat) (q : vw_C), vwCl[k]? = some q → u_Kn s q.1 q.2.1 q.2.2 (dC k) (dI k) := by
  have h1 : ∀ k : Nat, ∃ y : ClassId × (Nat → Nat), ∀ q : vw_C, vwCl[k]? = some q → u_Kn s q.1 q.2.1 q.2.2 y.1 y.2 := by
    intro k
    cases hk : vwCl[k]? with
    | none => exact ⟨(0, fun _ => 0), fun q hq => by cases hq⟩
    | some q =>
      obtain ⟨C, T, N⟩ := q
      have hl : k < 13 := (List.getElem?_eq_some_iff.mp hk).1
      have h2 := List.all_eq_true.mp am_ins_ok k (List.mem_range.mpr hl)
      rw [hk] at h2
      have h3 : Cond.instantiable C N ∈ lw_tbl := List.contains_iff_mem.mp h2
      obtain ⟨cC, iS, hKn⟩ := u_known (C := C) (T := T) (N := N) (n := N) hts (fun w hw => (List.mem_filter.mp ((am_cls_ok hk).1 w hw)).1) (hts _ h3)
      exact ⟨(cC, iS), fun q hq => by cases hq; exact hKn⟩
  obtain ⟨f, hf⟩ := Classical.skolem.mp h1
  exact ⟨fun k => (f k).1, fun k => (f k).2, fun k q hq => hf k q hq⟩
theorem am_arr {s : State} {args : Array Value} {ty : FieldType} (h : (Cond.arrayClass ty).before args s = true) (hty : ∀ C, ty ≠ .object C) : ∃ cA : ClassId, ArrOfT s cA ty ∧ va_RA s cA ty := by
  obtain ⟨cA, kA, comp, h1, h2, h3⟩ := Cond.arrayClass_spec h
  refine ⟨cA, fun n z => ⟨fun k h => (by cases h), kA, h2, comp, h3⟩, ?_⟩
  cases ty <;> first | exact h1 | exact absurd rfl (hty _)
theorem whole_of_main (hM : am_Main) {p : Program} {e : Env} {s : State} {m : MethodId} {below : List Frame} {meth : Method} {c : Code} (l : Launch) {b L : Nat} {xs : Nat → Int32} (hL : L ≤ 2048) (C0 : lw_At p s m meth c b L xs) : W p l e room_1 s m #[Value.ref b] below meth c s.heap [] 0 0 (lw_Z below #[Value.ref b] s) (entryFrame m ([Value.ref b] : List Value).toArray 4) := by
  obtain ⟨hx, hb, hr, hml, hown, hts, hX, hbl, hlocks, hgv⟩ := C0
  have htsW : ∀ w ∈ am_WT, w.before #[Value.ref b] s = true := fun w hw => hts w (List.mem_filter.mp hw).1
  obtain ⟨dC, dI, hKc⟩ := am_known hts
  obtain ⟨cI, hI1, hI2⟩ := am_arr (htsW _ am_arr_i) (fun C q => by cases q)
  obtain ⟨cL, hL1, hL2⟩ := am_arr (htsW _ am_arr_l) (fun C q => by cases q)
  obtain ⟨cZ, hZ1, hZ2⟩ := am_arr (htsW _ am_arr_z) (fun C q => by cases q)
  obtain ⟨dA, e0, e1, e2⟩ : ∃ dA : Nat → ClassId, dA 0 = cI ∧ dA 1 = cL ∧ dA 2 = cZ := ⟨fun k => if k = 0 then cI else if k = 1 then cL else cZ, rfl, rfl, rfl⟩
  have hK : va_K (dC, dI) vwCl (am_tys dA) s := by
    refine ⟨hKc, fun k q hq => ?_⟩
    match k, hq with
    | 0, hq => cases hq; rw [e0]; exact ⟨hI1, hI2⟩
    | 1, hq => cases hq; rw [e1]; exact ⟨hL1, hL2⟩
    | 2, hq => cases hq; rw [e2]; exact ⟨hZ1, hZ2⟩
    | k + 3, hq => simp [am_tys] at hq
  have hN : am_NW s := by
    refine ⟨fun q hq => va_Nw.of rfl (hts _ (List.contains_iff_mem.mp (List.all_eq_true.mp am_NF_in q hq))), fun q hq => va_Nw.of rfl (hts _ (List.contains_iff_mem.mp (List.all_eq_true.mp am_NM_in q hq)))⟩
  obtain ⟨d, h', hc, hs1, hs2⟩ := hM (L, xs) hL
  cases d with
  | zero => exact hc.elim
  | succ d =>
    obtain ⟨hlay, n, hn⟩ := hc
    have Cx : am_Cx p s m #[Value.ref b] meth c (dC, dI) dA b s.heap.size (L, xs) 208 := ⟨hx, hb, hml, hown, htsW, hr, hlocks, (fun h => absurd h (by decide)), hK, hN, hX, hbl, Nat.le_refl _⟩
    rw [lg_entry_eq]
    refine am_run_ok Cx (n0 := 0) (z0 := 0) (d := d) (ρ := (some (.int 1), h')) (fun k' as h r h' hk' hq => am_sound l (dC, dI) dA b s.heap.size (L, xs) d k' as h r h' hk' hq) hs1 hs2 (by decide) (by decide) ?_ n _ hn s.heap [] _ 0 0 ⟨rfl, fun k q h => by cases h⟩ va_S.rf (am_ent_L (as := [am_X]) hlay) rfl rfl rfl
    intro pc ls st h1 i len hdg hlen hrt
    intro H locs rl cells slots hW hS hl hn hc hz
    have hh : h' = h1 := am_rt_h hrt
    subst hh
    cases i <;> try (exact nomatch (show (none : Option (Option Value × am_H)) = some _ from hrt))
    case ireturn =>
      obtain rfl : len = 1 := hlen.resolve_left (fun q => absurd q (by show ¬ (1 : Nat) = 0; decide))
      have hst : st = [.int 1] := by
        simp only [am_rt] at hrt
        split at hrt
        · split at hrt
          · split at hrt
            · cases hrt; rfl
            · cases hrt
          · cases hrt
        · cases hrt
      subst hst
      have hc1 : cells + 0 = h'.length := hc
      have hz1 : slots + 0 = am_sz h' := hz
      have hs1 : h'.length ≤ 600000 := hs1
      have hs2 : am_sz h' ≤ 7302250 := hs2
      refine va_forget (fun q hq => hS.2.2 q hq) ?_
      refine W.widen (k := 600000) (n := 7302250) (by omega) (by omega) ?_
      exact lw_ret hx hb hr hlocks hdg
    case lreturn =>
      simp only [am_rt] at hrt
      split at hrt
      · split at hrt
        · cases hrt
        · cases hrt
      · cases hrt
    case areturn =>
      simp only [am_rt] at hrt
      split at hrt
      · split at hrt
        · cases hrt
        · cases hrt
        · cases hrt
      · cases hrt
    case return_ =>
      simp only [am_rt] at hrt
      split at hrt
      · split at hrt
        · cases hrt
        · cases hrt
      · cases hrt
