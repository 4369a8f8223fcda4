/-! EACH CALL IS THE STATEMENT'S -/
theorem am_mck0 : am_met_0.all am_mck = true := by decide +kernel
theorem am_mck1 : am_met_1.all am_mck = true := by decide +kernel
theorem am_mck2 : am_met_2.all am_mck = true := by decide +kernel
theorem am_mck3 : am_met_3.all am_mck = true := by decide +kernel
theorem am_mck4 : am_met_4.all am_mck = true := by decide +kernel
theorem am_mck5 : am_met_5.all am_mck = true := by decide +kernel
theorem am_mck6 : am_met_6.all am_mck = true := by decide +kernel
theorem am_mck7 : am_met_7.all am_mck = true := by decide +kernel
theorem am_mck8 : am_met_8.all am_mck = true := by decide +kernel
theorem am_mck9 : am_met_9.all am_mck = true := by decide +kernel
theorem am_mck10 : am_met_10.all am_mck = true := by decide +kernel
theorem am_mck_ok : am_metL.all am_mck = true := by
  unfold am_metL
  simp only [List.all_append, am_mck0, am_mck1, am_mck2, am_mck3, am_mck4, am_mck5, am_mck6, am_mck7, am_mck8, am_mck9, am_mck10, Bool.and_self]
theorem am_mmax_c : Cond.code Lib.Math.max.name Lib.Math.max.code 2 (some .int) ∈ am_WT := List.mem_filter.mpr ⟨am_tb1 (List.mem_of_getElem? (i := 120) rfl), rfl⟩
theorem am_mmin_c : Cond.code Lib.Math.min.name Lib.Math.min.code 2 (some .int) ∈ am_WT := List.mem_filter.mpr ⟨am_tb3 (List.mem_of_getElem? (i := 22) rfl), rfl⟩
theorem am_mabs_c : Cond.code Lib.MathLoose.abs_long.x Lib.MathLoose.abs_long.code 2 (some .long) ∈ am_WT := List.mem_filter.mpr ⟨am_tb3 (List.mem_of_getElem? (i := 210) rfl), rfl⟩
theorem am_math_i : Cond.initialized "java/lang/Math" ∈ am_WT := am_at_in (p := 85) (by decide +kernel)
theorem am_met_ok3 {o j a b : Nat} (h : am_met o j = some (3, a, b)) : Cond.methodLink (am_cn o) j Lib.objectInit ∈ am_WT := by
  obtain ⟨⟨kd, k, np, p1, p2, p3⟩, h1, h2⟩ := am_map_inv h
  have e1 : kd = 3 := congrArg Prod.fst h2
  subst e1
  exact am_at_in (List.all_eq_true.mp am_mck_ok _ (am_fnd_mem h1))
theorem am_met_max {o j b : Nat} (h : am_met o j = some (4, 0, b)) : Cond.methodLink (am_cn o) j Lib.Math.max.name ∈ am_WT ∧ Cond.static Lib.Math.max.name ∈ am_WT := by
  obtain ⟨⟨kd, k, np, p1, p2, p3⟩, h1, h2⟩ := am_map_inv h
  have e1 : kd = 4 := congrArg Prod.fst h2
  have e2 : k = 0 := congrArg (fun q => q.2.1) h2
  subst e1 e2
  have h3 := List.all_eq_true.mp am_mck_ok _ (am_fnd_mem h1)
  have h4 : (am_at p1 (.methodLink (am_cn o) j Lib.Math.max.name) && am_at p2 (.static Lib.Math.max.name)) = true := h3
  rw [Bool.and_eq_true] at h4
  exact ⟨am_at_in h4.1, am_at_in h4.2⟩
theorem am_met_min {o j b : Nat} (h : am_met o j = some (4, 1, b)) : Cond.methodLink (am_cn o) j Lib.Math.min.name ∈ am_WT ∧ Cond.static Lib.Math.min.name ∈ am_WT := by
  obtain ⟨⟨kd, k, np, p1, p2, p3⟩, h1, h2⟩ := am_map_inv h
  have e1 : kd = 4 := congrArg Prod.fst h2
  have e2 : k = 1 := congrArg (fun q => q.2.1) h2
  subst e1 e2
  have h3 := List.all_eq_true.mp am_mck_ok _ (am_fnd_mem h1)
  have h4 : (am_at p1 (.methodLink (am_cn o) j Lib.Math.min.name) && am_at p2 (.static Lib.Math.min.name)) = true := h3
  rw [Bool.and_eq_true] at h4
  exact ⟨am_at_in h4.1, am_at_in h4.2⟩
theorem am_met_abs {o j b : Nat} (h : am_met o j = some (4, 5, b)) : Cond.methodLink (am_cn o) j Lib.MathLoose.abs_long.x ∈ am_WT ∧ Cond.static Lib.MathLoose.abs_long.x ∈ am_WT := by
  obtain ⟨⟨kd, k, np, p1, p2, p3⟩, h1, h2⟩ := am_map_inv h
  have e1 : kd = 4 := congrArg Prod.fst h2
  have e2 : k = 5 := congrArg (fun q => q.2.1) h2
  subst e1 e2
  have h3 := List.all_eq_true.mp am_mck_ok _ (am_fnd_mem h1)
  have h4 : (am_at p1 (.methodLink (am_cn o) j Lib.MathLoose.abs_long.x) && am_at p2 (.static Lib.MathLoose.abs_long.x)) = true := h3
  rw [Bool.and_eq_true] at h4
  exact ⟨am_at_in h4.1, am_at_in h4.2⟩
theorem am_met_ok {o j kd k np : Nat} (h : am_met o j = some (kd, k, np)) (hk : kd < 3) : am_mok k ∧ (parseMethodDescriptor (am_name k).desc).map (fun d => d.parameters.length) = some np ∧ (Cond.methodLink (am_cn o) j (am_name k) ∈ am_WT ∨ ∃ host, (am_cn o, j, am_name k, host) ∈ am_NM) ∧ (kd = 0 → Cond.static (am_name k) ∈ am_WT) ∧ (kd = 1 → Cond.instanceMethod (am_name k) ∈ am_WT ∧ ∃ (C : String) (T : u_T) (N : Nat), vwCl[am_rcv k]? = some (C, T, N) ∧ Cond.selects C (am_name k) (am_name k) ∈ am_WT) ∧ (kd = 2 → Cond.instanceMethod (am_name k) ∈ am_WT ∧ (am_name k).name = "<init>" ∧ am_ret k = none) := by
  obtain ⟨⟨kd1, k1, np1, p1, p2, p3⟩, h1, h2⟩ := am_map_inv h
  have e1 : kd1 = kd := congrArg Prod.fst h2
  have e2 : k1 = k := congrArg (fun q => q.2.1) h2
  have e3 : np1 = np := congrArg (fun q => q.2.2) h2
  subst e1 e2 e3
  have h3 := List.all_eq_true.mp am_mck_ok _ (am_fnd_mem h1)
  have lk : (am_at p1 (Cond.methodLink (am_cn o) j (am_name k1)) || decide ((am_cn o, j, am_name k1, "SectionTemplates") ∈ am_NM)) = true → (Cond.methodLink (am_cn o) j (am_name k1) ∈ am_WT ∨ ∃ host, (am_cn o, j, am_name k1, host) ∈ am_NM) := by
    intro hq
    rw [Bool.or_eq_true] at hq
    rcases hq with q | q
    · exact Or.inl (am_at_in q)
    · exact Or.inr ⟨_, of_decide_eq_true q⟩
  match kd1, hk, h3 with
  | 0, _, h3 =>
    simp only [am_mck, Bool.and_eq_true] at h3
    obtain ⟨⟨⟨g1, g2⟩, g3⟩, g4⟩ := h3
    exact ⟨am_mk (of_decide_eq_true g1), of_decide_eq_true g2, lk g3, fun _ => am_at_in g4, (fun q => by cases q), (fun q => by cases q)⟩
  | 1, _, h3 =>
    simp only [am_mck, Bool.and_eq_true] at h3
    obtain ⟨⟨⟨⟨g1, g2⟩, g3⟩, g4⟩, g5⟩ := h3
    refine ⟨am_mk (of_decide_eq_true g1), of_decide_eq_true g2, lk g3, (fun q => by cases q), fun _ => ⟨am_at_in g4, ?_⟩, (fun q => by cases q)⟩
    split at g5
    · rename_i C T N hc
      exact ⟨C, T, N, hc, am_at_in g5⟩
    · cases g5
  | 2, _, h3 =>
    simp only [am_mck, Bool.and_eq_true] at h3
    obtain ⟨⟨⟨⟨⟨g1, g2⟩, g3⟩, g4⟩, g5⟩, g6⟩ := h3
    exact ⟨am_mk (of_decide_eq_true g1), of_decide_eq_true g2, lk g3, (fun q => by cases q), (fun q => by cases q), fun _ => ⟨am_at_in g4, of_decide_eq_true g5, of_decide_eq_true g6⟩⟩
theorem am_cls_ok {ci : Nat} {C : String} {T : u_T} {N : Nat} (h : vwCl[ci]? = some (C, T, N)) : (∀ w ∈ u_ws C T N, w ∈ am_WT) ∧ (∀ k, k < N → parseFieldDescriptor (T k).2.2.1 = some (am_fty ci k)) ∧ (∀ a, a < N → ∀ b, b < N → a ≠ b → (T a).2.1 ≠ (T b).2.1) := by
  obtain ⟨⟨⟨⟨⟨⟨g1, g2⟩, g3⟩, g4⟩, g5⟩, g6⟩, g7⟩ := am_cls7 h
  refine ⟨fun w hw => ?_, g2, fun a ha b hb hne => (g3 a ha b hb).resolve_left hne⟩
  obtain ⟨k, hk, rfl⟩ := List.mem_map.mp hw
  exact am_at_in (g1 k (List.mem_range.mp hk))
theorem am_ctor_own {k ci : Nat} {C : String} {T : u_T} {N : Nat} (h : am_ctor k ci = true) (hc : vwCl[ci]? = some (C, T, N)) : am_isi k = true ∧ ∀ f, f < N → (T f).1 = am_cn (am_own k) := by
  have h' := h
  unfold am_ctor at h'
  rw [Bool.and_eq_true] at h'
  have hr : am_rcv k = ci := eq_of_beq h'.2
  have hk : k < 209 := by
    rcases Nat.lt_or_ge k 209 with q | q
    · exact q
    · have h1 : am_isi k = false := by
        unfold am_isi am_m
        rw [List.getElem?_eq_none (by exact q)]
        rfl
      rw [h1] at h'
      cases h'.1
  have h2 := List.all_eq_true.mp am_kck_ok k (List.mem_range.mpr hk)
  unfold am_kck at h2
  rw [h'.1, hr, hc] at h2
  exact am_ctor_ok h hc (by simpa using h2)
