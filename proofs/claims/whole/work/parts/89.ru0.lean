/-! THE REFERENCE MADE -/
section RUA
variable {X : Nat × (Nat → Int32)} {h0 h h' hh : am_H} {o V S : Nat → Int} {A : Nat → Nat → Int}
def ld0 : Nat → Int := updI (updI (updI Z0 0 1000000) 1 0) 2 1000000
def A00 : Nat → Nat → Int := updA (fun _ => Z0) 177 ld0
/-- a register's fraction made 0 -/
theorem rw_set0 {d f : Nat} (w : RW h0 h o V (updA A 167 S)) (hf : f < 130) : am_c X (d + 3) 140 [.ref 164, .int (iI f), .long (lI 0), .long (lI 1)] h (fun r h' => r = none ∧ ∃ V' S', RW h0 h' o V' (updA A 167 S') ∧ (V' (2 * f) = 0 ∧ V' (2 * f + 1) = 1 ∧ S' f = 0) ∧ (∀ n, n ≠ 2 * f → n ≠ 2 * f + 1 → V' n = V n) ∧ ∀ g, g ≠ f → S' g = S g) := by
  have cO := w.cO
  have cG := (w.setG S).1
  have ix : (2 : Int) * (f : Int) = ((2 * f : Nat) : Int) := by omega
  have ix1 : ((2 * f : Nat) : Int) + 1 = ((2 * f + 1 : Nat) : Int) := by omega
  refine am_c.of (Nat.le_of_ble_eq_true rfl) ?_
  show am_w _ _ _ (_, [_, _, _, _, _, _], _, _) _
  refine wr_aload_n rfl rfl rfl ?_
  refine wr_get (ci := 12) (f := 2) rfl rfl rfl (by assumption) rfl ?_
  refine wr_iload_n rfl rfl rfl ?_
  refine wr_lload_n rfl rfl rfl ?_
  refine wr_lconst (z := 0) rfl rfl rfl ?_
  refine wr_l_ne rfl rfl rfl rfl rfl (by omega) (by omega) (fun c7 => by exfalso; omega) (fun c7 => ?_)
  refine wr_iconst rfl rfl ?_
  refine wr_goto rfl rfl ?_
  refine wr_iast rfl rfl (by assumption) (by omega) (by omega) (fun h1 e1 => ?_)
  rw [Int.toNat_natCast] at e1
  have w := e1 ▸ (w.setG (updI S f 0)).2
  clear e1
  have cO := w.cO
  refine wr_aload_n rfl rfl rfl ?_
  refine wr_iconst rfl rfl ?_
  refine wr_iload_n rfl rfl rfl ?_
  refine wr_imul rfl rfl ?_
  rw [ix]
  refine wr_lload_n rfl rfl rfl ?_
  refine wr_cs1 (k' := 141) rfl rfl rfl rfl rfl (wp_rsize (u := 0) (by decide)) (fun r h2 q => ?_)
  obtain ⟨rfl, rfl⟩ := q
  dsimp only [Option.toList, List.cons_append, List.nil_append]
  refine wr_cv2 (k' := 142) (ci := 12) rfl rfl rfl rfl (by assumption) rfl rfl (mw_setNumber (n := 2 * f) (v := 0) w (by omega) (by decide)) (fun r h2 q => ?_)
  obtain ⟨rfl, V2, w, s2, n2⟩ := rw_ex q
  have cO := w.cO
  refine wr_aload_n rfl rfl rfl ?_
  refine wr_iconst rfl rfl ?_
  refine wr_iload_n rfl rfl rfl ?_
  refine wr_imul rfl rfl ?_
  rw [ix]
  refine wr_iconst rfl rfl ?_
  refine wr_iadd rfl rfl ?_
  rw [ix1]
  refine wr_lload rfl rfl rfl ?_
  refine wr_cs1 (k' := 141) rfl rfl rfl rfl rfl (wp_rsize (u := 1) (by decide)) (fun r h2 q => ?_)
  obtain ⟨rfl, rfl⟩ := q
  dsimp only [Option.toList, List.cons_append, List.nil_append]
  refine wr_cv2 (k' := 142) (ci := 12) rfl rfl rfl rfl (by assumption) rfl rfl (mw_setNumber (n := 2 * f + 1) (v := 1) w (by omega) (by decide)) (fun r h2 q => ?_)
  obtain ⟨rfl, V3, w, s3, n3⟩ := rw_ex q
  have cO := w.cO
  refine wr_aload_n rfl rfl rfl ?_
  refine wr_iload_n rfl rfl rfl ?_
  refine wr_cv1 (k' := 143) (ci := 12) rfl rfl rfl rfl (by assumption) rfl rfl (mw_reduce0 (f := f) w hf (by rw [n3 _ (by omega), s2])) (fun r h2 q => ?_)
  obtain ⟨rfl, w⟩ := q
  refine wr_vret rfl rfl ?_
  refine ⟨rfl, _, _, w, ⟨?_, updI_s _ _ _, updI_s _ _ _⟩, fun n a b => ?_, fun g a => ?_⟩
  · rw [updI_n (by omega), n3 _ (by omega), s2]
  · rw [updI_n b, n3 _ b, n2 _ a]
  · rw [updI_n a, updI_n a]
theorem rr_zero {d : Nat} : ∀ (m f : Nat) (V S : Nat → Int) (h : am_H), f + m = 130 → RW hh h o V (updA A 167 S) → (∀ g, g < f → V (2 * g) = 0 ∧ V (2 * g + 1) = 1 ∧ S g = 0) → am_w X (d + 3) 139 (161, [.ref 164, .int (iI f)], [], h) (fun r h' => r = none ∧ FW hh h' o (fun _ => 0) A) := by
  intro m
  induction m with
  | zero =>
    intro f V S h hf w z
    have cO := w.cO
    refine wr_iload_n rfl rfl rfl ?_
    refine wr_sipush rfl rfl (by decide) ?_
    refine wr_icmp_ge rfl rfl rfl (by omega) (by omega) (fun c165 => ?_) (fun c165 => by exfalso; omega)
    refine wr_vret rfl rfl ?_
    refine ⟨rfl, V, S, w, fun g hg => ?_⟩
    obtain ⟨a, b, c⟩ := z g (by omega)
    exact ⟨a, b, c⟩
  | succ m ih =>
    intro f V S h hf w z
    have cO := w.cO
    refine wr_iload_n rfl rfl rfl ?_
    refine wr_sipush rfl rfl (by decide) ?_
    refine wr_icmp_ge rfl rfl rfl (by omega) (by omega) (fun c165 => by exfalso; omega) (fun c165 => ?_)
    refine wr_aload_n rfl rfl rfl ?_
    refine wr_iload_n rfl rfl rfl ?_
    refine wr_lconst (z := 0) rfl rfl rfl ?_
    refine wr_lconst (z := 1) rfl rfl rfl ?_
    refine wr_cv3 (k' := 140) (ci := 12) rfl rfl rfl rfl (by assumption) rfl rfl (rw_set0 (f := f) w (by omega)) (fun r h2 q => ?_)
    obtain ⟨rfl, V2, S2, w, ⟨s1, s2, s3⟩, n2, m2⟩ := q
    have cO := w.cO
    refine wr_iinc (ls' := [_, _]) rfl rfl rfl rfl ?_
    refine wr_goto rfl rfl ?_
    refine ih (f + 1) V2 S2 _ (by omega) w (fun g hg => ?_)
    by_cases q : g = f
    · subst q; exact ⟨s1, s2, s3⟩
    · rw [n2 _ (by omega) (by omega), n2 _ (by omega) (by omega), m2 _ q]
      exact z g (by omega)

theorem cm_17 {d : Nat} (l : h.length = 182) (c : h[164]? = some (.inr (12, [.ref 165, .ref 166, .ref 167, .ref 168, .int 0, .int 0, .int 0, .ref 169, .ref 170, .ref 171, .ref 172, .ref 173, .int 0, .int 0, .int 0, .ref 174, .int 0, .ref 175, .ref 176, .int 0, .int 0, .int 0, .ref 177, .int 0, .ref 178, .int 0, .ref 179, .int 0, .ref 180, .int 0, .long 0, .long 0, .int 0, .int 0, .int 0, .int 0, .long 0, .int 0, .ref 181]))) (T : ∀ i, i < 164 → h[i]? = h0[i]?) (p0 : h[165]? = some (am_ia 67600 Z0)) (p1 : h[166]? = some (am_ia 260 Z0)) (p2 : h[167]? = some (am_ia 130 Z0)) (p3 : h[168]? = some (am_ia 400 Z0)) (p4 : h[169]? = some (am_ia 300 Z0)) (p5 : h[170]? = some (am_ia 300 Z0)) (p6 : h[171]? = some (am_ia 300 Z0)) (p7 : h[172]? = some (am_ia 300 Z0)) (p8 : h[173]? = some (am_ia 14 Z0)) (p9 : h[174]? = some (am_ia 8 Z0)) (p10 : h[175]? = some (am_ia 12 Z0)) (p11 : h[176]? = some (am_ia 12 Z0)) (p12 : h[177]? = some (am_ia 3 ld0)) (p13 : h[178]? = some (am_ia 26 Z0)) (p14 : h[179]? = some (am_za 3 Z0)) (p15 : h[180]? = some (am_ia 24 Z0)) (p16 : h[181]? = some (am_ia 20 Z0)) : am_w X (d + 3) 139 (159, [.ref 164, am_U], [], h) (fun r h' => r = none ∧ h'.length = 182 ∧ ex 164 h0 h' ∧ FW h' h' Z0 (fun _ => 0) A00) := by
  have M : MW h h Z0 Z0 Z0 (updA A00 167 Z0) := by
    refine ⟨frI_rf _ _, c, p0, p1, ?_, fun p hp => ?_⟩
    · rw [updA_n (by decide)]; exact p14
    · simp only [LA, List.mem_cons, List.not_mem_nil, or_false] at hp
      rcases hp with rfl | rfl | rfl | rfl | rfl | rfl | rfl | rfl | rfl | rfl | rfl | rfl | rfl | rfl
      · exact p2
      · exact p3
      · exact p4
      · exact p5
      · exact p6
      · exact p7
      · exact p8
      · exact p9
      · exact p10
      · exact p11
      · exact p12
      · exact p13
      · exact p15
      · exact p16
  have R : RW h h Z0 Z0 (updA A00 167 Z0) := ⟨Z0, Z0, M, fun n hn => ⟨0, rfl, by decide, ⟨fun i hi => absurd hi (Nat.not_lt_zero _), fun q => absurd q (by decide)⟩, rfl⟩⟩
  have cO := M.ob
  refine wr_iconst rfl rfl ?_
  refine wr_istore_n (ls' := [_, _]) rfl rfl (Nat.le_of_ble_eq_true rfl) rfl ?_
  refine (rr_zero (d := d) 130 0 Z0 Z0 h (by decide) R (fun g hg => absurd hg (Nat.not_lt_zero _))).mono (fun r h' q => ?_)
  obtain ⟨q1, q2⟩ := q
  obtain ⟨wb, fb⟩ := q2.base
  refine ⟨q1, fb.1.trans l, fun i hi => ?_, wb⟩
  rw [fb.2 i (fun p hp => by simp at hp; rw [hp]; exact Or.inl hi)]
  exact T i hi
theorem cm_16 {d : Nat} (l : h.length = 181) (c : h[164]? = some (.inr (12, [.ref 165, .ref 166, .ref 167, .ref 168, .int 0, .int 0, .int 0, .ref 169, .ref 170, .ref 171, .ref 172, .ref 173, .int 0, .int 0, .int 0, .ref 174, .int 0, .ref 175, .ref 176, .int 0, .int 0, .int 0, .ref 177, .int 0, .ref 178, .int 0, .ref 179, .int 0, .ref 180, .int 0, .long 0, .long 0, .int 0, .int 0, .int 0, .int 0, .long 0, .int 0, .null]))) (T : ∀ i, i < 164 → h[i]? = h0[i]?) (p0 : h[165]? = some (am_ia 67600 Z0)) (p1 : h[166]? = some (am_ia 260 Z0)) (p2 : h[167]? = some (am_ia 130 Z0)) (p3 : h[168]? = some (am_ia 400 Z0)) (p4 : h[169]? = some (am_ia 300 Z0)) (p5 : h[170]? = some (am_ia 300 Z0)) (p6 : h[171]? = some (am_ia 300 Z0)) (p7 : h[172]? = some (am_ia 300 Z0)) (p8 : h[173]? = some (am_ia 14 Z0)) (p9 : h[174]? = some (am_ia 8 Z0)) (p10 : h[175]? = some (am_ia 12 Z0)) (p11 : h[176]? = some (am_ia 12 Z0)) (p12 : h[177]? = some (am_ia 3 ld0)) (p13 : h[178]? = some (am_ia 26 Z0)) (p14 : h[179]? = some (am_za 3 Z0)) (p15 : h[180]? = some (am_ia 24 Z0)) : am_w X (d + 3) 139 (151, [.ref 164, am_U], [], h) (fun r h' => r = none ∧ h'.length = 182 ∧ ex 164 h0 h' ∧ FW h' h' Z0 (fun _ => 0) A00) := by
  refine wr_aload_n rfl rfl rfl ?_
  refine wr_bipush rfl rfl (by decide) ?_
  refine wr_newi (n := 20) rfl rfl (by decide) ?_
  rw [l]
  have cA : (h ++ [am_ia 20 fun _ => 0])[164]? = some _ := (ap_lt (by omega)).trans c
  refine wr_putA (ci := 12) (f := 38) (fs' := [_, _, _, _, _, _, _, _, _, _, _, _, _, _, _, _, _, _, _, _, _, _, _, _, _, _, _, _, _, _, _, _, _, _, _, _, _, _, _]) rfl rfl rfl cA rfl rfl rfl (fun h1 e1 => ?_)
  have c1 : h1[164]? = some _ := (by rw [e1]; exact am_set_s cA)
  have l1 : h1.length = 182 := by rw [e1]; exact set_len (ap_len l)
  have m : ∀ i, i ≠ 164 → i < 181 → h1[i]? = h[i]? := fun i i1 i2 => by rw [e1, am_set_n (Ne.symm i1)]; exact ap_lt (by omega)
  have pN : h1[181]? = some (am_ia 20 Z0) := (by rw [e1, am_set_n (by omega)]; exact ap_la l)
  exact cm_17 l1 c1 (fun i hi => (m i (by omega) (by omega)).trans (T i hi)) ((m 165 (by decide) (by decide)).trans p0) ((m 166 (by decide) (by decide)).trans p1) ((m 167 (by decide) (by decide)).trans p2) ((m 168 (by decide) (by decide)).trans p3) ((m 169 (by decide) (by decide)).trans p4) ((m 170 (by decide) (by decide)).trans p5) ((m 171 (by decide) (by decide)).trans p6) ((m 172 (by decide) (by decide)).trans p7) ((m 173 (by decide) (by decide)).trans p8) ((m 174 (by decide) (by decide)).trans p9) ((m 175 (by decide) (by decide)).trans p10) ((m 176 (by decide) (by decide)).trans p11) ((m 177 (by decide) (by decide)).trans p12) ((m 178 (by decide) (by decide)).trans p13) ((m 179 (by decide) (by decide)).trans p14) ((m 180 (by decide) (by decide)).trans p15) pN
theorem cm_15 {d : Nat} (l : h.length = 180) (c : h[164]? = some (.inr (12, [.ref 165, .ref 166, .ref 167, .ref 168, .int 0, .int 0, .int 0, .ref 169, .ref 170, .ref 171, .ref 172, .ref 173, .int 0, .int 0, .int 0, .ref 174, .int 0, .ref 175, .ref 176, .int 0, .int 0, .int 0, .ref 177, .int 0, .ref 178, .int 0, .ref 179, .int 0, .null, .int 0, .long 0, .long 0, .int 0, .int 0, .int 0, .int 0, .long 0, .int 0, .null]))) (T : ∀ i, i < 164 → h[i]? = h0[i]?) (p0 : h[165]? = some (am_ia 67600 Z0)) (p1 : h[166]? = some (am_ia 260 Z0)) (p2 : h[167]? = some (am_ia 130 Z0)) (p3 : h[168]? = some (am_ia 400 Z0)) (p4 : h[169]? = some (am_ia 300 Z0)) (p5 : h[170]? = some (am_ia 300 Z0)) (p6 : h[171]? = some (am_ia 300 Z0)) (p7 : h[172]? = some (am_ia 300 Z0)) (p8 : h[173]? = some (am_ia 14 Z0)) (p9 : h[174]? = some (am_ia 8 Z0)) (p10 : h[175]? = some (am_ia 12 Z0)) (p11 : h[176]? = some (am_ia 12 Z0)) (p12 : h[177]? = some (am_ia 3 ld0)) (p13 : h[178]? = some (am_ia 26 Z0)) (p14 : h[179]? = some (am_za 3 Z0)) : am_w X (d + 3) 139 (143, [.ref 164, am_U], [], h) (fun r h' => r = none ∧ h'.length = 182 ∧ ex 164 h0 h' ∧ FW h' h' Z0 (fun _ => 0) A00) := by
  refine wr_aload_n rfl rfl rfl ?_
  refine wr_bipush rfl rfl (by decide) ?_
  refine wr_newi (n := 24) rfl rfl (by decide) ?_
  rw [l]
  have cA : (h ++ [am_ia 24 fun _ => 0])[164]? = some _ := (ap_lt (by omega)).trans c
  refine wr_putA (ci := 12) (f := 28) (fs' := [_, _, _, _, _, _, _, _, _, _, _, _, _, _, _, _, _, _, _, _, _, _, _, _, _, _, _, _, _, _, _, _, _, _, _, _, _, _, _]) rfl rfl rfl cA rfl rfl rfl (fun h1 e1 => ?_)
  have c1 : h1[164]? = some _ := (by rw [e1]; exact am_set_s cA)
  have l1 : h1.length = 181 := by rw [e1]; exact set_len (ap_len l)
  have m : ∀ i, i ≠ 164 → i < 180 → h1[i]? = h[i]? := fun i i1 i2 => by rw [e1, am_set_n (Ne.symm i1)]; exact ap_lt (by omega)
  have pN : h1[180]? = some (am_ia 24 Z0) := (by rw [e1, am_set_n (by omega)]; exact ap_la l)
  exact cm_16 l1 c1 (fun i hi => (m i (by omega) (by omega)).trans (T i hi)) ((m 165 (by decide) (by decide)).trans p0) ((m 166 (by decide) (by decide)).trans p1) ((m 167 (by decide) (by decide)).trans p2) ((m 168 (by decide) (by decide)).trans p3) ((m 169 (by decide) (by decide)).trans p4) ((m 170 (by decide) (by decide)).trans p5) ((m 171 (by decide) (by decide)).trans p6) ((m 172 (by decide) (by decide)).trans p7) ((m 173 (by decide) (by decide)).trans p8) ((m 174 (by decide) (by decide)).trans p9) ((m 175 (by decide) (by decide)).trans p10) ((m 176 (by decide) (by decide)).trans p11) ((m 177 (by decide) (by decide)).trans p12) ((m 178 (by decide) (by decide)).trans p13) ((m 179 (by decide) (by decide)).trans p14) pN
theorem cm_14 {d : Nat} (l : h.length = 179) (c : h[164]? = some (.inr (12, [.ref 165, .ref 166, .ref 167, .ref 168, .int 0, .int 0, .int 0, .ref 169, .ref 170, .ref 171, .ref 172, .ref 173, .int 0, .int 0, .int 0, .ref 174, .int 0, .ref 175, .ref 176, .int 0, .int 0, .int 0, .ref 177, .int 0, .ref 178, .int 0, .null, .int 0, .null, .int 0, .long 0, .long 0, .int 0, .int 0, .int 0, .int 0, .long 0, .int 0, .null]))) (T : ∀ i, i < 164 → h[i]? = h0[i]?) (p0 : h[165]? = some (am_ia 67600 Z0)) (p1 : h[166]? = some (am_ia 260 Z0)) (p2 : h[167]? = some (am_ia 130 Z0)) (p3 : h[168]? = some (am_ia 400 Z0)) (p4 : h[169]? = some (am_ia 300 Z0)) (p5 : h[170]? = some (am_ia 300 Z0)) (p6 : h[171]? = some (am_ia 300 Z0)) (p7 : h[172]? = some (am_ia 300 Z0)) (p8 : h[173]? = some (am_ia 14 Z0)) (p9 : h[174]? = some (am_ia 8 Z0)) (p10 : h[175]? = some (am_ia 12 Z0)) (p11 : h[176]? = some (am_ia 12 Z0)) (p12 : h[177]? = some (am_ia 3 ld0)) (p13 : h[178]? = some (am_ia 26 Z0)) : am_w X (d + 3) 139 (136, [.ref 164, am_U], [], h) (fun r h' => r = none ∧ h'.length = 182 ∧ ex 164 h0 h' ∧ FW h' h' Z0 (fun _ => 0) A00) := by
  refine wr_aload_n rfl rfl rfl ?_
  refine wr_iconst rfl rfl ?_
  refine wr_newz (n := 3) rfl rfl (by decide) ?_
  rw [l]
  have cA : (h ++ [am_za 3 fun _ => 0])[164]? = some _ := (ap_lt (by omega)).trans c
  refine wr_putA (ci := 12) (f := 26) (fs' := [_, _, _, _, _, _, _, _, _, _, _, _, _, _, _, _, _, _, _, _, _, _, _, _, _, _, _, _, _, _, _, _, _, _, _, _, _, _, _]) rfl rfl rfl cA rfl rfl rfl (fun h1 e1 => ?_)
  have c1 : h1[164]? = some _ := (by rw [e1]; exact am_set_s cA)
  have l1 : h1.length = 180 := by rw [e1]; exact set_len (ap_len l)
  have m : ∀ i, i ≠ 164 → i < 179 → h1[i]? = h[i]? := fun i i1 i2 => by rw [e1, am_set_n (Ne.symm i1)]; exact ap_lt (by omega)
  have pN : h1[179]? = some (am_za 3 Z0) := (by rw [e1, am_set_n (by omega)]; exact ap_la l)
  exact cm_15 l1 c1 (fun i hi => (m i (by omega) (by omega)).trans (T i hi)) ((m 165 (by decide) (by decide)).trans p0) ((m 166 (by decide) (by decide)).trans p1) ((m 167 (by decide) (by decide)).trans p2) ((m 168 (by decide) (by decide)).trans p3) ((m 169 (by decide) (by decide)).trans p4) ((m 170 (by decide) (by decide)).trans p5) ((m 171 (by decide) (by decide)).trans p6) ((m 172 (by decide) (by decide)).trans p7) ((m 173 (by decide) (by decide)).trans p8) ((m 174 (by decide) (by decide)).trans p9) ((m 175 (by decide) (by decide)).trans p10) ((m 176 (by decide) (by decide)).trans p11) ((m 177 (by decide) (by decide)).trans p12) ((m 178 (by decide) (by decide)).trans p13) pN
theorem cm_13 {d : Nat} (l : h.length = 178) (c : h[164]? = some (.inr (12, [.ref 165, .ref 166, .ref 167, .ref 168, .int 0, .int 0, .int 0, .ref 169, .ref 170, .ref 171, .ref 172, .ref 173, .int 0, .int 0, .int 0, .ref 174, .int 0, .ref 175, .ref 176, .int 0, .int 0, .int 0, .ref 177, .int 0, .null, .int 0, .null, .int 0, .null, .int 0, .long 0, .long 0, .int 0, .int 0, .int 0, .int 0, .long 0, .int 0, .null]))) (T : ∀ i, i < 164 → h[i]? = h0[i]?) (p0 : h[165]? = some (am_ia 67600 Z0)) (p1 : h[166]? = some (am_ia 260 Z0)) (p2 : h[167]? = some (am_ia 130 Z0)) (p3 : h[168]? = some (am_ia 400 Z0)) (p4 : h[169]? = some (am_ia 300 Z0)) (p5 : h[170]? = some (am_ia 300 Z0)) (p6 : h[171]? = some (am_ia 300 Z0)) (p7 : h[172]? = some (am_ia 300 Z0)) (p8 : h[173]? = some (am_ia 14 Z0)) (p9 : h[174]? = some (am_ia 8 Z0)) (p10 : h[175]? = some (am_ia 12 Z0)) (p11 : h[176]? = some (am_ia 12 Z0)) (p12 : h[177]? = some (am_ia 3 ld0)) : am_w X (d + 3) 139 (128, [.ref 164, am_U], [], h) (fun r h' => r = none ∧ h'.length = 182 ∧ ex 164 h0 h' ∧ FW h' h' Z0 (fun _ => 0) A00) := by
  refine wr_aload_n rfl rfl rfl ?_
  refine wr_bipush rfl rfl (by decide) ?_
  refine wr_newi (n := 26) rfl rfl (by decide) ?_
  rw [l]
  have cA : (h ++ [am_ia 26 fun _ => 0])[164]? = some _ := (ap_lt (by omega)).trans c
  refine wr_putA (ci := 12) (f := 24) (fs' := [_, _, _, _, _, _, _, _, _, _, _, _, _, _, _, _, _, _, _, _, _, _, _, _, _, _, _, _, _, _, _, _, _, _, _, _, _, _, _]) rfl rfl rfl cA rfl rfl rfl (fun h1 e1 => ?_)
  have c1 : h1[164]? = some _ := (by rw [e1]; exact am_set_s cA)
  have l1 : h1.length = 179 := by rw [e1]; exact set_len (ap_len l)
  have m : ∀ i, i ≠ 164 → i < 178 → h1[i]? = h[i]? := fun i i1 i2 => by rw [e1, am_set_n (Ne.symm i1)]; exact ap_lt (by omega)
  have pN : h1[178]? = some (am_ia 26 Z0) := (by rw [e1, am_set_n (by omega)]; exact ap_la l)
  exact cm_14 l1 c1 (fun i hi => (m i (by omega) (by omega)).trans (T i hi)) ((m 165 (by decide) (by decide)).trans p0) ((m 166 (by decide) (by decide)).trans p1) ((m 167 (by decide) (by decide)).trans p2) ((m 168 (by decide) (by decide)).trans p3) ((m 169 (by decide) (by decide)).trans p4) ((m 170 (by decide) (by decide)).trans p5) ((m 171 (by decide) (by decide)).trans p6) ((m 172 (by decide) (by decide)).trans p7) ((m 173 (by decide) (by decide)).trans p8) ((m 174 (by decide) (by decide)).trans p9) ((m 175 (by decide) (by decide)).trans p10) ((m 176 (by decide) (by decide)).trans p11) ((m 177 (by decide) (by decide)).trans p12) pN
theorem cm_12 {d : Nat} (l : h.length = 177) (c : h[164]? = some (.inr (12, [.ref 165, .ref 166, .ref 167, .ref 168, .int 0, .int 0, .int 0, .ref 169, .ref 170, .ref 171, .ref 172, .ref 173, .int 0, .int 0, .int 0, .ref 174, .int 0, .ref 175, .ref 176, .int 0, .int 0, .int 0, .null, .int 0, .null, .int 0, .null, .int 0, .null, .int 0, .long 0, .long 0, .int 0, .int 0, .int 0, .int 0, .long 0, .int 0, .null]))) (T : ∀ i, i < 164 → h[i]? = h0[i]?) (p0 : h[165]? = some (am_ia 67600 Z0)) (p1 : h[166]? = some (am_ia 260 Z0)) (p2 : h[167]? = some (am_ia 130 Z0)) (p3 : h[168]? = some (am_ia 400 Z0)) (p4 : h[169]? = some (am_ia 300 Z0)) (p5 : h[170]? = some (am_ia 300 Z0)) (p6 : h[171]? = some (am_ia 300 Z0)) (p7 : h[172]? = some (am_ia 300 Z0)) (p8 : h[173]? = some (am_ia 14 Z0)) (p9 : h[174]? = some (am_ia 8 Z0)) (p10 : h[175]? = some (am_ia 12 Z0)) (p11 : h[176]? = some (am_ia 12 Z0)) : am_w X (d + 3) 139 (107, [.ref 164, am_U], [], h) (fun r h' => r = none ∧ h'.length = 182 ∧ ex 164 h0 h' ∧ FW h' h' Z0 (fun _ => 0) A00) := by
  refine wr_aload_n rfl rfl rfl ?_
  refine wr_iconst rfl rfl ?_
  refine wr_newi (n := 3) rfl rfl (by decide) ?_
  rw [l]
  have cL : (h ++ [am_ia 3 fun _ => 0])[177]? = some (am_ia 3 (fun _ => 0)) := ap_la l
  refine wr_dup rfl rfl ?_
  refine wr_iconst rfl rfl ?_
  refine wr_ldc (z := 1000000) rfl rfl rfl (by decide) ?_
  refine wr_iast rfl rfl cL (by decide) (by decide) (fun hB eB => ?_)
  have cB : hB[177]? = some (am_ia 3 (updI (fun _ => 0) 0 1000000)) := by rw [eB]; exact am_set_s cL
  refine wr_dup rfl rfl ?_
  refine wr_iconst rfl rfl ?_
  refine wr_iconst rfl rfl ?_
  refine wr_iast rfl rfl cB (by decide) (by decide) (fun hC eC => ?_)
  have cC : hC[177]? = some (am_ia 3 (updI (updI (fun _ => 0) 0 1000000) 1 0)) := by rw [eC]; exact am_set_s cB
  refine wr_dup rfl rfl ?_
  refine wr_iconst rfl rfl ?_
  refine wr_ldc (z := 1000000) rfl rfl rfl (by decide) ?_
  refine wr_iast rfl rfl cC (by decide) (by decide) (fun hD eD => ?_)
  have cD : hD[177]? = some (am_ia 3 ld0) := by rw [eD]; exact am_set_s cC
  have lD : hD.length = 178 := by rw [eD, eC, eB]; exact set_len (set_len (set_len (ap_len l)))
  have mD : ∀ i, i < 177 → hD[i]? = h[i]? := fun i hi => by rw [eD, am_set_n (by omega), eC, am_set_n (by omega), eB, am_set_n (by omega)]; exact ap_lt (by omega)
  have cA : hD[164]? = some _ := (mD 164 (by decide)).trans c
  refine wr_putA (ci := 12) (f := 22) (fs' := [_, _, _, _, _, _, _, _, _, _, _, _, _, _, _, _, _, _, _, _, _, _, _, _, _, _, _, _, _, _, _, _, _, _, _, _, _, _, _]) rfl rfl rfl cA rfl rfl rfl (fun h1 e1 => ?_)
  have c1 : h1[164]? = some _ := (by rw [e1]; exact am_set_s cA)
  have l1 : h1.length = 178 := by rw [e1]; exact set_len lD
  have m : ∀ i, i ≠ 164 → i < 177 → h1[i]? = h[i]? := fun i i1 i2 => by rw [e1, am_set_n (Ne.symm i1)]; exact mD i i2
  have pN : h1[177]? = some (am_ia 3 ld0) := (by rw [e1, am_set_n (by omega)]; exact cD)
  exact cm_13 l1 c1 (fun i hi => (m i (by omega) (by omega)).trans (T i hi)) ((m 165 (by decide) (by decide)).trans p0) ((m 166 (by decide) (by decide)).trans p1) ((m 167 (by decide) (by decide)).trans p2) ((m 168 (by decide) (by decide)).trans p3) ((m 169 (by decide) (by decide)).trans p4) ((m 170 (by decide) (by decide)).trans p5) ((m 171 (by decide) (by decide)).trans p6) ((m 172 (by decide) (by decide)).trans p7) ((m 173 (by decide) (by decide)).trans p8) ((m 174 (by decide) (by decide)).trans p9) ((m 175 (by decide) (by decide)).trans p10) ((m 176 (by decide) (by decide)).trans p11) pN
theorem cm_11 {d : Nat} (l : h.length = 176) (c : h[164]? = some (.inr (12, [.ref 165, .ref 166, .ref 167, .ref 168, .int 0, .int 0, .int 0, .ref 169, .ref 170, .ref 171, .ref 172, .ref 173, .int 0, .int 0, .int 0, .ref 174, .int 0, .ref 175, .null, .int 0, .int 0, .int 0, .null, .int 0, .null, .int 0, .null, .int 0, .null, .int 0, .long 0, .long 0, .int 0, .int 0, .int 0, .int 0, .long 0, .int 0, .null]))) (T : ∀ i, i < 164 → h[i]? = h0[i]?) (p0 : h[165]? = some (am_ia 67600 Z0)) (p1 : h[166]? = some (am_ia 260 Z0)) (p2 : h[167]? = some (am_ia 130 Z0)) (p3 : h[168]? = some (am_ia 400 Z0)) (p4 : h[169]? = some (am_ia 300 Z0)) (p5 : h[170]? = some (am_ia 300 Z0)) (p6 : h[171]? = some (am_ia 300 Z0)) (p7 : h[172]? = some (am_ia 300 Z0)) (p8 : h[173]? = some (am_ia 14 Z0)) (p9 : h[174]? = some (am_ia 8 Z0)) (p10 : h[175]? = some (am_ia 12 Z0)) : am_w X (d + 3) 139 (99, [.ref 164, am_U], [], h) (fun r h' => r = none ∧ h'.length = 182 ∧ ex 164 h0 h' ∧ FW h' h' Z0 (fun _ => 0) A00) := by
  refine wr_aload_n rfl rfl rfl ?_
  refine wr_bipush rfl rfl (by decide) ?_
  refine wr_newi (n := 12) rfl rfl (by decide) ?_
  rw [l]
  have cA : (h ++ [am_ia 12 fun _ => 0])[164]? = some _ := (ap_lt (by omega)).trans c
  refine wr_putA (ci := 12) (f := 18) (fs' := [_, _, _, _, _, _, _, _, _, _, _, _, _, _, _, _, _, _, _, _, _, _, _, _, _, _, _, _, _, _, _, _, _, _, _, _, _, _, _]) rfl rfl rfl cA rfl rfl rfl (fun h1 e1 => ?_)
  have c1 : h1[164]? = some _ := (by rw [e1]; exact am_set_s cA)
  have l1 : h1.length = 177 := by rw [e1]; exact set_len (ap_len l)
  have m : ∀ i, i ≠ 164 → i < 176 → h1[i]? = h[i]? := fun i i1 i2 => by rw [e1, am_set_n (Ne.symm i1)]; exact ap_lt (by omega)
  have pN : h1[176]? = some (am_ia 12 Z0) := (by rw [e1, am_set_n (by omega)]; exact ap_la l)
  exact cm_12 l1 c1 (fun i hi => (m i (by omega) (by omega)).trans (T i hi)) ((m 165 (by decide) (by decide)).trans p0) ((m 166 (by decide) (by decide)).trans p1) ((m 167 (by decide) (by decide)).trans p2) ((m 168 (by decide) (by decide)).trans p3) ((m 169 (by decide) (by decide)).trans p4) ((m 170 (by decide) (by decide)).trans p5) ((m 171 (by decide) (by decide)).trans p6) ((m 172 (by decide) (by decide)).trans p7) ((m 173 (by decide) (by decide)).trans p8) ((m 174 (by decide) (by decide)).trans p9) ((m 175 (by decide) (by decide)).trans p10) pN
theorem cm_10 {d : Nat} (l : h.length = 175) (c : h[164]? = some (.inr (12, [.ref 165, .ref 166, .ref 167, .ref 168, .int 0, .int 0, .int 0, .ref 169, .ref 170, .ref 171, .ref 172, .ref 173, .int 0, .int 0, .int 0, .ref 174, .int 0, .null, .null, .int 0, .int 0, .int 0, .null, .int 0, .null, .int 0, .null, .int 0, .null, .int 0, .long 0, .long 0, .int 0, .int 0, .int 0, .int 0, .long 0, .int 0, .null]))) (T : ∀ i, i < 164 → h[i]? = h0[i]?) (p0 : h[165]? = some (am_ia 67600 Z0)) (p1 : h[166]? = some (am_ia 260 Z0)) (p2 : h[167]? = some (am_ia 130 Z0)) (p3 : h[168]? = some (am_ia 400 Z0)) (p4 : h[169]? = some (am_ia 300 Z0)) (p5 : h[170]? = some (am_ia 300 Z0)) (p6 : h[171]? = some (am_ia 300 Z0)) (p7 : h[172]? = some (am_ia 300 Z0)) (p8 : h[173]? = some (am_ia 14 Z0)) (p9 : h[174]? = some (am_ia 8 Z0)) : am_w X (d + 3) 139 (91, [.ref 164, am_U], [], h) (fun r h' => r = none ∧ h'.length = 182 ∧ ex 164 h0 h' ∧ FW h' h' Z0 (fun _ => 0) A00) := by
  refine wr_aload_n rfl rfl rfl ?_
  refine wr_bipush rfl rfl (by decide) ?_
  refine wr_newi (n := 12) rfl rfl (by decide) ?_
  rw [l]
  have cA : (h ++ [am_ia 12 fun _ => 0])[164]? = some _ := (ap_lt (by omega)).trans c
  refine wr_putA (ci := 12) (f := 17) (fs' := [_, _, _, _, _, _, _, _, _, _, _, _, _, _, _, _, _, _, _, _, _, _, _, _, _, _, _, _, _, _, _, _, _, _, _, _, _, _, _]) rfl rfl rfl cA rfl rfl rfl (fun h1 e1 => ?_)
  have c1 : h1[164]? = some _ := (by rw [e1]; exact am_set_s cA)
  have l1 : h1.length = 176 := by rw [e1]; exact set_len (ap_len l)
  have m : ∀ i, i ≠ 164 → i < 175 → h1[i]? = h[i]? := fun i i1 i2 => by rw [e1, am_set_n (Ne.symm i1)]; exact ap_lt (by omega)
  have pN : h1[175]? = some (am_ia 12 Z0) := (by rw [e1, am_set_n (by omega)]; exact ap_la l)
  exact cm_11 l1 c1 (fun i hi => (m i (by omega) (by omega)).trans (T i hi)) ((m 165 (by decide) (by decide)).trans p0) ((m 166 (by decide) (by decide)).trans p1) ((m 167 (by decide) (by decide)).trans p2) ((m 168 (by decide) (by decide)).trans p3) ((m 169 (by decide) (by decide)).trans p4) ((m 170 (by decide) (by decide)).trans p5) ((m 171 (by decide) (by decide)).trans p6) ((m 172 (by decide) (by decide)).trans p7) ((m 173 (by decide) (by decide)).trans p8) ((m 174 (by decide) (by decide)).trans p9) pN
theorem cm_9 {d : Nat} (l : h.length = 174) (c : h[164]? = some (.inr (12, [.ref 165, .ref 166, .ref 167, .ref 168, .int 0, .int 0, .int 0, .ref 169, .ref 170, .ref 171, .ref 172, .ref 173, .int 0, .int 0, .int 0, .null, .int 0, .null, .null, .int 0, .int 0, .int 0, .null, .int 0, .null, .int 0, .null, .int 0, .null, .int 0, .long 0, .long 0, .int 0, .int 0, .int 0, .int 0, .long 0, .int 0, .null]))) (T : ∀ i, i < 164 → h[i]? = h0[i]?) (p0 : h[165]? = some (am_ia 67600 Z0)) (p1 : h[166]? = some (am_ia 260 Z0)) (p2 : h[167]? = some (am_ia 130 Z0)) (p3 : h[168]? = some (am_ia 400 Z0)) (p4 : h[169]? = some (am_ia 300 Z0)) (p5 : h[170]? = some (am_ia 300 Z0)) (p6 : h[171]? = some (am_ia 300 Z0)) (p7 : h[172]? = some (am_ia 300 Z0)) (p8 : h[173]? = some (am_ia 14 Z0)) : am_w X (d + 3) 139 (83, [.ref 164, am_U], [], h) (fun r h' => r = none ∧ h'.length = 182 ∧ ex 164 h0 h' ∧ FW h' h' Z0 (fun _ => 0) A00) := by
  refine wr_aload_n rfl rfl rfl ?_
  refine wr_bipush rfl rfl (by decide) ?_
  refine wr_newi (n := 8) rfl rfl (by decide) ?_
  rw [l]
  have cA : (h ++ [am_ia 8 fun _ => 0])[164]? = some _ := (ap_lt (by omega)).trans c
  refine wr_putA (ci := 12) (f := 15) (fs' := [_, _, _, _, _, _, _, _, _, _, _, _, _, _, _, _, _, _, _, _, _, _, _, _, _, _, _, _, _, _, _, _, _, _, _, _, _, _, _]) rfl rfl rfl cA rfl rfl rfl (fun h1 e1 => ?_)
  have c1 : h1[164]? = some _ := (by rw [e1]; exact am_set_s cA)
  have l1 : h1.length = 175 := by rw [e1]; exact set_len (ap_len l)
  have m : ∀ i, i ≠ 164 → i < 174 → h1[i]? = h[i]? := fun i i1 i2 => by rw [e1, am_set_n (Ne.symm i1)]; exact ap_lt (by omega)
  have pN : h1[174]? = some (am_ia 8 Z0) := (by rw [e1, am_set_n (by omega)]; exact ap_la l)
  exact cm_10 l1 c1 (fun i hi => (m i (by omega) (by omega)).trans (T i hi)) ((m 165 (by decide) (by decide)).trans p0) ((m 166 (by decide) (by decide)).trans p1) ((m 167 (by decide) (by decide)).trans p2) ((m 168 (by decide) (by decide)).trans p3) ((m 169 (by decide) (by decide)).trans p4) ((m 170 (by decide) (by decide)).trans p5) ((m 171 (by decide) (by decide)).trans p6) ((m 172 (by decide) (by decide)).trans p7) ((m 173 (by decide) (by decide)).trans p8) pN
theorem cm_8 {d : Nat} (l : h.length = 173) (c : h[164]? = some (.inr (12, [.ref 165, .ref 166, .ref 167, .ref 168, .int 0, .int 0, .int 0, .ref 169, .ref 170, .ref 171, .ref 172, .null, .int 0, .int 0, .int 0, .null, .int 0, .null, .null, .int 0, .int 0, .int 0, .null, .int 0, .null, .int 0, .null, .int 0, .null, .int 0, .long 0, .long 0, .int 0, .int 0, .int 0, .int 0, .long 0, .int 0, .null]))) (T : ∀ i, i < 164 → h[i]? = h0[i]?) (p0 : h[165]? = some (am_ia 67600 Z0)) (p1 : h[166]? = some (am_ia 260 Z0)) (p2 : h[167]? = some (am_ia 130 Z0)) (p3 : h[168]? = some (am_ia 400 Z0)) (p4 : h[169]? = some (am_ia 300 Z0)) (p5 : h[170]? = some (am_ia 300 Z0)) (p6 : h[171]? = some (am_ia 300 Z0)) (p7 : h[172]? = some (am_ia 300 Z0)) : am_w X (d + 3) 139 (75, [.ref 164, am_U], [], h) (fun r h' => r = none ∧ h'.length = 182 ∧ ex 164 h0 h' ∧ FW h' h' Z0 (fun _ => 0) A00) := by
  refine wr_aload_n rfl rfl rfl ?_
  refine wr_bipush rfl rfl (by decide) ?_
  refine wr_newi (n := 14) rfl rfl (by decide) ?_
  rw [l]
  have cA : (h ++ [am_ia 14 fun _ => 0])[164]? = some _ := (ap_lt (by omega)).trans c
  refine wr_putA (ci := 12) (f := 11) (fs' := [_, _, _, _, _, _, _, _, _, _, _, _, _, _, _, _, _, _, _, _, _, _, _, _, _, _, _, _, _, _, _, _, _, _, _, _, _, _, _]) rfl rfl rfl cA rfl rfl rfl (fun h1 e1 => ?_)
  have c1 : h1[164]? = some _ := (by rw [e1]; exact am_set_s cA)
  have l1 : h1.length = 174 := by rw [e1]; exact set_len (ap_len l)
  have m : ∀ i, i ≠ 164 → i < 173 → h1[i]? = h[i]? := fun i i1 i2 => by rw [e1, am_set_n (Ne.symm i1)]; exact ap_lt (by omega)
  have pN : h1[173]? = some (am_ia 14 Z0) := (by rw [e1, am_set_n (by omega)]; exact ap_la l)
  exact cm_9 l1 c1 (fun i hi => (m i (by omega) (by omega)).trans (T i hi)) ((m 165 (by decide) (by decide)).trans p0) ((m 166 (by decide) (by decide)).trans p1) ((m 167 (by decide) (by decide)).trans p2) ((m 168 (by decide) (by decide)).trans p3) ((m 169 (by decide) (by decide)).trans p4) ((m 170 (by decide) (by decide)).trans p5) ((m 171 (by decide) (by decide)).trans p6) ((m 172 (by decide) (by decide)).trans p7) pN
theorem cm_7 {d : Nat} (l : h.length = 172) (c : h[164]? = some (.inr (12, [.ref 165, .ref 166, .ref 167, .ref 168, .int 0, .int 0, .int 0, .ref 169, .ref 170, .ref 171, .null, .null, .int 0, .int 0, .int 0, .null, .int 0, .null, .null, .int 0, .int 0, .int 0, .null, .int 0, .null, .int 0, .null, .int 0, .null, .int 0, .long 0, .long 0, .int 0, .int 0, .int 0, .int 0, .long 0, .int 0, .null]))) (T : ∀ i, i < 164 → h[i]? = h0[i]?) (p0 : h[165]? = some (am_ia 67600 Z0)) (p1 : h[166]? = some (am_ia 260 Z0)) (p2 : h[167]? = some (am_ia 130 Z0)) (p3 : h[168]? = some (am_ia 400 Z0)) (p4 : h[169]? = some (am_ia 300 Z0)) (p5 : h[170]? = some (am_ia 300 Z0)) (p6 : h[171]? = some (am_ia 300 Z0)) : am_w X (d + 3) 139 (66, [.ref 164, am_U], [], h) (fun r h' => r = none ∧ h'.length = 182 ∧ ex 164 h0 h' ∧ FW h' h' Z0 (fun _ => 0) A00) := by
  refine wr_aload_n rfl rfl rfl ?_
  refine wr_sipush rfl rfl (by decide) ?_
  refine wr_newi (n := 300) rfl rfl (by decide) ?_
  rw [l]
  have cA : (h ++ [am_ia 300 fun _ => 0])[164]? = some _ := (ap_lt (by omega)).trans c
  refine wr_putA (ci := 12) (f := 10) (fs' := [_, _, _, _, _, _, _, _, _, _, _, _, _, _, _, _, _, _, _, _, _, _, _, _, _, _, _, _, _, _, _, _, _, _, _, _, _, _, _]) rfl rfl rfl cA rfl rfl rfl (fun h1 e1 => ?_)
  have c1 : h1[164]? = some _ := (by rw [e1]; exact am_set_s cA)
  have l1 : h1.length = 173 := by rw [e1]; exact set_len (ap_len l)
  have m : ∀ i, i ≠ 164 → i < 172 → h1[i]? = h[i]? := fun i i1 i2 => by rw [e1, am_set_n (Ne.symm i1)]; exact ap_lt (by omega)
  have pN : h1[172]? = some (am_ia 300 Z0) := (by rw [e1, am_set_n (by omega)]; exact ap_la l)
  exact cm_8 l1 c1 (fun i hi => (m i (by omega) (by omega)).trans (T i hi)) ((m 165 (by decide) (by decide)).trans p0) ((m 166 (by decide) (by decide)).trans p1) ((m 167 (by decide) (by decide)).trans p2) ((m 168 (by decide) (by decide)).trans p3) ((m 169 (by decide) (by decide)).trans p4) ((m 170 (by decide) (by decide)).trans p5) ((m 171 (by decide) (by decide)).trans p6) pN
theorem cm_6 {d : Nat} (l : h.length = 171) (c : h[164]? = some (.inr (12, [.ref 165, .ref 166, .ref 167, .ref 168, .int 0, .int 0, .int 0, .ref 169, .ref 170, .null, .null, .null, .int 0, .int 0, .int 0, .null, .int 0, .null, .null, .int 0, .int 0, .int 0, .null, .int 0, .null, .int 0, .null, .int 0, .null, .int 0, .long 0, .long 0, .int 0, .int 0, .int 0, .int 0, .long 0, .int 0, .null]))) (T : ∀ i, i < 164 → h[i]? = h0[i]?) (p0 : h[165]? = some (am_ia 67600 Z0)) (p1 : h[166]? = some (am_ia 260 Z0)) (p2 : h[167]? = some (am_ia 130 Z0)) (p3 : h[168]? = some (am_ia 400 Z0)) (p4 : h[169]? = some (am_ia 300 Z0)) (p5 : h[170]? = some (am_ia 300 Z0)) : am_w X (d + 3) 139 (57, [.ref 164, am_U], [], h) (fun r h' => r = none ∧ h'.length = 182 ∧ ex 164 h0 h' ∧ FW h' h' Z0 (fun _ => 0) A00) := by
  refine wr_aload_n rfl rfl rfl ?_
  refine wr_sipush rfl rfl (by decide) ?_
  refine wr_newi (n := 300) rfl rfl (by decide) ?_
  rw [l]
  have cA : (h ++ [am_ia 300 fun _ => 0])[164]? = some _ := (ap_lt (by omega)).trans c
  refine wr_putA (ci := 12) (f := 9) (fs' := [_, _, _, _, _, _, _, _, _, _, _, _, _, _, _, _, _, _, _, _, _, _, _, _, _, _, _, _, _, _, _, _, _, _, _, _, _, _, _]) rfl rfl rfl cA rfl rfl rfl (fun h1 e1 => ?_)
  have c1 : h1[164]? = some _ := (by rw [e1]; exact am_set_s cA)
  have l1 : h1.length = 172 := by rw [e1]; exact set_len (ap_len l)
  have m : ∀ i, i ≠ 164 → i < 171 → h1[i]? = h[i]? := fun i i1 i2 => by rw [e1, am_set_n (Ne.symm i1)]; exact ap_lt (by omega)
  have pN : h1[171]? = some (am_ia 300 Z0) := (by rw [e1, am_set_n (by omega)]; exact ap_la l)
  exact cm_7 l1 c1 (fun i hi => (m i (by omega) (by omega)).trans (T i hi)) ((m 165 (by decide) (by decide)).trans p0) ((m 166 (by decide) (by decide)).trans p1) ((m 167 (by decide) (by decide)).trans p2) ((m 168 (by decide) (by decide)).trans p3) ((m 169 (by decide) (by decide)).trans p4) ((m 170 (by decide) (by decide)).trans p5) pN
theorem cm_5 {d : Nat} (l : h.length = 170) (c : h[164]? = some (.inr (12, [.ref 165, .ref 166, .ref 167, .ref 168, .int 0, .int 0, .int 0, .ref 169, .null, .null, .null, .null, .int 0, .int 0, .int 0, .null, .int 0, .null, .null, .int 0, .int 0, .int 0, .null, .int 0, .null, .int 0, .null, .int 0, .null, .int 0, .long 0, .long 0, .int 0, .int 0, .int 0, .int 0, .long 0, .int 0, .null]))) (T : ∀ i, i < 164 → h[i]? = h0[i]?) (p0 : h[165]? = some (am_ia 67600 Z0)) (p1 : h[166]? = some (am_ia 260 Z0)) (p2 : h[167]? = some (am_ia 130 Z0)) (p3 : h[168]? = some (am_ia 400 Z0)) (p4 : h[169]? = some (am_ia 300 Z0)) : am_w X (d + 3) 139 (48, [.ref 164, am_U], [], h) (fun r h' => r = none ∧ h'.length = 182 ∧ ex 164 h0 h' ∧ FW h' h' Z0 (fun _ => 0) A00) := by
  refine wr_aload_n rfl rfl rfl ?_
  refine wr_sipush rfl rfl (by decide) ?_
  refine wr_newi (n := 300) rfl rfl (by decide) ?_
  rw [l]
  have cA : (h ++ [am_ia 300 fun _ => 0])[164]? = some _ := (ap_lt (by omega)).trans c
  refine wr_putA (ci := 12) (f := 8) (fs' := [_, _, _, _, _, _, _, _, _, _, _, _, _, _, _, _, _, _, _, _, _, _, _, _, _, _, _, _, _, _, _, _, _, _, _, _, _, _, _]) rfl rfl rfl cA rfl rfl rfl (fun h1 e1 => ?_)
  have c1 : h1[164]? = some _ := (by rw [e1]; exact am_set_s cA)
  have l1 : h1.length = 171 := by rw [e1]; exact set_len (ap_len l)
  have m : ∀ i, i ≠ 164 → i < 170 → h1[i]? = h[i]? := fun i i1 i2 => by rw [e1, am_set_n (Ne.symm i1)]; exact ap_lt (by omega)
  have pN : h1[170]? = some (am_ia 300 Z0) := (by rw [e1, am_set_n (by omega)]; exact ap_la l)
  exact cm_6 l1 c1 (fun i hi => (m i (by omega) (by omega)).trans (T i hi)) ((m 165 (by decide) (by decide)).trans p0) ((m 166 (by decide) (by decide)).trans p1) ((m 167 (by decide) (by decide)).trans p2) ((m 168 (by decide) (by decide)).trans p3) ((m 169 (by decide) (by decide)).trans p4) pN
theorem cm_4 {d : Nat} (l : h.length = 169) (c : h[164]? = some (.inr (12, [.ref 165, .ref 166, .ref 167, .ref 168, .int 0, .int 0, .int 0, .null, .null, .null, .null, .null, .int 0, .int 0, .int 0, .null, .int 0, .null, .null, .int 0, .int 0, .int 0, .null, .int 0, .null, .int 0, .null, .int 0, .null, .int 0, .long 0, .long 0, .int 0, .int 0, .int 0, .int 0, .long 0, .int 0, .null]))) (T : ∀ i, i < 164 → h[i]? = h0[i]?) (p0 : h[165]? = some (am_ia 67600 Z0)) (p1 : h[166]? = some (am_ia 260 Z0)) (p2 : h[167]? = some (am_ia 130 Z0)) (p3 : h[168]? = some (am_ia 400 Z0)) : am_w X (d + 3) 139 (39, [.ref 164, am_U], [], h) (fun r h' => r = none ∧ h'.length = 182 ∧ ex 164 h0 h' ∧ FW h' h' Z0 (fun _ => 0) A00) := by
  refine wr_aload_n rfl rfl rfl ?_
  refine wr_sipush rfl rfl (by decide) ?_
  refine wr_newi (n := 300) rfl rfl (by decide) ?_
  rw [l]
  have cA : (h ++ [am_ia 300 fun _ => 0])[164]? = some _ := (ap_lt (by omega)).trans c
  refine wr_putA (ci := 12) (f := 7) (fs' := [_, _, _, _, _, _, _, _, _, _, _, _, _, _, _, _, _, _, _, _, _, _, _, _, _, _, _, _, _, _, _, _, _, _, _, _, _, _, _]) rfl rfl rfl cA rfl rfl rfl (fun h1 e1 => ?_)
  have c1 : h1[164]? = some _ := (by rw [e1]; exact am_set_s cA)
  have l1 : h1.length = 170 := by rw [e1]; exact set_len (ap_len l)
  have m : ∀ i, i ≠ 164 → i < 169 → h1[i]? = h[i]? := fun i i1 i2 => by rw [e1, am_set_n (Ne.symm i1)]; exact ap_lt (by omega)
  have pN : h1[169]? = some (am_ia 300 Z0) := (by rw [e1, am_set_n (by omega)]; exact ap_la l)
  exact cm_5 l1 c1 (fun i hi => (m i (by omega) (by omega)).trans (T i hi)) ((m 165 (by decide) (by decide)).trans p0) ((m 166 (by decide) (by decide)).trans p1) ((m 167 (by decide) (by decide)).trans p2) ((m 168 (by decide) (by decide)).trans p3) pN
theorem cm_3 {d : Nat} (l : h.length = 168) (c : h[164]? = some (.inr (12, [.ref 165, .ref 166, .ref 167, .null, .int 0, .int 0, .int 0, .null, .null, .null, .null, .null, .int 0, .int 0, .int 0, .null, .int 0, .null, .null, .int 0, .int 0, .int 0, .null, .int 0, .null, .int 0, .null, .int 0, .null, .int 0, .long 0, .long 0, .int 0, .int 0, .int 0, .int 0, .long 0, .int 0, .null]))) (T : ∀ i, i < 164 → h[i]? = h0[i]?) (p0 : h[165]? = some (am_ia 67600 Z0)) (p1 : h[166]? = some (am_ia 260 Z0)) (p2 : h[167]? = some (am_ia 130 Z0)) : am_w X (d + 3) 139 (30, [.ref 164, am_U], [], h) (fun r h' => r = none ∧ h'.length = 182 ∧ ex 164 h0 h' ∧ FW h' h' Z0 (fun _ => 0) A00) := by
  refine wr_aload_n rfl rfl rfl ?_
  refine wr_sipush rfl rfl (by decide) ?_
  refine wr_newi (n := 400) rfl rfl (by decide) ?_
  rw [l]
  have cA : (h ++ [am_ia 400 fun _ => 0])[164]? = some _ := (ap_lt (by omega)).trans c
  refine wr_putA (ci := 12) (f := 3) (fs' := [_, _, _, _, _, _, _, _, _, _, _, _, _, _, _, _, _, _, _, _, _, _, _, _, _, _, _, _, _, _, _, _, _, _, _, _, _, _, _]) rfl rfl rfl cA rfl rfl rfl (fun h1 e1 => ?_)
  have c1 : h1[164]? = some _ := (by rw [e1]; exact am_set_s cA)
  have l1 : h1.length = 169 := by rw [e1]; exact set_len (ap_len l)
  have m : ∀ i, i ≠ 164 → i < 168 → h1[i]? = h[i]? := fun i i1 i2 => by rw [e1, am_set_n (Ne.symm i1)]; exact ap_lt (by omega)
  have pN : h1[168]? = some (am_ia 400 Z0) := (by rw [e1, am_set_n (by omega)]; exact ap_la l)
  exact cm_4 l1 c1 (fun i hi => (m i (by omega) (by omega)).trans (T i hi)) ((m 165 (by decide) (by decide)).trans p0) ((m 166 (by decide) (by decide)).trans p1) ((m 167 (by decide) (by decide)).trans p2) pN
theorem cm_2 {d : Nat} (l : h.length = 167) (c : h[164]? = some (.inr (12, [.ref 165, .ref 166, .null, .null, .int 0, .int 0, .int 0, .null, .null, .null, .null, .null, .int 0, .int 0, .int 0, .null, .int 0, .null, .null, .int 0, .int 0, .int 0, .null, .int 0, .null, .int 0, .null, .int 0, .null, .int 0, .long 0, .long 0, .int 0, .int 0, .int 0, .int 0, .long 0, .int 0, .null]))) (T : ∀ i, i < 164 → h[i]? = h0[i]?) (p0 : h[165]? = some (am_ia 67600 Z0)) (p1 : h[166]? = some (am_ia 260 Z0)) : am_w X (d + 3) 139 (21, [.ref 164, am_U], [], h) (fun r h' => r = none ∧ h'.length = 182 ∧ ex 164 h0 h' ∧ FW h' h' Z0 (fun _ => 0) A00) := by
  refine wr_aload_n rfl rfl rfl ?_
  refine wr_sipush rfl rfl (by decide) ?_
  refine wr_newi (n := 130) rfl rfl (by decide) ?_
  rw [l]
  have cA : (h ++ [am_ia 130 fun _ => 0])[164]? = some _ := (ap_lt (by omega)).trans c
  refine wr_putA (ci := 12) (f := 2) (fs' := [_, _, _, _, _, _, _, _, _, _, _, _, _, _, _, _, _, _, _, _, _, _, _, _, _, _, _, _, _, _, _, _, _, _, _, _, _, _, _]) rfl rfl rfl cA rfl rfl rfl (fun h1 e1 => ?_)
  have c1 : h1[164]? = some _ := (by rw [e1]; exact am_set_s cA)
  have l1 : h1.length = 168 := by rw [e1]; exact set_len (ap_len l)
  have m : ∀ i, i ≠ 164 → i < 167 → h1[i]? = h[i]? := fun i i1 i2 => by rw [e1, am_set_n (Ne.symm i1)]; exact ap_lt (by omega)
  have pN : h1[167]? = some (am_ia 130 Z0) := (by rw [e1, am_set_n (by omega)]; exact ap_la l)
  exact cm_3 l1 c1 (fun i hi => (m i (by omega) (by omega)).trans (T i hi)) ((m 165 (by decide) (by decide)).trans p0) ((m 166 (by decide) (by decide)).trans p1) pN
theorem cm_1 {d : Nat} (l : h.length = 166) (c : h[164]? = some (.inr (12, [.ref 165, .null, .null, .null, .int 0, .int 0, .int 0, .null, .null, .null, .null, .null, .int 0, .int 0, .int 0, .null, .int 0, .null, .null, .int 0, .int 0, .int 0, .null, .int 0, .null, .int 0, .null, .int 0, .null, .int 0, .long 0, .long 0, .int 0, .int 0, .int 0, .int 0, .long 0, .int 0, .null]))) (T : ∀ i, i < 164 → h[i]? = h0[i]?) (p0 : h[165]? = some (am_ia 67600 Z0)) : am_w X (d + 3) 139 (12, [.ref 164, am_U], [], h) (fun r h' => r = none ∧ h'.length = 182 ∧ ex 164 h0 h' ∧ FW h' h' Z0 (fun _ => 0) A00) := by
  refine wr_aload_n rfl rfl rfl ?_
  refine wr_sipush rfl rfl (by decide) ?_
  refine wr_newi (n := 260) rfl rfl (by decide) ?_
  rw [l]
  have cA : (h ++ [am_ia 260 fun _ => 0])[164]? = some _ := (ap_lt (by omega)).trans c
  refine wr_putA (ci := 12) (f := 1) (fs' := [_, _, _, _, _, _, _, _, _, _, _, _, _, _, _, _, _, _, _, _, _, _, _, _, _, _, _, _, _, _, _, _, _, _, _, _, _, _, _]) rfl rfl rfl cA rfl rfl rfl (fun h1 e1 => ?_)
  have c1 : h1[164]? = some _ := (by rw [e1]; exact am_set_s cA)
  have l1 : h1.length = 167 := by rw [e1]; exact set_len (ap_len l)
  have m : ∀ i, i ≠ 164 → i < 166 → h1[i]? = h[i]? := fun i i1 i2 => by rw [e1, am_set_n (Ne.symm i1)]; exact ap_lt (by omega)
  have pN : h1[166]? = some (am_ia 260 Z0) := (by rw [e1, am_set_n (by omega)]; exact ap_la l)
  exact cm_2 l1 c1 (fun i hi => (m i (by omega) (by omega)).trans (T i hi)) ((m 165 (by decide) (by decide)).trans p0) pN
theorem cm_0 {d : Nat} (l : h.length = 165) (c : h[164]? = some (.inr (12, [.null, .null, .null, .null, .int 0, .int 0, .int 0, .null, .null, .null, .null, .null, .int 0, .int 0, .int 0, .null, .int 0, .null, .null, .int 0, .int 0, .int 0, .null, .int 0, .null, .int 0, .null, .int 0, .null, .int 0, .long 0, .long 0, .int 0, .int 0, .int 0, .int 0, .long 0, .int 0, .null]))) (T : ∀ i, i < 164 → h[i]? = h0[i]?)  : am_w X (d + 3) 139 (4, [.ref 164, am_U], [], h) (fun r h' => r = none ∧ h'.length = 182 ∧ ex 164 h0 h' ∧ FW h' h' Z0 (fun _ => 0) A00) := by
  refine wr_aload_n rfl rfl rfl ?_
  refine wr_ldc (z := 67600) rfl rfl rfl (by decide) ?_
  refine wr_newi (n := 67600) rfl rfl (by decide) ?_
  rw [l]
  have cA : (h ++ [am_ia 67600 fun _ => 0])[164]? = some _ := (ap_lt (by omega)).trans c
  refine wr_putA (ci := 12) (f := 0) (fs' := [_, _, _, _, _, _, _, _, _, _, _, _, _, _, _, _, _, _, _, _, _, _, _, _, _, _, _, _, _, _, _, _, _, _, _, _, _, _, _]) rfl rfl rfl cA rfl rfl rfl (fun h1 e1 => ?_)
  have c1 : h1[164]? = some _ := (by rw [e1]; exact am_set_s cA)
  have l1 : h1.length = 166 := by rw [e1]; exact set_len (ap_len l)
  have m : ∀ i, i ≠ 164 → i < 165 → h1[i]? = h[i]? := fun i i1 i2 => by rw [e1, am_set_n (Ne.symm i1)]; exact ap_lt (by omega)
  have pN : h1[165]? = some (am_ia 67600 Z0) := (by rw [e1, am_set_n (by omega)]; exact ap_la l)
  exact cm_1 l1 c1 (fun i hi => (m i (by omega) (by omega)).trans (T i hi))  pN
theorem rr_init {d : Nat} (hc : h[164]? = some (.inr (12, am_dfl 12))) (hl : h.length = 165) : am_c X (d + 4) 139 [.ref 164] h (fun r h' => r = none ∧ h'.length = 182 ∧ ex 164 h h' ∧ RR h' ps0) := by
  have main : am_c X (d + 4) 139 [.ref 164] h (fun r h' => r = none ∧ h'.length = 182 ∧ ex 164 h h' ∧ FW h' h' Z0 (fun _ => 0) A00) := by
    refine am_c.of (Nat.le_of_ble_eq_true rfl) ?_
    show am_w _ _ _ (_, [_, _], _, _) _
    refine wr_aload_n rfl rfl rfl ?_
    refine wr_oinit rfl rfl rfl rfl ?_
    exact cm_0 hl hc (fun _ _ => rfl)
  refine main.mono (fun r h' q => ?_)
  obtain ⟨q1, q2, q3, w⟩ := q
  refine ⟨q1, q2, q3, Z0, fun _ => 0, A00, w, ⟨rfl, fun i hi => absurd hi (Nat.not_lt_zero _)⟩, ⟨rfl, fun k hk => ?_, fun j hj => absurd hj (Nat.not_lt_zero _)⟩, ⟨rfl, fun i hi => absurd hi (Nat.not_lt_zero _)⟩, ⟨rfl, rfl, rfl, rfl⟩, ⟨?_, fun _ => rfl, by decide, fun q => absurd (show (0 : Int) = 1 from q) (by decide)⟩, rfl, Z0, Z0, fun k hk => absurd hk (Nat.not_lt_zero _), fun k hk => absurd hk (Nat.not_lt_zero _), fun q => absurd q (Nat.lt_irrefl _), rfl, rfl⟩
  · have hk : k ≤ 0 := hk
    rw [show k = 0 by omega]
    rfl
  · show (0 : Int) = if (0 : Int) = 1 then _ else 0
    rw [if_neg (by decide)]
end RUA
