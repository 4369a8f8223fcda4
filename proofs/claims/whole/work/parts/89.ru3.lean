/-! THE 208: what one int of the script asks of both -/
section RUD
variable {X : Nat × (Nat → Int32)}
set_option maxRecDepth 8000 in
theorem lw_0 {d i : Nat} {z : PS} {h : am_H} {Q : Option Value → am_H → Prop} (hi : i + 4 ≤ X.1) (hX : X.1 ≤ 2048) (V : VX z) (C : CR h z) (R : RR h z) (l : h.length = 182) (N : ∀ (z' : PS) (h' : am_H), VX z' → CR h' z' → RR h' z' → h'.length = 182 → am_w X (d + 11) 208 (601, [am_X, .ref 0, .ref 164, .int (iI i)], [], h') Q) : am_w X (d + 11) 208 (116, [am_X, .ref 0, .ref 164, .int (iI i)], [], h) Q := by
  obtain ⟨f0, c0⟩ := C.c0
  obtain ⟨f1, c1⟩ := R.c0
  have e1 : ((i : Int) + 1).toNat = i + 1 := by omega
  have e2 : ((i : Int) + 2).toNat = i + 2 := by omega
  have e3 : ((i : Int) + 3).toNat = i + 3 := by omega
  have x1 := xs_in X (i + 1)
  have x2 := xs_in X (i + 2)
  have x3 := xs_in X (i + 3)
  refine wr_aload_n rfl rfl rfl ?_
  refine wr_aload_nX rfl rfl rfl ?_
  refine wr_iload_n rfl rfl rfl ?_
  refine wr_iconst rfl rfl ?_
  refine wr_iadd rfl rfl ?_
  refine wr_ialZ rfl rfl (by omega) (by omega) ?_
  rw [e1]
  refine wr_cv1 (k' := 14) (ci := 0) rfl rfl rfl rfl (by assumption) rfl rfl (cr_unit (u := xs X (i + 1)) C V.1 x1) (fun r h2 q => ?_)
  rcases q with ⟨c, rfl, C', f⟩ | ⟨c, rfl, C', f⟩
  ·
    have R' := R.by f
    have l' := f.1.trans l
    obtain ⟨f1, c1⟩ := R'.c0
    refine wr_aload_n rfl rfl rfl ?_
    refine wr_aload_nX rfl rfl rfl ?_
    refine wr_iload_n rfl rfl rfl ?_
    refine wr_iconst rfl rfl ?_
    refine wr_iadd rfl rfl ?_
    refine wr_ialZ rfl rfl (by omega) (by omega) ?_
    rw [e1]
    refine wr_cv1 (k' := 153) (ci := 12) rfl rfl rfl rfl (by assumption) rfl rfl (rr_unit (u := xs X (i + 1)) R' V.1 x1) (fun r h2 q => ?_)
    rcases q with ⟨c', rfl, R', f'⟩ | ⟨c', rfl, R', f'⟩
    ·
      refine wr_icmp_sm rfl rfl ?_
      exact N _ _ (vx_unit V c) (C'.by f') R' (f'.1.trans l')
    · exact absurd c c'
  ·
    have R' := R.by f
    have l' := f.1.trans l
    obtain ⟨f1, c1⟩ := R'.c0
    refine wr_aload_n rfl rfl rfl ?_
    refine wr_aload_nX rfl rfl rfl ?_
    refine wr_iload_n rfl rfl rfl ?_
    refine wr_iconst rfl rfl ?_
    refine wr_iadd rfl rfl ?_
    refine wr_ialZ rfl rfl (by omega) (by omega) ?_
    rw [e1]
    refine wr_cv1 (k' := 153) (ci := 12) rfl rfl rfl rfl (by assumption) rfl rfl (rr_unit (u := xs X (i + 1)) R' V.1 x1) (fun r h2 q => ?_)
    rcases q with ⟨c', rfl, R', f'⟩ | ⟨c', rfl, R', f'⟩
    · exact absurd c' c
    ·
      refine wr_icmp_sm rfl rfl ?_
      exact N _ _ V (C'.by f') R' (f'.1.trans l')
set_option maxRecDepth 8000 in
theorem lw_1 {d i : Nat} {z : PS} {h : am_H} {Q : Option Value → am_H → Prop} (hi : i + 4 ≤ X.1) (hX : X.1 ≤ 2048) (V : VX z) (C : CR h z) (R : RR h z) (l : h.length = 182) (N : ∀ (z' : PS) (h' : am_H), VX z' → CR h' z' → RR h' z' → h'.length = 182 → am_w X (d + 11) 208 (601, [am_X, .ref 0, .ref 164, .int (iI i)], [], h') Q) : am_w X (d + 11) 208 (139, [am_X, .ref 0, .ref 164, .int (iI i)], [], h) Q := by
  obtain ⟨f0, c0⟩ := C.c0
  obtain ⟨f1, c1⟩ := R.c0
  have e1 : ((i : Int) + 1).toNat = i + 1 := by omega
  have e2 : ((i : Int) + 2).toNat = i + 2 := by omega
  have e3 : ((i : Int) + 3).toNat = i + 3 := by omega
  have x1 := xs_in X (i + 1)
  have x2 := xs_in X (i + 2)
  have x3 := xs_in X (i + 3)
  refine wr_aload_n rfl rfl rfl ?_
  refine wr_cv0 (k' := 16) (ci := 0) rfl rfl rfl rfl (by assumption) rfl rfl (cr_read C V.1) (fun r h2 q => ?_)
  obtain ⟨s0, en0, q⟩ := q
  have K : ∀ (r : Option Value) (h2 : am_H), frI [(0, 163)] h h2 → (match pall z.T z.n 500 (PT.mk s0.kd s0.fi s0.se s0.ta (0) s0.st s0.wt s0.op) en0 0 (skp z.T z.n 0) with
    | .error q => r = some (.int (iI (-1 - (q : Int)))) ∧ CR h2 (PS.mk z.T (0) z.M z.gn z.go z.gl z.al z.ab z.ll z.lr z.wk z.vn z.vo z.vl z.L z.R z.eL z.fL z.eR z.fR z.ch z.tk z.ks z.lm z.cC z.cF z.vC z.vF)
    | .ok (a, _) => r = some (.int (iI (a.2.2 : Int))) ∧ CR h2 (readP z (Tm.mk a.1.kd a.1.fi a.1.se a.1.ta a.2.1 a.1.od a.1.st a.2.2))) → am_w X (d + 11) 208 (143, [am_X, .ref 0, .ref 164, .int (iI i)], r.toList ++ [], h2) Q := by
    intro r h2 f q
    have R' := R.by f
    have l' := f.1.trans l
    obtain ⟨f1, c1⟩ := R'.c0
    cases hP : pall z.T z.n 500 (PT.mk s0.kd s0.fi s0.se s0.ta (0) s0.st s0.wt s0.op) en0 0 (skp z.T z.n 0) with
    | error y =>
      rw [hP] at q
      obtain ⟨rfl, C'⟩ := q
      refine wr_aload_n rfl rfl rfl ?_
      refine wr_cv0 (k' := 154) (ci := 12) rfl rfl rfl rfl (by assumption) rfl rfl (rr_read (s0 := s0) (en0 := en0) R' V.1) (fun r h2 q => ?_)
      rw [hP] at q
      obtain ⟨rfl, R'', f'⟩ := q
      refine wr_icmp_sm rfl rfl ?_
      exact N _ _ (vx_n0 V) (C'.by f') R'' (f'.1.trans l')
    | ok y =>
      obtain ⟨⟨s1, en1, k1⟩, q1⟩ := y
      rw [hP] at q
      obtain ⟨rfl, C'⟩ := q
      have g := pall_ok 500 (s := (PT.mk s0.kd s0.fi s0.se s0.ta (0) s0.st s0.wt s0.op)) (en := en0) (k := 0) ⟨by omega, Or.inl rfl, fun _ => rfl, fun t h => absurd h (Nat.not_lt_zero _), fun t h => absurd h (Nat.not_lt_zero _), fun j h => absurd h (Nat.not_lt_zero _), fun t j h => absurd h (Nat.not_lt_zero _)⟩ ((skp_spec z.T z.n 0).2.1 (Nat.zero_le _)) hP
      refine wr_aload_n rfl rfl rfl ?_
      refine wr_cv0 (k' := 154) (ci := 12) rfl rfl rfl rfl (by assumption) rfl rfl (rr_read (s0 := s0) (en0 := en0) R' V.1) (fun r h2 q => ?_)
      rw [hP] at q
      obtain ⟨rfl, R'', f'⟩ := q
      refine wr_icmp_sm rfl rfl ?_
      exact N _ _ (vx_read V g.1) (C'.by f') R'' (f'.1.trans l')
  cases hP : pall z.T z.n 500 (PT.mk s0.kd s0.fi s0.se s0.ta (0) s0.st s0.wt s0.op) en0 0 (skp z.T z.n 0) with
  | error y =>
    rw [hP] at q K
    exact K r h2 q.2.2 ⟨q.1, q.2.1⟩
  | ok y =>
    rw [hP] at q K
    exact K r h2 q.2.2 ⟨q.1, q.2.1⟩
set_option maxRecDepth 8000 in
theorem lw_2 {d i : Nat} {z : PS} {h : am_H} {Q : Option Value → am_H → Prop} (hi : i + 4 ≤ X.1) (hX : X.1 ≤ 2048) (V : VX z) (C : CR h z) (R : RR h z) (l : h.length = 182) (N : ∀ (z' : PS) (h' : am_H), VX z' → CR h' z' → RR h' z' → h'.length = 182 → am_w X (d + 11) 208 (601, [am_X, .ref 0, .ref 164, .int (iI i)], [], h') Q) : am_w X (d + 11) 208 (152, [am_X, .ref 0, .ref 164, .int (iI i)], [], h) Q := by
  obtain ⟨f0, c0⟩ := C.c0
  obtain ⟨f1, c1⟩ := R.c0
  have e1 : ((i : Int) + 1).toNat = i + 1 := by omega
  have e2 : ((i : Int) + 2).toNat = i + 2 := by omega
  have e3 : ((i : Int) + 3).toNat = i + 3 := by omega
  have x1 := xs_in X (i + 1)
  have x2 := xs_in X (i + 2)
  have x3 := xs_in X (i + 3)
  refine wr_aload_n rfl rfl rfl ?_
  refine wr_aload_nX rfl rfl rfl ?_
  refine wr_iload_n rfl rfl rfl ?_
  refine wr_iconst rfl rfl ?_
  refine wr_iadd rfl rfl ?_
  refine wr_ialZ rfl rfl (by omega) (by omega) ?_
  rw [e1]
  refine wr_aload_nX rfl rfl rfl ?_
  refine wr_iload_n rfl rfl rfl ?_
  refine wr_iconst rfl rfl ?_
  refine wr_iadd rfl rfl ?_
  refine wr_ialZ rfl rfl (by omega) (by omega) ?_
  rw [e2]
  refine wr_cv2 (k' := 46) (ci := 0) rfl rfl rfl rfl (by assumption) rfl rfl (cr_ground (o := xs X (i + 1)) (l := xs X (i + 2)) C V.1 x1 x2) (fun r h2 q => ?_)
  rcases q with ⟨c, rfl, C', f⟩ | ⟨c, rfl, C', f⟩
  ·
    have R' := R.by f
    have l' := f.1.trans l
    obtain ⟨f1, c1⟩ := R'.c0
    refine wr_aload_n rfl rfl rfl ?_
    refine wr_aload_nX rfl rfl rfl ?_
    refine wr_iload_n rfl rfl rfl ?_
    refine wr_iconst rfl rfl ?_
    refine wr_iadd rfl rfl ?_
    refine wr_ialZ rfl rfl (by omega) (by omega) ?_
    rw [e1]
    refine wr_aload_nX rfl rfl rfl ?_
    refine wr_iload_n rfl rfl rfl ?_
    refine wr_iconst rfl rfl ?_
    refine wr_iadd rfl rfl ?_
    refine wr_ialZ rfl rfl (by omega) (by omega) ?_
    rw [e2]
    refine wr_cv2 (k' := 164) (ci := 12) rfl rfl rfl rfl (by assumption) rfl rfl (rr_ground (x := xs X (i + 1)) (y := xs X (i + 2)) R' V.1 x1 x2) (fun r h2 q => ?_)
    rcases q with ⟨c', rfl, R', f'⟩ | ⟨c', rfl, R', f'⟩
    ·
      refine wr_icmp_sm rfl rfl ?_
      exact N _ _ (vx_ground V c) (C'.by f') R' (f'.1.trans l')
    · exact absurd c c'
  ·
    have R' := R.by f
    have l' := f.1.trans l
    obtain ⟨f1, c1⟩ := R'.c0
    refine wr_aload_n rfl rfl rfl ?_
    refine wr_aload_nX rfl rfl rfl ?_
    refine wr_iload_n rfl rfl rfl ?_
    refine wr_iconst rfl rfl ?_
    refine wr_iadd rfl rfl ?_
    refine wr_ialZ rfl rfl (by omega) (by omega) ?_
    rw [e1]
    refine wr_aload_nX rfl rfl rfl ?_
    refine wr_iload_n rfl rfl rfl ?_
    refine wr_iconst rfl rfl ?_
    refine wr_iadd rfl rfl ?_
    refine wr_ialZ rfl rfl (by omega) (by omega) ?_
    rw [e2]
    refine wr_cv2 (k' := 164) (ci := 12) rfl rfl rfl rfl (by assumption) rfl rfl (rr_ground (x := xs X (i + 1)) (y := xs X (i + 2)) R' V.1 x1 x2) (fun r h2 q => ?_)
    rcases q with ⟨c', rfl, R', f'⟩ | ⟨c', rfl, R', f'⟩
    · exact absurd c' c
    ·
      refine wr_icmp_sm rfl rfl ?_
      exact N _ _ V (C'.by f') R' (f'.1.trans l')
set_option maxRecDepth 8000 in
theorem lw_3 {d i : Nat} {z : PS} {h : am_H} {Q : Option Value → am_H → Prop} (hi : i + 4 ≤ X.1) (hX : X.1 ≤ 2048) (V : VX z) (C : CR h z) (R : RR h z) (l : h.length = 182) (N : ∀ (z' : PS) (h' : am_H), VX z' → CR h' z' → RR h' z' → h'.length = 182 → am_w X (d + 11) 208 (601, [am_X, .ref 0, .ref 164, .int (iI i)], [], h') Q) : am_w X (d + 11) 208 (185, [am_X, .ref 0, .ref 164, .int (iI i)], [], h) Q := by
  obtain ⟨f0, c0⟩ := C.c0
  obtain ⟨f1, c1⟩ := R.c0
  have e1 : ((i : Int) + 1).toNat = i + 1 := by omega
  have e2 : ((i : Int) + 2).toNat = i + 2 := by omega
  have e3 : ((i : Int) + 3).toNat = i + 3 := by omega
  have x1 := xs_in X (i + 1)
  have x2 := xs_in X (i + 2)
  have x3 := xs_in X (i + 3)
  refine wr_aload_n rfl rfl rfl ?_
  refine wr_cv0 (k' := 49) (ci := 0) rfl rfl rfl rfl (by assumption) rfl rfl (cr_clear C) (fun r h2 q => ?_)
  obtain ⟨rfl, C', f⟩ := q
  have R' := R.by f
  have l' := f.1.trans l
  obtain ⟨f1, c1⟩ := R'.c0
  refine wr_aload_n rfl rfl rfl ?_
  refine wr_cv0 (k' := 166) (ci := 12) rfl rfl rfl rfl (by assumption) rfl rfl (rr_clear R' V.1) (fun r h2 q => ?_)
  obtain ⟨rfl, R'', f'⟩ := q
  refine wr_goto rfl rfl ?_
  exact N _ _ (vx_clear V) (C'.by f') R'' (f'.1.trans l')
set_option maxRecDepth 8000 in
theorem lw_4 {d i : Nat} {z : PS} {h : am_H} {Q : Option Value → am_H → Prop} (hi : i + 4 ≤ X.1) (hX : X.1 ≤ 2048) (V : VX z) (C : CR h z) (R : RR h z) (l : h.length = 182) (N : ∀ (z' : PS) (h' : am_H), VX z' → CR h' z' → RR h' z' → h'.length = 182 → am_w X (d + 11) 208 (601, [am_X, .ref 0, .ref 164, .int (iI i)], [], h') Q) : am_w X (d + 11) 208 (196, [am_X, .ref 0, .ref 164, .int (iI i)], [], h) Q := by
  obtain ⟨f0, c0⟩ := C.c0
  obtain ⟨f1, c1⟩ := R.c0
  have e1 : ((i : Int) + 1).toNat = i + 1 := by omega
  have e2 : ((i : Int) + 2).toNat = i + 2 := by omega
  have e3 : ((i : Int) + 3).toNat = i + 3 := by omega
  have x1 := xs_in X (i + 1)
  have x2 := xs_in X (i + 2)
  have x3 := xs_in X (i + 3)
  refine wr_aload_n rfl rfl rfl ?_
  refine wr_aload_nX rfl rfl rfl ?_
  refine wr_iload_n rfl rfl rfl ?_
  refine wr_iconst rfl rfl ?_
  refine wr_iadd rfl rfl ?_
  refine wr_ialZ rfl rfl (by omega) (by omega) ?_
  rw [e1]
  refine wr_aload_nX rfl rfl rfl ?_
  refine wr_iload_n rfl rfl rfl ?_
  refine wr_iconst rfl rfl ?_
  refine wr_iadd rfl rfl ?_
  refine wr_ialZ rfl rfl (by omega) (by omega) ?_
  rw [e2]
  refine wr_cv2 (k' := 51) (ci := 0) rfl rfl rfl rfl (by assumption) rfl rfl (cr_axis (x := xs X (i + 1)) (y := xs X (i + 2)) C x1 x2) (fun r h2 q => ?_)
  rcases q with ⟨c, rfl, C', f⟩ | ⟨c, rfl, C', f⟩
  ·
    have R' := R.by f
    have l' := f.1.trans l
    obtain ⟨f1, c1⟩ := R'.c0
    refine wr_aload_n rfl rfl rfl ?_
    refine wr_aload_nX rfl rfl rfl ?_
    refine wr_iload_n rfl rfl rfl ?_
    refine wr_iconst rfl rfl ?_
    refine wr_iadd rfl rfl ?_
    refine wr_ialZ rfl rfl (by omega) (by omega) ?_
    rw [e1]
    refine wr_aload_nX rfl rfl rfl ?_
    refine wr_iload_n rfl rfl rfl ?_
    refine wr_iconst rfl rfl ?_
    refine wr_iadd rfl rfl ?_
    refine wr_ialZ rfl rfl (by omega) (by omega) ?_
    rw [e2]
    refine wr_cv2 (k' := 167) (ci := 12) rfl rfl rfl rfl (by assumption) rfl rfl (rr_axis (x := xs X (i + 1)) (y := xs X (i + 2)) R' V.1 x1 x2) (fun r h2 q => ?_)
    rcases q with ⟨c', rfl, R', f'⟩ | ⟨c', rfl, R', f'⟩
    ·
      refine wr_icmp_sm rfl rfl ?_
      exact N _ _ (vx_axis V c) (C'.by f') R' (f'.1.trans l')
    · exact absurd c c'
  ·
    have R' := R.by f
    have l' := f.1.trans l
    obtain ⟨f1, c1⟩ := R'.c0
    refine wr_aload_n rfl rfl rfl ?_
    refine wr_aload_nX rfl rfl rfl ?_
    refine wr_iload_n rfl rfl rfl ?_
    refine wr_iconst rfl rfl ?_
    refine wr_iadd rfl rfl ?_
    refine wr_ialZ rfl rfl (by omega) (by omega) ?_
    rw [e1]
    refine wr_aload_nX rfl rfl rfl ?_
    refine wr_iload_n rfl rfl rfl ?_
    refine wr_iconst rfl rfl ?_
    refine wr_iadd rfl rfl ?_
    refine wr_ialZ rfl rfl (by omega) (by omega) ?_
    rw [e2]
    refine wr_cv2 (k' := 167) (ci := 12) rfl rfl rfl rfl (by assumption) rfl rfl (rr_axis (x := xs X (i + 1)) (y := xs X (i + 2)) R' V.1 x1 x2) (fun r h2 q => ?_)
    rcases q with ⟨c', rfl, R', f'⟩ | ⟨c', rfl, R', f'⟩
    · exact absurd c' c
    ·
      refine wr_icmp_sm rfl rfl ?_
      exact N _ _ V (C'.by f') R' (f'.1.trans l')
set_option maxRecDepth 8000 in
theorem lw_5 {d i : Nat} {z : PS} {h : am_H} {Q : Option Value → am_H → Prop} (hi : i + 4 ≤ X.1) (hX : X.1 ≤ 2048) (V : VX z) (C : CR h z) (R : RR h z) (l : h.length = 182) (N : ∀ (z' : PS) (h' : am_H), VX z' → CR h' z' → RR h' z' → h'.length = 182 → am_w X (d + 11) 208 (601, [am_X, .ref 0, .ref 164, .int (iI i)], [], h') Q) : am_w X (d + 11) 208 (229, [am_X, .ref 0, .ref 164, .int (iI i)], [], h) Q := by
  obtain ⟨f0, c0⟩ := C.c0
  obtain ⟨f1, c1⟩ := R.c0
  have e1 : ((i : Int) + 1).toNat = i + 1 := by omega
  have e2 : ((i : Int) + 2).toNat = i + 2 := by omega
  have e3 : ((i : Int) + 3).toNat = i + 3 := by omega
  have x1 := xs_in X (i + 1)
  have x2 := xs_in X (i + 2)
  have x3 := xs_in X (i + 3)
  refine wr_aload_n rfl rfl rfl ?_
  refine wr_aload_nX rfl rfl rfl ?_
  refine wr_iload_n rfl rfl rfl ?_
  refine wr_iconst rfl rfl ?_
  refine wr_iadd rfl rfl ?_
  refine wr_ialZ rfl rfl (by omega) (by omega) ?_
  rw [e1]
  refine wr_aload_nX rfl rfl rfl ?_
  refine wr_iload_n rfl rfl rfl ?_
  refine wr_iconst rfl rfl ?_
  refine wr_iadd rfl rfl ?_
  refine wr_ialZ rfl rfl (by omega) (by omega) ?_
  rw [e2]
  refine wr_cv2 (k' := 52) (ci := 0) rfl rfl rfl rfl (by assumption) rfl rfl (cr_land (x := xs X (i + 1)) (y := xs X (i + 2)) C x1 x2) (fun r h2 q => ?_)
  rcases q with ⟨c, rfl, C', f⟩ | ⟨c, rfl, C', f⟩
  ·
    have R' := R.by f
    have l' := f.1.trans l
    obtain ⟨f1, c1⟩ := R'.c0
    refine wr_aload_n rfl rfl rfl ?_
    refine wr_aload_nX rfl rfl rfl ?_
    refine wr_iload_n rfl rfl rfl ?_
    refine wr_iconst rfl rfl ?_
    refine wr_iadd rfl rfl ?_
    refine wr_ialZ rfl rfl (by omega) (by omega) ?_
    rw [e1]
    refine wr_aload_nX rfl rfl rfl ?_
    refine wr_iload_n rfl rfl rfl ?_
    refine wr_iconst rfl rfl ?_
    refine wr_iadd rfl rfl ?_
    refine wr_ialZ rfl rfl (by omega) (by omega) ?_
    rw [e2]
    refine wr_cv2 (k' := 168) (ci := 12) rfl rfl rfl rfl (by assumption) rfl rfl (rr_land (x := xs X (i + 1)) (y := xs X (i + 2)) R' V.1 x1 x2) (fun r h2 q => ?_)
    rcases q with ⟨c', rfl, R', f'⟩ | ⟨c', rfl, R', f'⟩
    ·
      refine wr_icmp_sm rfl rfl ?_
      exact N _ _ (vx_land V c) (C'.by f') R' (f'.1.trans l')
    · exact absurd c c'
  ·
    have R' := R.by f
    have l' := f.1.trans l
    obtain ⟨f1, c1⟩ := R'.c0
    refine wr_aload_n rfl rfl rfl ?_
    refine wr_aload_nX rfl rfl rfl ?_
    refine wr_iload_n rfl rfl rfl ?_
    refine wr_iconst rfl rfl ?_
    refine wr_iadd rfl rfl ?_
    refine wr_ialZ rfl rfl (by omega) (by omega) ?_
    rw [e1]
    refine wr_aload_nX rfl rfl rfl ?_
    refine wr_iload_n rfl rfl rfl ?_
    refine wr_iconst rfl rfl ?_
    refine wr_iadd rfl rfl ?_
    refine wr_ialZ rfl rfl (by omega) (by omega) ?_
    rw [e2]
    refine wr_cv2 (k' := 168) (ci := 12) rfl rfl rfl rfl (by assumption) rfl rfl (rr_land (x := xs X (i + 1)) (y := xs X (i + 2)) R' V.1 x1 x2) (fun r h2 q => ?_)
    rcases q with ⟨c', rfl, R', f'⟩ | ⟨c', rfl, R', f'⟩
    · exact absurd c' c
    ·
      refine wr_icmp_sm rfl rfl ?_
      exact N _ _ V (C'.by f') R' (f'.1.trans l')
set_option maxRecDepth 8000 in
theorem lw_6 {d i : Nat} {z : PS} {h : am_H} {Q : Option Value → am_H → Prop} (hi : i + 4 ≤ X.1) (hX : X.1 ≤ 2048) (V : VX z) (C : CR h z) (R : RR h z) (l : h.length = 182) (N : ∀ (z' : PS) (h' : am_H), VX z' → CR h' z' → RR h' z' → h'.length = 182 → am_w X (d + 11) 208 (601, [am_X, .ref 0, .ref 164, .int (iI i)], [], h') Q) : am_w X (d + 11) 208 (262, [am_X, .ref 0, .ref 164, .int (iI i)], [], h) Q := by
  obtain ⟨f0, c0⟩ := C.c0
  obtain ⟨f1, c1⟩ := R.c0
  have e1 : ((i : Int) + 1).toNat = i + 1 := by omega
  have e2 : ((i : Int) + 2).toNat = i + 2 := by omega
  have e3 : ((i : Int) + 3).toNat = i + 3 := by omega
  have x1 := xs_in X (i + 1)
  have x2 := xs_in X (i + 2)
  have x3 := xs_in X (i + 3)
  refine wr_aload_n rfl rfl rfl ?_
  refine wr_aload_nX rfl rfl rfl ?_
  refine wr_iload_n rfl rfl rfl ?_
  refine wr_iconst rfl rfl ?_
  refine wr_iadd rfl rfl ?_
  refine wr_ialZ rfl rfl (by omega) (by omega) ?_
  rw [e1]
  refine wr_cv1 (k' := 54) (ci := 0) rfl rfl rfl rfl (by assumption) rfl rfl (cr_run (t := xs X (i + 1)) C V.1 V.2.2 x1) (fun r h2 q => ?_)
  rcases q with ⟨c, rfl, C', f⟩ | ⟨c, rfl, C', f⟩
  ·
    have R' := R.by f
    have l' := f.1.trans l
    obtain ⟨f1, c1⟩ := R'.c0
    refine wr_aload_n rfl rfl rfl ?_
    refine wr_aload_nX rfl rfl rfl ?_
    refine wr_iload_n rfl rfl rfl ?_
    refine wr_iconst rfl rfl ?_
    refine wr_iadd rfl rfl ?_
    refine wr_ialZ rfl rfl (by omega) (by omega) ?_
    rw [e1]
    refine wr_cv1 (k' := 169) (ci := 12) rfl rfl rfl rfl (by assumption) rfl rfl (rr_run (t := xs X (i + 1)) R' V.1 x1) (fun r h2 q => ?_)
    rcases q with ⟨c', rfl, R', f'⟩ | ⟨c', rfl, R', f'⟩
    ·
      refine wr_icmp_sm rfl rfl ?_
      exact N _ _ (vx_run V (by omega)) (C'.by f') R' (f'.1.trans l')
    · exact absurd c c'
  ·
    have R' := R.by f
    have l' := f.1.trans l
    obtain ⟨f1, c1⟩ := R'.c0
    refine wr_aload_n rfl rfl rfl ?_
    refine wr_aload_nX rfl rfl rfl ?_
    refine wr_iload_n rfl rfl rfl ?_
    refine wr_iconst rfl rfl ?_
    refine wr_iadd rfl rfl ?_
    refine wr_ialZ rfl rfl (by omega) (by omega) ?_
    rw [e1]
    refine wr_cv1 (k' := 169) (ci := 12) rfl rfl rfl rfl (by assumption) rfl rfl (rr_run (t := xs X (i + 1)) R' V.1 x1) (fun r h2 q => ?_)
    rcases q with ⟨c', rfl, R', f'⟩ | ⟨c', rfl, R', f'⟩
    · exact absurd c' c
    ·
      refine wr_icmp_sm rfl rfl ?_
      exact N _ _ V (C'.by f') R' (f'.1.trans l')
set_option maxRecDepth 8000 in
theorem lw_7 {d i : Nat} {z : PS} {h : am_H} {Q : Option Value → am_H → Prop} (hi : i + 4 ≤ X.1) (hX : X.1 ≤ 2048) (V : VX z) (C : CR h z) (R : RR h z) (l : h.length = 182) (N : ∀ (z' : PS) (h' : am_H), VX z' → CR h' z' → RR h' z' → h'.length = 182 → am_w X (d + 11) 208 (601, [am_X, .ref 0, .ref 164, .int (iI i)], [], h') Q) : am_w X (d + 11) 208 (285, [am_X, .ref 0, .ref 164, .int (iI i)], [], h) Q := by
  obtain ⟨f0, c0⟩ := C.c0
  obtain ⟨f1, c1⟩ := R.c0
  have e1 : ((i : Int) + 1).toNat = i + 1 := by omega
  have e2 : ((i : Int) + 2).toNat = i + 2 := by omega
  have e3 : ((i : Int) + 3).toNat = i + 3 := by omega
  have x1 := xs_in X (i + 1)
  have x2 := xs_in X (i + 2)
  have x3 := xs_in X (i + 3)
  refine wr_aload_n rfl rfl rfl ?_
  refine wr_aload_nX rfl rfl rfl ?_
  refine wr_iload_n rfl rfl rfl ?_
  refine wr_iconst rfl rfl ?_
  refine wr_iadd rfl rfl ?_
  refine wr_ialZ rfl rfl (by omega) (by omega) ?_
  rw [e1]
  refine wr_aload_nX rfl rfl rfl ?_
  refine wr_iload_n rfl rfl rfl ?_
  refine wr_iconst rfl rfl ?_
  refine wr_iadd rfl rfl ?_
  refine wr_ialZ rfl rfl (by omega) (by omega) ?_
  rw [e2]
  refine wr_aload_nX rfl rfl rfl ?_
  refine wr_iload_n rfl rfl rfl ?_
  refine wr_iconst rfl rfl ?_
  refine wr_iadd rfl rfl ?_
  refine wr_ialZ rfl rfl (by omega) (by omega) ?_
  rw [e3]
  refine wr_cv3 (k' := 106) (ci := 0) rfl rfl rfl rfl (by assumption) rfl rfl (cr_corner (k := xs X (i + 1)) (ax := xs X (i + 2)) (part := xs X (i + 3)) C V.1 x1 x2 x3) (fun r h2 q => ?_)
  obtain ⟨rfl, C', f⟩ := q
  have R' := R.by f
  have l' := f.1.trans l
  obtain ⟨f1, c1⟩ := R'.c0
  refine wr_aload_n rfl rfl rfl ?_
  refine wr_aload_nX rfl rfl rfl ?_
  refine wr_iload_n rfl rfl rfl ?_
  refine wr_iconst rfl rfl ?_
  refine wr_iadd rfl rfl ?_
  refine wr_ialZ rfl rfl (by omega) (by omega) ?_
  rw [e1]
  refine wr_aload_nX rfl rfl rfl ?_
  refine wr_iload_n rfl rfl rfl ?_
  refine wr_iconst rfl rfl ?_
  refine wr_iadd rfl rfl ?_
  refine wr_ialZ rfl rfl (by omega) (by omega) ?_
  rw [e2]
  refine wr_aload_nX rfl rfl rfl ?_
  refine wr_iload_n rfl rfl rfl ?_
  refine wr_iconst rfl rfl ?_
  refine wr_iadd rfl rfl ?_
  refine wr_ialZ rfl rfl (by omega) (by omega) ?_
  rw [e3]
  refine wr_cv3 (k' := 193) (ci := 12) rfl rfl rfl rfl (by assumption) rfl rfl (rr_corner (k := xs X (i + 1)) (ax := xs X (i + 2)) (part := xs X (i + 3)) R' V.1 x1 x2 x3) (fun r h2 q => ?_)
  obtain ⟨rfl, rfl⟩ := q
  refine wr_l_sm rfl rfl rfl rfl ?_
  exact N _ _ V C' R' l'
set_option maxRecDepth 8000 in
theorem lw_8 {d i : Nat} {z : PS} {h : am_H} {Q : Option Value → am_H → Prop} (hi : i + 4 ≤ X.1) (hX : X.1 ≤ 2048) (V : VX z) (C : CR h z) (R : RR h z) (l : h.length = 182) (N : ∀ (z' : PS) (h' : am_H), VX z' → CR h' z' → RR h' z' → h'.length = 182 → am_w X (d + 11) 208 (601, [am_X, .ref 0, .ref 164, .int (iI i)], [], h') Q) : am_w X (d + 11) 208 (329, [am_X, .ref 0, .ref 164, .int (iI i)], [], h) Q := by
  obtain ⟨f0, c0⟩ := C.c0
  obtain ⟨f1, c1⟩ := R.c0
  have e1 : ((i : Int) + 1).toNat = i + 1 := by omega
  have e2 : ((i : Int) + 2).toNat = i + 2 := by omega
  have e3 : ((i : Int) + 3).toNat = i + 3 := by omega
  have x1 := xs_in X (i + 1)
  have x2 := xs_in X (i + 2)
  have x3 := xs_in X (i + 3)
  refine wr_aload_n rfl rfl rfl ?_
  refine wr_aload_nX rfl rfl rfl ?_
  refine wr_iload_n rfl rfl rfl ?_
  refine wr_iconst rfl rfl ?_
  refine wr_iadd rfl rfl ?_
  refine wr_ialZ rfl rfl (by omega) (by omega) ?_
  rw [e1]
  refine wr_cv1 (k' := 112) (ci := 0) rfl rfl rfl rfl (by assumption) rfl rfl (cr_code (k := xs X (i + 1)) C V.1 x1) (fun r h2 q => ?_)
  obtain ⟨rfl, rfl⟩ := q
  refine wr_aload_n rfl rfl rfl ?_
  refine wr_aload_nX rfl rfl rfl ?_
  refine wr_iload_n rfl rfl rfl ?_
  refine wr_iconst rfl rfl ?_
  refine wr_iadd rfl rfl ?_
  refine wr_ialZ rfl rfl (by omega) (by omega) ?_
  rw [e1]
  refine wr_cv1 (k' := 198) (ci := 12) rfl rfl rfl rfl (by assumption) rfl rfl (rr_code (k := xs X (i + 1)) R V.1 x1) (fun r h2 q => ?_)
  obtain ⟨rfl, rfl⟩ := q
  refine wr_icmp_sm rfl rfl ?_
  exact N _ _ V C R l
set_option maxRecDepth 8000 in
theorem lw_9 {d i : Nat} {z : PS} {h : am_H} {Q : Option Value → am_H → Prop} (hi : i + 4 ≤ X.1) (hX : X.1 ≤ 2048) (V : VX z) (C : CR h z) (R : RR h z) (l : h.length = 182) (N : ∀ (z' : PS) (h' : am_H), VX z' → CR h' z' → RR h' z' → h'.length = 182 → am_w X (d + 11) 208 (601, [am_X, .ref 0, .ref 164, .int (iI i)], [], h') Q) : am_w X (d + 11) 208 (352, [am_X, .ref 0, .ref 164, .int (iI i)], [], h) Q := by
  obtain ⟨f0, c0⟩ := C.c0
  obtain ⟨f1, c1⟩ := R.c0
  have e1 : ((i : Int) + 1).toNat = i + 1 := by omega
  have e2 : ((i : Int) + 2).toNat = i + 2 := by omega
  have e3 : ((i : Int) + 3).toNat = i + 3 := by omega
  have x1 := xs_in X (i + 1)
  have x2 := xs_in X (i + 2)
  have x3 := xs_in X (i + 3)
  refine wr_aload_n rfl rfl rfl ?_
  refine wr_aload_nX rfl rfl rfl ?_
  refine wr_iload_n rfl rfl rfl ?_
  refine wr_iconst rfl rfl ?_
  refine wr_iadd rfl rfl ?_
  refine wr_ialZ rfl rfl (by omega) (by omega) ?_
  rw [e1]
  refine wr_cv1 (k' := 114) (ci := 0) rfl rfl rfl rfl (by assumption) rfl rfl (cr_ended (k := xs X (i + 1)) C V.1 x1) (fun r h2 q => ?_)
  obtain ⟨rfl, rfl⟩ := q
  refine wr_aload_n rfl rfl rfl ?_
  refine wr_aload_nX rfl rfl rfl ?_
  refine wr_iload_n rfl rfl rfl ?_
  refine wr_iconst rfl rfl ?_
  refine wr_iadd rfl rfl ?_
  refine wr_ialZ rfl rfl (by omega) (by omega) ?_
  rw [e1]
  refine wr_cv1 (k' := 199) (ci := 12) rfl rfl rfl rfl (by assumption) rfl rfl (rr_ended (k := xs X (i + 1)) R V.1 x1) (fun r h2 q => ?_)
  obtain ⟨rfl, rfl⟩ := q
  refine wr_icmp_sm rfl rfl ?_
  exact N _ _ V C R l
set_option maxRecDepth 8000 in
theorem lw_10 {d i : Nat} {z : PS} {h : am_H} {Q : Option Value → am_H → Prop} (hi : i + 4 ≤ X.1) (hX : X.1 ≤ 2048) (V : VX z) (C : CR h z) (R : RR h z) (l : h.length = 182) (N : ∀ (z' : PS) (h' : am_H), VX z' → CR h' z' → RR h' z' → h'.length = 182 → am_w X (d + 11) 208 (601, [am_X, .ref 0, .ref 164, .int (iI i)], [], h') Q) : am_w X (d + 11) 208 (375, [am_X, .ref 0, .ref 164, .int (iI i)], [], h) Q := by
  obtain ⟨f0, c0⟩ := C.c0
  obtain ⟨f1, c1⟩ := R.c0
  have e1 : ((i : Int) + 1).toNat = i + 1 := by omega
  have e2 : ((i : Int) + 2).toNat = i + 2 := by omega
  have e3 : ((i : Int) + 3).toNat = i + 3 := by omega
  have x1 := xs_in X (i + 1)
  have x2 := xs_in X (i + 2)
  have x3 := xs_in X (i + 3)
  refine wr_aload_n rfl rfl rfl ?_
  refine wr_aload_nX rfl rfl rfl ?_
  refine wr_iload_n rfl rfl rfl ?_
  refine wr_iconst rfl rfl ?_
  refine wr_iadd rfl rfl ?_
  refine wr_ialZ rfl rfl (by omega) (by omega) ?_
  rw [e1]
  refine wr_cv1 (k' := 116) (ci := 0) rfl rfl rfl rfl (by assumption) rfl rfl (cr_passed (k := xs X (i + 1)) C V.1 x1) (fun r h2 q => ?_)
  obtain ⟨rfl, C', f⟩ := q
  have R' := R.by f
  have l' := f.1.trans l
  obtain ⟨f1, c1⟩ := R'.c0
  refine wr_aload_n rfl rfl rfl ?_
  refine wr_aload_nX rfl rfl rfl ?_
  refine wr_iload_n rfl rfl rfl ?_
  refine wr_iconst rfl rfl ?_
  refine wr_iadd rfl rfl ?_
  refine wr_ialZ rfl rfl (by omega) (by omega) ?_
  rw [e1]
  refine wr_cv1 (k' := 200) (ci := 12) rfl rfl rfl rfl (by assumption) rfl rfl (rr_passed (k := xs X (i + 1)) R' V.1 x1) (fun r h2 q => ?_)
  obtain ⟨rfl, R'', f'⟩ := q
  refine wr_icmp_sm rfl rfl ?_
  exact N _ _ V (C'.by f') R'' (f'.1.trans l')
set_option maxRecDepth 8000 in
theorem lw_11 {d i : Nat} {z : PS} {h : am_H} {Q : Option Value → am_H → Prop} (hi : i + 4 ≤ X.1) (hX : X.1 ≤ 2048) (V : VX z) (C : CR h z) (R : RR h z) (l : h.length = 182) (N : ∀ (z' : PS) (h' : am_H), VX z' → CR h' z' → RR h' z' → h'.length = 182 → am_w X (d + 11) 208 (601, [am_X, .ref 0, .ref 164, .int (iI i)], [], h') Q) : am_w X (d + 11) 208 (398, [am_X, .ref 0, .ref 164, .int (iI i)], [], h) Q := by
  obtain ⟨f0, c0⟩ := C.c0
  obtain ⟨f1, c1⟩ := R.c0
  have e1 : ((i : Int) + 1).toNat = i + 1 := by omega
  have e2 : ((i : Int) + 2).toNat = i + 2 := by omega
  have e3 : ((i : Int) + 3).toNat = i + 3 := by omega
  have x1 := xs_in X (i + 1)
  have x2 := xs_in X (i + 2)
  have x3 := xs_in X (i + 3)
  refine wr_aload_n rfl rfl rfl ?_
  refine wr_aload_nX rfl rfl rfl ?_
  refine wr_iload_n rfl rfl rfl ?_
  refine wr_iconst rfl rfl ?_
  refine wr_iadd rfl rfl ?_
  refine wr_ialZ rfl rfl (by omega) (by omega) ?_
  rw [e1]
  refine wr_cv1 (k' := 119) (ci := 0) rfl rfl rfl rfl (by assumption) rfl rfl (cr_condition (k := xs X (i + 1)) C V.1 x1) (fun r h2 q => ?_)
  obtain ⟨rfl, rfl⟩ := q
  refine wr_aload_n rfl rfl rfl ?_
  refine wr_aload_nX rfl rfl rfl ?_
  refine wr_iload_n rfl rfl rfl ?_
  refine wr_iconst rfl rfl ?_
  refine wr_iadd rfl rfl ?_
  refine wr_ialZ rfl rfl (by omega) (by omega) ?_
  rw [e1]
  refine wr_cv1 (k' := 201) (ci := 12) rfl rfl rfl rfl (by assumption) rfl rfl (rr_condition (k := xs X (i + 1)) R V.1 x1) (fun r h2 q => ?_)
  obtain ⟨rfl, rfl⟩ := q
  refine wr_icmp_sm rfl rfl ?_
  exact N _ _ V C R l
set_option maxRecDepth 8000 in
theorem lw_12 {d i : Nat} {z : PS} {h : am_H} {Q : Option Value → am_H → Prop} (hi : i + 4 ≤ X.1) (hX : X.1 ≤ 2048) (V : VX z) (C : CR h z) (R : RR h z) (l : h.length = 182) (N : ∀ (z' : PS) (h' : am_H), VX z' → CR h' z' → RR h' z' → h'.length = 182 → am_w X (d + 11) 208 (601, [am_X, .ref 0, .ref 164, .int (iI i)], [], h') Q) : am_w X (d + 11) 208 (421, [am_X, .ref 0, .ref 164, .int (iI i)], [], h) Q := by
  obtain ⟨f0, c0⟩ := C.c0
  obtain ⟨f1, c1⟩ := R.c0
  have e1 : ((i : Int) + 1).toNat = i + 1 := by omega
  have e2 : ((i : Int) + 2).toNat = i + 2 := by omega
  have e3 : ((i : Int) + 3).toNat = i + 3 := by omega
  have x1 := xs_in X (i + 1)
  have x2 := xs_in X (i + 2)
  have x3 := xs_in X (i + 3)
  by_cases b : xs X (i + 1) = 0
  ·
    refine wr_aload_n rfl rfl rfl ?_
    refine wr_aload_nX rfl rfl rfl ?_
    refine wr_iload_n rfl rfl rfl ?_
    refine wr_iconst rfl rfl ?_
    refine wr_iadd rfl rfl ?_
    refine wr_ialZ rfl rfl (by omega) (by omega) ?_
    rw [e1]
    refine wr_if_eq rfl rfl rfl (by omega) (fun c427 => ?_) (fun c427 => by exfalso; omega)
    refine wr_iconst rfl rfl ?_
    refine wr_aload_nX rfl rfl rfl ?_
    refine wr_iload_n rfl rfl rfl ?_
    refine wr_iconst rfl rfl ?_
    refine wr_iadd rfl rfl ?_
    refine wr_ialZ rfl rfl (by omega) (by omega) ?_
    rw [e2]
    refine wr_cv2 (k' := 121) (ci := 0) rfl rfl rfl rfl (by assumption) rfl rfl (cr_area (x := 0) (part := xs X (i + 2)) C V.1 (Or.inl rfl) x2) (fun r h2 q => ?_)
    obtain ⟨rfl, C', f⟩ := q
    have R' := R.by f
    have l' := f.1.trans l
    obtain ⟨f1, c1⟩ := R'.c0
    refine wr_aload_n rfl rfl rfl ?_
    refine wr_aload_nX rfl rfl rfl ?_
    refine wr_iload_n rfl rfl rfl ?_
    refine wr_iconst rfl rfl ?_
    refine wr_iadd rfl rfl ?_
    refine wr_ialZ rfl rfl (by omega) (by omega) ?_
    rw [e1]
    refine wr_if_eq rfl rfl rfl (by omega) (fun c449 => ?_) (fun c449 => by exfalso; omega)
    refine wr_iconst rfl rfl ?_
    refine wr_aload_nX rfl rfl rfl ?_
    refine wr_iload_n rfl rfl rfl ?_
    refine wr_iconst rfl rfl ?_
    refine wr_iadd rfl rfl ?_
    refine wr_ialZ rfl rfl (by omega) (by omega) ?_
    rw [e2]
    refine wr_cv2 (k' := 202) (ci := 12) rfl rfl rfl rfl (by assumption) rfl rfl (rr_area (x := 0) (part := xs X (i + 2)) R' V.1 (Or.inl rfl) x2) (fun r h2 q => ?_)
    obtain ⟨rfl, rfl⟩ := q
    refine wr_l_sm rfl rfl rfl rfl ?_
    exact N _ _ V C' R' l'
  ·
    refine wr_aload_n rfl rfl rfl ?_
    refine wr_aload_nX rfl rfl rfl ?_
    refine wr_iload_n rfl rfl rfl ?_
    refine wr_iconst rfl rfl ?_
    refine wr_iadd rfl rfl ?_
    refine wr_ialZ rfl rfl (by omega) (by omega) ?_
    rw [e1]
    refine wr_if_eq rfl rfl rfl (by omega) (fun c427 => by exfalso; omega) (fun c427 => ?_)
    refine wr_iconst rfl rfl ?_
    refine wr_goto rfl rfl ?_
    refine wr_aload_nX rfl rfl rfl ?_
    refine wr_iload_n rfl rfl rfl ?_
    refine wr_iconst rfl rfl ?_
    refine wr_iadd rfl rfl ?_
    refine wr_ialZ rfl rfl (by omega) (by omega) ?_
    rw [e2]
    refine wr_cv2 (k' := 121) (ci := 0) rfl rfl rfl rfl (by assumption) rfl rfl (cr_area (x := 1) (part := xs X (i + 2)) C V.1 (Or.inr rfl) x2) (fun r h2 q => ?_)
    obtain ⟨rfl, C', f⟩ := q
    have R' := R.by f
    have l' := f.1.trans l
    obtain ⟨f1, c1⟩ := R'.c0
    refine wr_aload_n rfl rfl rfl ?_
    refine wr_aload_nX rfl rfl rfl ?_
    refine wr_iload_n rfl rfl rfl ?_
    refine wr_iconst rfl rfl ?_
    refine wr_iadd rfl rfl ?_
    refine wr_ialZ rfl rfl (by omega) (by omega) ?_
    rw [e1]
    refine wr_if_eq rfl rfl rfl (by omega) (fun c449 => by exfalso; omega) (fun c449 => ?_)
    refine wr_iconst rfl rfl ?_
    refine wr_goto rfl rfl ?_
    refine wr_aload_nX rfl rfl rfl ?_
    refine wr_iload_n rfl rfl rfl ?_
    refine wr_iconst rfl rfl ?_
    refine wr_iadd rfl rfl ?_
    refine wr_ialZ rfl rfl (by omega) (by omega) ?_
    rw [e2]
    refine wr_cv2 (k' := 202) (ci := 12) rfl rfl rfl rfl (by assumption) rfl rfl (rr_area (x := 1) (part := xs X (i + 2)) R' V.1 (Or.inr rfl) x2) (fun r h2 q => ?_)
    obtain ⟨rfl, rfl⟩ := q
    refine wr_l_sm rfl rfl rfl rfl ?_
    exact N _ _ V C' R' l'
set_option maxRecDepth 8000 in
theorem lw_13 {d i : Nat} {z : PS} {h : am_H} {Q : Option Value → am_H → Prop} (hi : i + 4 ≤ X.1) (hX : X.1 ≤ 2048) (V : VX z) (C : CR h z) (R : RR h z) (l : h.length = 182) (N : ∀ (z' : PS) (h' : am_H), VX z' → CR h' z' → RR h' z' → h'.length = 182 → am_w X (d + 11) 208 (601, [am_X, .ref 0, .ref 164, .int (iI i)], [], h') Q) : am_w X (d + 11) 208 (471, [am_X, .ref 0, .ref 164, .int (iI i)], [], h) Q := by
  obtain ⟨f0, c0⟩ := C.c0
  obtain ⟨f1, c1⟩ := R.c0
  have e1 : ((i : Int) + 1).toNat = i + 1 := by omega
  have e2 : ((i : Int) + 2).toNat = i + 2 := by omega
  have e3 : ((i : Int) + 3).toNat = i + 3 := by omega
  have x1 := xs_in X (i + 1)
  have x2 := xs_in X (i + 2)
  have x3 := xs_in X (i + 3)
  refine wr_aload_n rfl rfl rfl ?_
  refine wr_aload_nX rfl rfl rfl ?_
  refine wr_iload_n rfl rfl rfl ?_
  refine wr_iconst rfl rfl ?_
  refine wr_iadd rfl rfl ?_
  refine wr_ialZ rfl rfl (by omega) (by omega) ?_
  rw [e1]
  refine wr_aload_nX rfl rfl rfl ?_
  refine wr_iload_n rfl rfl rfl ?_
  refine wr_iconst rfl rfl ?_
  refine wr_iadd rfl rfl ?_
  refine wr_ialZ rfl rfl (by omega) (by omega) ?_
  rw [e2]
  refine wr_cv2 (k' := 134) (ci := 0) rfl rfl rfl rfl (by assumption) rfl rfl (cr_level (off := xs X (i + 1)) (part := xs X (i + 2)) C V.1 x1 x2) (fun r h2 q => ?_)
  obtain ⟨rfl, C', f⟩ := q
  have R' := R.by f
  have l' := f.1.trans l
  obtain ⟨f1, c1⟩ := R'.c0
  refine wr_aload_n rfl rfl rfl ?_
  refine wr_aload_nX rfl rfl rfl ?_
  refine wr_iload_n rfl rfl rfl ?_
  refine wr_iconst rfl rfl ?_
  refine wr_iadd rfl rfl ?_
  refine wr_ialZ rfl rfl (by omega) (by omega) ?_
  rw [e1]
  refine wr_aload_nX rfl rfl rfl ?_
  refine wr_iload_n rfl rfl rfl ?_
  refine wr_iconst rfl rfl ?_
  refine wr_iadd rfl rfl ?_
  refine wr_ialZ rfl rfl (by omega) (by omega) ?_
  rw [e2]
  refine wr_cv2 (k' := 203) (ci := 12) rfl rfl rfl rfl (by assumption) rfl rfl (rr_level (off := xs X (i + 1)) (part := xs X (i + 2)) R' V.1 V.2.1 x1 x2) (fun r h2 q => ?_)
  obtain ⟨rfl, R'', f'⟩ := q
  refine wr_l_sm rfl rfl rfl rfl ?_
  exact N _ _ V (C'.by f') R'' (f'.1.trans l')
set_option maxRecDepth 8000 in
theorem lw_14 {d i : Nat} {z : PS} {h : am_H} {Q : Option Value → am_H → Prop} (hi : i + 4 ≤ X.1) (hX : X.1 ≤ 2048) (V : VX z) (C : CR h z) (R : RR h z) (l : h.length = 182) (N : ∀ (z' : PS) (h' : am_H), VX z' → CR h' z' → RR h' z' → h'.length = 182 → am_w X (d + 11) 208 (601, [am_X, .ref 0, .ref 164, .int (iI i)], [], h') Q) : am_w X (d + 11) 208 (505, [am_X, .ref 0, .ref 164, .int (iI i)], [], h) Q := by
  have R0 := R
  obtain ⟨f0, c0⟩ := C.c0
  obtain ⟨f1, c1⟩ := R.c0
  have e1 : ((i : Int) + 1).toNat = i + 1 := by omega
  have e2 : ((i : Int) + 2).toNat = i + 2 := by omega
  have e3 : ((i : Int) + 3).toNat = i + 3 := by omega
  have x1 := xs_in X (i + 1)
  have x2 := xs_in X (i + 2)
  have x3 := xs_in X (i + 3)
  refine wr_aload_n rfl rfl rfl ?_
  refine wr_aload_nX rfl rfl rfl ?_
  refine wr_iload_n rfl rfl rfl ?_
  refine wr_iconst rfl rfl ?_
  refine wr_iadd rfl rfl ?_
  refine wr_ialZ rfl rfl (by omega) (by omega) ?_
  rw [e1]
  refine wr_cv1 (k' := 135) (ci := 0) rfl rfl rfl rfl (by assumption) rfl rfl (cr_keep (m := xs X (i + 1)) C V.1 x1) (fun r h2 q => ?_)
  rcases q with ⟨c, rfl, C', f⟩ | ⟨c, rfl, C', f⟩
  ·
    have R' := R.by f
    have l' := f.1.trans l
    obtain ⟨f1, c1⟩ := R'.c0
    refine wr_aload_n rfl rfl rfl ?_
    refine wr_aload_nX rfl rfl rfl ?_
    refine wr_iload_n rfl rfl rfl ?_
    refine wr_iconst rfl rfl ?_
    refine wr_iadd rfl rfl ?_
    refine wr_ialZ rfl rfl (by omega) (by omega) ?_
    rw [e1]
    refine wr_cv1 (k' := 204) (ci := 12) rfl rfl rfl rfl (by assumption) rfl rfl (rr_keep (m := xs X (i + 1)) R' V.1 x1) (fun r h2 q => ?_)
    rcases q with ⟨c', rfl, R', f'⟩ | ⟨c', rfl, R', f'⟩
    ·
      refine wr_icmp_sm rfl rfl ?_
      exact N _ _ (vx_keep V c (R0.area c.1).1 (R0.area c.1).2) (C'.by f') R' (f'.1.trans l')
    · exact absurd c c'
  ·
    have R' := R.by f
    have l' := f.1.trans l
    obtain ⟨f1, c1⟩ := R'.c0
    refine wr_aload_n rfl rfl rfl ?_
    refine wr_aload_nX rfl rfl rfl ?_
    refine wr_iload_n rfl rfl rfl ?_
    refine wr_iconst rfl rfl ?_
    refine wr_iadd rfl rfl ?_
    refine wr_ialZ rfl rfl (by omega) (by omega) ?_
    rw [e1]
    refine wr_cv1 (k' := 204) (ci := 12) rfl rfl rfl rfl (by assumption) rfl rfl (rr_keep (m := xs X (i + 1)) R' V.1 x1) (fun r h2 q => ?_)
    rcases q with ⟨c', rfl, R', f'⟩ | ⟨c', rfl, R', f'⟩
    · exact absurd c' c
    ·
      refine wr_icmp_sm rfl rfl ?_
      exact N _ _ V (C'.by f') R' (f'.1.trans l')
set_option maxRecDepth 8000 in
theorem lw_15 {d i : Nat} {z : PS} {h : am_H} {Q : Option Value → am_H → Prop} (hi : i + 4 ≤ X.1) (hX : X.1 ≤ 2048) (V : VX z) (C : CR h z) (R : RR h z) (l : h.length = 182) (N : ∀ (z' : PS) (h' : am_H), VX z' → CR h' z' → RR h' z' → h'.length = 182 → am_w X (d + 11) 208 (601, [am_X, .ref 0, .ref 164, .int (iI i)], [], h') Q) : am_w X (d + 11) 208 (528, [am_X, .ref 0, .ref 164, .int (iI i)], [], h) Q := by
  obtain ⟨f0, c0⟩ := C.c0
  obtain ⟨f1, c1⟩ := R.c0
  have e1 : ((i : Int) + 1).toNat = i + 1 := by omega
  have e2 : ((i : Int) + 2).toNat = i + 2 := by omega
  have e3 : ((i : Int) + 3).toNat = i + 3 := by omega
  have x1 := xs_in X (i + 1)
  have x2 := xs_in X (i + 2)
  have x3 := xs_in X (i + 3)
  by_cases b : xs X (i + 1) = 0
  ·
    refine wr_aload_n rfl rfl rfl ?_
    refine wr_aload_nX rfl rfl rfl ?_
    refine wr_iload_n rfl rfl rfl ?_
    refine wr_iconst rfl rfl ?_
    refine wr_iadd rfl rfl ?_
    refine wr_ialZ rfl rfl (by omega) (by omega) ?_
    rw [e1]
    refine wr_if_eq rfl rfl rfl (by omega) (fun c534 => ?_) (fun c534 => by exfalso; omega)
    refine wr_iconst rfl rfl ?_
    refine wr_aload_nX rfl rfl rfl ?_
    refine wr_iload_n rfl rfl rfl ?_
    refine wr_iconst rfl rfl ?_
    refine wr_iadd rfl rfl ?_
    refine wr_ialZ rfl rfl (by omega) (by omega) ?_
    rw [e2]
    refine wr_cv2 (k' := 137) (ci := 0) rfl rfl rfl rfl (by assumption) rfl rfl (cr_volume (x := 0) (part := xs X (i + 2)) C (Or.inl rfl) x2) (fun r h2 q => ?_)
    obtain ⟨rfl, rfl⟩ := q
    refine wr_aload_n rfl rfl rfl ?_
    refine wr_aload_nX rfl rfl rfl ?_
    refine wr_iload_n rfl rfl rfl ?_
    refine wr_iconst rfl rfl ?_
    refine wr_iadd rfl rfl ?_
    refine wr_ialZ rfl rfl (by omega) (by omega) ?_
    rw [e1]
    refine wr_if_eq rfl rfl rfl (by omega) (fun c556 => ?_) (fun c556 => by exfalso; omega)
    refine wr_iconst rfl rfl ?_
    refine wr_aload_nX rfl rfl rfl ?_
    refine wr_iload_n rfl rfl rfl ?_
    refine wr_iconst rfl rfl ?_
    refine wr_iadd rfl rfl ?_
    refine wr_ialZ rfl rfl (by omega) (by omega) ?_
    rw [e2]
    refine wr_cv2 (k' := 206) (ci := 12) rfl rfl rfl rfl (by assumption) rfl rfl (rr_volume (x := 0) (part := xs X (i + 2)) R V.1 (Or.inl rfl) x2) (fun r h2 q => ?_)
    obtain ⟨rfl, R'', f'⟩ := q
    refine wr_l_sm rfl rfl rfl rfl ?_
    exact N _ _ V (C.by f') R'' (f'.1.trans l)
  ·
    refine wr_aload_n rfl rfl rfl ?_
    refine wr_aload_nX rfl rfl rfl ?_
    refine wr_iload_n rfl rfl rfl ?_
    refine wr_iconst rfl rfl ?_
    refine wr_iadd rfl rfl ?_
    refine wr_ialZ rfl rfl (by omega) (by omega) ?_
    rw [e1]
    refine wr_if_eq rfl rfl rfl (by omega) (fun c534 => by exfalso; omega) (fun c534 => ?_)
    refine wr_iconst rfl rfl ?_
    refine wr_goto rfl rfl ?_
    refine wr_aload_nX rfl rfl rfl ?_
    refine wr_iload_n rfl rfl rfl ?_
    refine wr_iconst rfl rfl ?_
    refine wr_iadd rfl rfl ?_
    refine wr_ialZ rfl rfl (by omega) (by omega) ?_
    rw [e2]
    refine wr_cv2 (k' := 137) (ci := 0) rfl rfl rfl rfl (by assumption) rfl rfl (cr_volume (x := 1) (part := xs X (i + 2)) C (Or.inr rfl) x2) (fun r h2 q => ?_)
    obtain ⟨rfl, rfl⟩ := q
    refine wr_aload_n rfl rfl rfl ?_
    refine wr_aload_nX rfl rfl rfl ?_
    refine wr_iload_n rfl rfl rfl ?_
    refine wr_iconst rfl rfl ?_
    refine wr_iadd rfl rfl ?_
    refine wr_ialZ rfl rfl (by omega) (by omega) ?_
    rw [e1]
    refine wr_if_eq rfl rfl rfl (by omega) (fun c556 => by exfalso; omega) (fun c556 => ?_)
    refine wr_iconst rfl rfl ?_
    refine wr_goto rfl rfl ?_
    refine wr_aload_nX rfl rfl rfl ?_
    refine wr_iload_n rfl rfl rfl ?_
    refine wr_iconst rfl rfl ?_
    refine wr_iadd rfl rfl ?_
    refine wr_ialZ rfl rfl (by omega) (by omega) ?_
    rw [e2]
    refine wr_cv2 (k' := 206) (ci := 12) rfl rfl rfl rfl (by assumption) rfl rfl (rr_volume (x := 1) (part := xs X (i + 2)) R V.1 (Or.inr rfl) x2) (fun r h2 q => ?_)
    obtain ⟨rfl, R'', f'⟩ := q
    refine wr_l_sm rfl rfl rfl rfl ?_
    exact N _ _ V (C.by f') R'' (f'.1.trans l)
set_option maxRecDepth 8000 in
theorem lw_16 {d i : Nat} {z : PS} {h : am_H} {Q : Option Value → am_H → Prop} (hi : i + 4 ≤ X.1) (hX : X.1 ≤ 2048) (V : VX z) (C : CR h z) (R : RR h z) (l : h.length = 182) (N : ∀ (z' : PS) (h' : am_H), VX z' → CR h' z' → RR h' z' → h'.length = 182 → am_w X (d + 11) 208 (601, [am_X, .ref 0, .ref 164, .int (iI i)], [], h') Q) : am_w X (d + 11) 208 (578, [am_X, .ref 0, .ref 164, .int (iI i)], [], h) Q := by
  obtain ⟨f0, c0⟩ := C.c0
  obtain ⟨f1, c1⟩ := R.c0
  have e1 : ((i : Int) + 1).toNat = i + 1 := by omega
  have e2 : ((i : Int) + 2).toNat = i + 2 := by omega
  have e3 : ((i : Int) + 3).toNat = i + 3 := by omega
  have x1 := xs_in X (i + 1)
  have x2 := xs_in X (i + 2)
  have x3 := xs_in X (i + 3)
  refine wr_aload_n rfl rfl rfl ?_
  refine wr_aload_nX rfl rfl rfl ?_
  refine wr_iload_n rfl rfl rfl ?_
  refine wr_iconst rfl rfl ?_
  refine wr_iadd rfl rfl ?_
  refine wr_ialZ rfl rfl (by omega) (by omega) ?_
  rw [e1]
  refine wr_cv1 (k' := 138) (ci := 0) rfl rfl rfl rfl (by assumption) rfl rfl (cr_count (k := xs X (i + 1)) C V.1 x1) (fun r h2 q => ?_)
  obtain ⟨rfl, rfl⟩ := q
  refine wr_aload_n rfl rfl rfl ?_
  refine wr_aload_nX rfl rfl rfl ?_
  refine wr_iload_n rfl rfl rfl ?_
  refine wr_iconst rfl rfl ?_
  refine wr_iadd rfl rfl ?_
  refine wr_ialZ rfl rfl (by omega) (by omega) ?_
  rw [e1]
  refine wr_cv1 (k' := 207) (ci := 12) rfl rfl rfl rfl (by assumption) rfl rfl (rr_count (k := xs X (i + 1)) R V.1 x1) (fun r h2 q => ?_)
  obtain ⟨rfl, rfl⟩ := q
  refine wr_icmp_sm rfl rfl ?_
  exact N _ _ V C R l
end RUD
