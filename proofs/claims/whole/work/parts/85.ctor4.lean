section CT2
variable {X : Nat × (Nat → Int32)} {h h' : am_H} {a : Nat}
theorem cs_0_14 {d : Nat} {h0 h : am_H}  (l : h.length = 164) (c : h[0]? = some (.inr (0, [.ref (13), .ref (1), .ref (7), .ref (16), .ref (19), .int 0, .int 0, .int (iI 1000000), .int (iI 1000000), .ref (22), .ref (45), .ref (79), .ref (95), .ref (131), .ref (145), .int 0, .int 0, .ref (159)]))) (T : ∀ i, i < 0 → h[i]? = h0[i]?) (p0 : isT h 1 (Tm.mk Z0 Z0 Z0 Z0 Z0 0 0 0)) (p1 : isT h 7 (Tm.mk Z0 Z0 Z0 Z0 Z0 0 0 0)) (p2 : isR h 13 7 Z0 0 0 0 Z0 0) (p3 : isG h 16 0 Z0 Z0) (p4 : isG h 19 0 Z0 Z0) (p5 : arX h 22) (p6 : isSn h 45) (p7 : isWk h 79 45 19 22 46) (p8 : isAs h 95 45 19 22 46) (p9 : isEw h 131) (p10 : isEw h 145) (p11 : isF h 159 16 0) : am_w X (d + 5) 0 (178, [.ref 0], [], h) (fun r h' => r = none ∧ h'.length = 164 ∧ h'[0]? = some (.inr (0, [.ref 13, .ref 1, .ref 7, .ref 16, .ref 19, .int (iI 0), .int (iI 0), .int (iI 1000000), .int (iI 1000000), .ref 22, .ref 45, .ref 79, .ref 95, .ref 131, .ref 145, .int (iI 0), .int (iI 0), .ref 159])) ∧ isT h' 1 (Tm.mk Z0 Z0 Z0 Z0 Z0 0 0 0) ∧ isT h' 7 (Tm.mk Z0 Z0 Z0 Z0 Z0 0 0 0) ∧ isR h' 13 7 Z0 0 0 0 Z0 0 ∧ isG h' 16 0 Z0 Z0 ∧ isG h' 19 0 Z0 Z0 ∧ arX h' 22 ∧ isSn h' 45 ∧ isWk h' 79 45 19 22 46 ∧ isAs h' 95 45 19 22 46 ∧ isEw h' 131 ∧ isEw h' 145 ∧ isF h' 159 16 0) := by
  refine wr_vret rfl rfl ?_
  exact ⟨rfl, l, c, p0, p1, p2, p3, p4, p5, p6, p7, p8, p9, p10, p11⟩
theorem cs_0_13 {d : Nat} {h0 h : am_H}  (l : h.length = 159) (c : h[0]? = some (.inr (0, [.ref (13), .ref (1), .ref (7), .ref (16), .ref (19), .int 0, .int 0, .int (iI 1000000), .int (iI 1000000), .ref (22), .ref (45), .ref (79), .ref (95), .ref (131), .ref (145), .int 0, .int 0, .null]))) (T : ∀ i, i < 0 → h[i]? = h0[i]?) (p0 : isT h 1 (Tm.mk Z0 Z0 Z0 Z0 Z0 0 0 0)) (p1 : isT h 7 (Tm.mk Z0 Z0 Z0 Z0 Z0 0 0 0)) (p2 : isR h 13 7 Z0 0 0 0 Z0 0) (p3 : isG h 16 0 Z0 Z0) (p4 : isG h 19 0 Z0 Z0) (p5 : arX h 22) (p6 : isSn h 45) (p7 : isWk h 79 45 19 22 46) (p8 : isAs h 95 45 19 22 46) (p9 : isEw h 131) (p10 : isEw h 145) : am_w X (d + 5) 0 (165, [.ref 0], [], h) (fun r h' => r = none ∧ h'.length = 164 ∧ h'[0]? = some (.inr (0, [.ref 13, .ref 1, .ref 7, .ref 16, .ref 19, .int (iI 0), .int (iI 0), .int (iI 1000000), .int (iI 1000000), .ref 22, .ref 45, .ref 79, .ref 95, .ref 131, .ref 145, .int (iI 0), .int (iI 0), .ref 159])) ∧ isT h' 1 (Tm.mk Z0 Z0 Z0 Z0 Z0 0 0 0) ∧ isT h' 7 (Tm.mk Z0 Z0 Z0 Z0 Z0 0 0 0) ∧ isR h' 13 7 Z0 0 0 0 Z0 0 ∧ isG h' 16 0 Z0 Z0 ∧ isG h' 19 0 Z0 Z0 ∧ arX h' 22 ∧ isSn h' 45 ∧ isWk h' 79 45 19 22 46 ∧ isAs h' 95 45 19 22 46 ∧ isEw h' 131 ∧ isEw h' 145 ∧ isF h' 159 16 0) := by
  refine wr_aload_n rfl rfl rfl ?_
  refine wr_new rfl rfl rfl ?_
  rw [l]
  have cA : (h ++ [.inr (8, am_dfl 8)])[0]? = some _ := (ap_lt (by omega)).trans c
  refine wr_dup rfl rfl ?_
  refine wr_bipush rfl rfl (by decide) ?_
  refine wr_ci1 (k' := 9) rfl rfl rfl rfl rfl (ct_frac (cap := 16) (ap_la l) (ap_len l) (by decide)) (fun r hX q => ?_)
  obtain ⟨rfl, lX, x1, pX⟩ := q
  dsimp only [Option.toList, List.nil_append]
  have cX : hX[0]? = some _ := (x1 0 (by omega)).trans cA
  refine wr_putR (ci := 0) (f := 17) (fs' := [_, _, _, _, _, _, _, _, _, _, _, _, _, _, _, _, _, _]) rfl rfl rfl cX rfl rfl rfl (fun h1 e1 => ?_)
  have c1 : h1[0]? = some _ := (by rw [e1]; exact am_set_s cX)
  have l1 : h1.length = 164 := by rw [e1]; exact set_len (by rw [lX])
  have m : ∀ i, i ≠ 0 → i < 159 → h1[i]? = h[i]? := fun i i1 i2 => by rw [e1, am_set_n (Ne.symm i1)]; exact (x1 i (by omega)).trans (ap_lt (by omega))
  have pN : isF h1 159 16 0 := pX.same (lo := 159) (hi := 163) (fun i i1 i2 => by rw [e1, am_set_n (by omega)]) (by omega)
  exact cs_0_14 l1 c1 (fun i hi => (m i (by omega) (by omega)).trans (T i hi)) (p0.same (lo := 1) (up := 6) (fun i i1 i2 => m i (by omega) (by omega)) (by omega)) (p1.same (lo := 7) (up := 12) (fun i i1 i2 => m i (by omega) (by omega)) (by omega)) (p2.same (lo := 13) (up := 15) (fun i i1 i2 => m i (by omega) (by omega)) (by omega)) (p3.same (lo := 16) (hi := 18) (fun i i1 i2 => m i (by omega) (by omega)) (by omega)) (p4.same (lo := 19) (hi := 21) (fun i i1 i2 => m i (by omega) (by omega)) (by omega)) (p5.same (lo := 22) (hi := 44) (fun i i1 i2 => m i (by omega) (by omega)) (by omega)) (p6.same (lo := 45) (up := 78) (fun i i1 i2 => m i (by omega) (by omega)) (by omega)) (p7.same (lo := 79) (up := 94) (fun i i1 i2 => m i (by omega) (by omega)) (by omega)) (p8.same (lo := 95) (up := 130) (fun i i1 i2 => m i (by omega) (by omega)) (by omega)) (p9.same (lo := 131) (up := 144) (fun i i1 i2 => m i (by omega) (by omega)) (by omega)) (p10.same (lo := 145) (up := 158) (fun i i1 i2 => m i (by omega) (by omega)) (by omega)) pN
theorem cs_0_12 {d : Nat} {h0 h : am_H}  (l : h.length = 145) (c : h[0]? = some (.inr (0, [.ref (13), .ref (1), .ref (7), .ref (16), .ref (19), .int 0, .int 0, .int (iI 1000000), .int (iI 1000000), .ref (22), .ref (45), .ref (79), .ref (95), .ref (131), .null, .int 0, .int 0, .null]))) (T : ∀ i, i < 0 → h[i]? = h0[i]?) (p0 : isT h 1 (Tm.mk Z0 Z0 Z0 Z0 Z0 0 0 0)) (p1 : isT h 7 (Tm.mk Z0 Z0 Z0 Z0 Z0 0 0 0)) (p2 : isR h 13 7 Z0 0 0 0 Z0 0) (p3 : isG h 16 0 Z0 Z0) (p4 : isG h 19 0 Z0 Z0) (p5 : arX h 22) (p6 : isSn h 45) (p7 : isWk h 79 45 19 22 46) (p8 : isAs h 95 45 19 22 46) (p9 : isEw h 131) : am_w X (d + 5) 0 (154, [.ref 0], [], h) (fun r h' => r = none ∧ h'.length = 164 ∧ h'[0]? = some (.inr (0, [.ref 13, .ref 1, .ref 7, .ref 16, .ref 19, .int (iI 0), .int (iI 0), .int (iI 1000000), .int (iI 1000000), .ref 22, .ref 45, .ref 79, .ref 95, .ref 131, .ref 145, .int (iI 0), .int (iI 0), .ref 159])) ∧ isT h' 1 (Tm.mk Z0 Z0 Z0 Z0 Z0 0 0 0) ∧ isT h' 7 (Tm.mk Z0 Z0 Z0 Z0 Z0 0 0 0) ∧ isR h' 13 7 Z0 0 0 0 Z0 0 ∧ isG h' 16 0 Z0 Z0 ∧ isG h' 19 0 Z0 Z0 ∧ arX h' 22 ∧ isSn h' 45 ∧ isWk h' 79 45 19 22 46 ∧ isAs h' 95 45 19 22 46 ∧ isEw h' 131 ∧ isEw h' 145 ∧ isF h' 159 16 0) := by
  refine wr_aload_n rfl rfl rfl ?_
  refine wr_new rfl rfl rfl ?_
  rw [l]
  have cA : (h ++ [.inr (11, am_dfl 11)])[0]? = some _ := (ap_lt (by omega)).trans c
  refine wr_dup rfl rfl ?_
  refine wr_ci0 (k' := 13) rfl rfl rfl rfl rfl (ct_earth (ap_la l) (ap_len l)) (fun r hX q => ?_)
  obtain ⟨rfl, lX, x1, pX⟩ := q
  dsimp only [Option.toList, List.nil_append]
  have cX : hX[0]? = some _ := (x1 0 (by omega)).trans cA
  refine wr_putR (ci := 0) (f := 14) (fs' := [_, _, _, _, _, _, _, _, _, _, _, _, _, _, _, _, _, _]) rfl rfl rfl cX rfl rfl rfl (fun h1 e1 => ?_)
  have c1 : h1[0]? = some _ := (by rw [e1]; exact am_set_s cX)
  have l1 : h1.length = 159 := by rw [e1]; exact set_len (by rw [lX])
  have m : ∀ i, i ≠ 0 → i < 145 → h1[i]? = h[i]? := fun i i1 i2 => by rw [e1, am_set_n (Ne.symm i1)]; exact (x1 i (by omega)).trans (ap_lt (by omega))
  have pN : isEw h1 145 := pX.same (lo := 145) (up := 158) (fun i i1 i2 => by rw [e1, am_set_n (by omega)]) (by omega)
  exact cs_0_13 l1 c1 (fun i hi => (m i (by omega) (by omega)).trans (T i hi)) (p0.same (lo := 1) (up := 6) (fun i i1 i2 => m i (by omega) (by omega)) (by omega)) (p1.same (lo := 7) (up := 12) (fun i i1 i2 => m i (by omega) (by omega)) (by omega)) (p2.same (lo := 13) (up := 15) (fun i i1 i2 => m i (by omega) (by omega)) (by omega)) (p3.same (lo := 16) (hi := 18) (fun i i1 i2 => m i (by omega) (by omega)) (by omega)) (p4.same (lo := 19) (hi := 21) (fun i i1 i2 => m i (by omega) (by omega)) (by omega)) (p5.same (lo := 22) (hi := 44) (fun i i1 i2 => m i (by omega) (by omega)) (by omega)) (p6.same (lo := 45) (up := 78) (fun i i1 i2 => m i (by omega) (by omega)) (by omega)) (p7.same (lo := 79) (up := 94) (fun i i1 i2 => m i (by omega) (by omega)) (by omega)) (p8.same (lo := 95) (up := 130) (fun i i1 i2 => m i (by omega) (by omega)) (by omega)) (p9.same (lo := 131) (up := 144) (fun i i1 i2 => m i (by omega) (by omega)) (by omega)) pN
theorem cs_0_11 {d : Nat} {h0 h : am_H}  (l : h.length = 131) (c : h[0]? = some (.inr (0, [.ref (13), .ref (1), .ref (7), .ref (16), .ref (19), .int 0, .int 0, .int (iI 1000000), .int (iI 1000000), .ref (22), .ref (45), .ref (79), .ref (95), .null, .null, .int 0, .int 0, .null]))) (T : ∀ i, i < 0 → h[i]? = h0[i]?) (p0 : isT h 1 (Tm.mk Z0 Z0 Z0 Z0 Z0 0 0 0)) (p1 : isT h 7 (Tm.mk Z0 Z0 Z0 Z0 Z0 0 0 0)) (p2 : isR h 13 7 Z0 0 0 0 Z0 0) (p3 : isG h 16 0 Z0 Z0) (p4 : isG h 19 0 Z0 Z0) (p5 : arX h 22) (p6 : isSn h 45) (p7 : isWk h 79 45 19 22 46) (p8 : isAs h 95 45 19 22 46) : am_w X (d + 5) 0 (143, [.ref 0], [], h) (fun r h' => r = none ∧ h'.length = 164 ∧ h'[0]? = some (.inr (0, [.ref 13, .ref 1, .ref 7, .ref 16, .ref 19, .int (iI 0), .int (iI 0), .int (iI 1000000), .int (iI 1000000), .ref 22, .ref 45, .ref 79, .ref 95, .ref 131, .ref 145, .int (iI 0), .int (iI 0), .ref 159])) ∧ isT h' 1 (Tm.mk Z0 Z0 Z0 Z0 Z0 0 0 0) ∧ isT h' 7 (Tm.mk Z0 Z0 Z0 Z0 Z0 0 0 0) ∧ isR h' 13 7 Z0 0 0 0 Z0 0 ∧ isG h' 16 0 Z0 Z0 ∧ isG h' 19 0 Z0 Z0 ∧ arX h' 22 ∧ isSn h' 45 ∧ isWk h' 79 45 19 22 46 ∧ isAs h' 95 45 19 22 46 ∧ isEw h' 131 ∧ isEw h' 145 ∧ isF h' 159 16 0) := by
  refine wr_aload_n rfl rfl rfl ?_
  refine wr_new rfl rfl rfl ?_
  rw [l]
  have cA : (h ++ [.inr (11, am_dfl 11)])[0]? = some _ := (ap_lt (by omega)).trans c
  refine wr_dup rfl rfl ?_
  refine wr_ci0 (k' := 13) rfl rfl rfl rfl rfl (ct_earth (ap_la l) (ap_len l)) (fun r hX q => ?_)
  obtain ⟨rfl, lX, x1, pX⟩ := q
  dsimp only [Option.toList, List.nil_append]
  have cX : hX[0]? = some _ := (x1 0 (by omega)).trans cA
  refine wr_putR (ci := 0) (f := 13) (fs' := [_, _, _, _, _, _, _, _, _, _, _, _, _, _, _, _, _, _]) rfl rfl rfl cX rfl rfl rfl (fun h1 e1 => ?_)
  have c1 : h1[0]? = some _ := (by rw [e1]; exact am_set_s cX)
  have l1 : h1.length = 145 := by rw [e1]; exact set_len (by rw [lX])
  have m : ∀ i, i ≠ 0 → i < 131 → h1[i]? = h[i]? := fun i i1 i2 => by rw [e1, am_set_n (Ne.symm i1)]; exact (x1 i (by omega)).trans (ap_lt (by omega))
  have pN : isEw h1 131 := pX.same (lo := 131) (up := 144) (fun i i1 i2 => by rw [e1, am_set_n (by omega)]) (by omega)
  exact cs_0_12 l1 c1 (fun i hi => (m i (by omega) (by omega)).trans (T i hi)) (p0.same (lo := 1) (up := 6) (fun i i1 i2 => m i (by omega) (by omega)) (by omega)) (p1.same (lo := 7) (up := 12) (fun i i1 i2 => m i (by omega) (by omega)) (by omega)) (p2.same (lo := 13) (up := 15) (fun i i1 i2 => m i (by omega) (by omega)) (by omega)) (p3.same (lo := 16) (hi := 18) (fun i i1 i2 => m i (by omega) (by omega)) (by omega)) (p4.same (lo := 19) (hi := 21) (fun i i1 i2 => m i (by omega) (by omega)) (by omega)) (p5.same (lo := 22) (hi := 44) (fun i i1 i2 => m i (by omega) (by omega)) (by omega)) (p6.same (lo := 45) (up := 78) (fun i i1 i2 => m i (by omega) (by omega)) (by omega)) (p7.same (lo := 79) (up := 94) (fun i i1 i2 => m i (by omega) (by omega)) (by omega)) (p8.same (lo := 95) (up := 130) (fun i i1 i2 => m i (by omega) (by omega)) (by omega)) pN
theorem cs_0_10 {d : Nat} {h0 h : am_H}  (l : h.length = 95) (c : h[0]? = some (.inr (0, [.ref (13), .ref (1), .ref (7), .ref (16), .ref (19), .int 0, .int 0, .int (iI 1000000), .int (iI 1000000), .ref (22), .ref (45), .ref (79), .null, .null, .null, .int 0, .int 0, .null]))) (T : ∀ i, i < 0 → h[i]? = h0[i]?) (p0 : isT h 1 (Tm.mk Z0 Z0 Z0 Z0 Z0 0 0 0)) (p1 : isT h 7 (Tm.mk Z0 Z0 Z0 Z0 Z0 0 0 0)) (p2 : isR h 13 7 Z0 0 0 0 Z0 0) (p3 : isG h 16 0 Z0 Z0) (p4 : isG h 19 0 Z0 Z0) (p5 : arX h 22) (p6 : isSn h 45) (p7 : isWk h 79 45 19 22 46) : am_w X (d + 5) 0 (120, [.ref 0], [], h) (fun r h' => r = none ∧ h'.length = 164 ∧ h'[0]? = some (.inr (0, [.ref 13, .ref 1, .ref 7, .ref 16, .ref 19, .int (iI 0), .int (iI 0), .int (iI 1000000), .int (iI 1000000), .ref 22, .ref 45, .ref 79, .ref 95, .ref 131, .ref 145, .int (iI 0), .int (iI 0), .ref 159])) ∧ isT h' 1 (Tm.mk Z0 Z0 Z0 Z0 Z0 0 0 0) ∧ isT h' 7 (Tm.mk Z0 Z0 Z0 Z0 Z0 0 0 0) ∧ isR h' 13 7 Z0 0 0 0 Z0 0 ∧ isG h' 16 0 Z0 Z0 ∧ isG h' 19 0 Z0 Z0 ∧ arX h' 22 ∧ isSn h' 45 ∧ isWk h' 79 45 19 22 46 ∧ isAs h' 95 45 19 22 46 ∧ isEw h' 131 ∧ isEw h' 145 ∧ isF h' 159 16 0) := by
  refine wr_aload_n rfl rfl rfl ?_
  refine wr_new rfl rfl rfl ?_
  rw [l]
  have cA : (h ++ [.inr (10, am_dfl 10)])[0]? = some _ := (ap_lt (by omega)).trans c
  refine wr_dup rfl rfl ?_
  refine wr_aload_n rfl rfl rfl ?_
  refine wr_get (ci := 0) (f := 10) rfl rfl rfl (by assumption) rfl ?_
  refine wr_aload_n rfl rfl rfl ?_
  refine wr_get (ci := 0) (f := 4) rfl rfl rfl (by assumption) rfl ?_
  refine wr_aload_n rfl rfl rfl ?_
  refine wr_get (ci := 0) (f := 9) rfl rfl rfl (by assumption) rfl ?_
  refine wr_ci3 (k' := 12) rfl rfl rfl rfl rfl (ct_areas (s := 45) (g := 19) (r0 := 22) (sd := 46) (ap_la l) (ap_len l) ((ap_lt (by omega)).trans p6.1.1) rfl (by omega)) (fun r hX q => ?_)
  obtain ⟨rfl, lX, x1, pX⟩ := q
  dsimp only [Option.toList, List.nil_append]
  have cX : hX[0]? = some _ := (x1 0 (by omega)).trans cA
  refine wr_putR (ci := 0) (f := 12) (fs' := [_, _, _, _, _, _, _, _, _, _, _, _, _, _, _, _, _, _]) rfl rfl rfl cX rfl rfl rfl (fun h1 e1 => ?_)
  have c1 : h1[0]? = some _ := (by rw [e1]; exact am_set_s cX)
  have l1 : h1.length = 131 := by rw [e1]; exact set_len (by rw [lX])
  have m : ∀ i, i ≠ 0 → i < 95 → h1[i]? = h[i]? := fun i i1 i2 => by rw [e1, am_set_n (Ne.symm i1)]; exact (x1 i (by omega)).trans (ap_lt (by omega))
  have pN : isAs h1 95 45 19 22 46 := pX.same (lo := 95) (up := 130) (fun i i1 i2 => by rw [e1, am_set_n (by omega)]) (by omega)
  exact cs_0_11 l1 c1 (fun i hi => (m i (by omega) (by omega)).trans (T i hi)) (p0.same (lo := 1) (up := 6) (fun i i1 i2 => m i (by omega) (by omega)) (by omega)) (p1.same (lo := 7) (up := 12) (fun i i1 i2 => m i (by omega) (by omega)) (by omega)) (p2.same (lo := 13) (up := 15) (fun i i1 i2 => m i (by omega) (by omega)) (by omega)) (p3.same (lo := 16) (hi := 18) (fun i i1 i2 => m i (by omega) (by omega)) (by omega)) (p4.same (lo := 19) (hi := 21) (fun i i1 i2 => m i (by omega) (by omega)) (by omega)) (p5.same (lo := 22) (hi := 44) (fun i i1 i2 => m i (by omega) (by omega)) (by omega)) (p6.same (lo := 45) (up := 78) (fun i i1 i2 => m i (by omega) (by omega)) (by omega)) (p7.same (lo := 79) (up := 94) (fun i i1 i2 => m i (by omega) (by omega)) (by omega)) pN
theorem cs_0_9 {d : Nat} {h0 h : am_H}  (l : h.length = 79) (c : h[0]? = some (.inr (0, [.ref (13), .ref (1), .ref (7), .ref (16), .ref (19), .int 0, .int 0, .int (iI 1000000), .int (iI 1000000), .ref (22), .ref (45), .null, .null, .null, .null, .int 0, .int 0, .null]))) (T : ∀ i, i < 0 → h[i]? = h0[i]?) (p0 : isT h 1 (Tm.mk Z0 Z0 Z0 Z0 Z0 0 0 0)) (p1 : isT h 7 (Tm.mk Z0 Z0 Z0 Z0 Z0 0 0 0)) (p2 : isR h 13 7 Z0 0 0 0 Z0 0) (p3 : isG h 16 0 Z0 Z0) (p4 : isG h 19 0 Z0 Z0) (p5 : arX h 22) (p6 : isSn h 45) : am_w X (d + 5) 0 (97, [.ref 0], [], h) (fun r h' => r = none ∧ h'.length = 164 ∧ h'[0]? = some (.inr (0, [.ref 13, .ref 1, .ref 7, .ref 16, .ref 19, .int (iI 0), .int (iI 0), .int (iI 1000000), .int (iI 1000000), .ref 22, .ref 45, .ref 79, .ref 95, .ref 131, .ref 145, .int (iI 0), .int (iI 0), .ref 159])) ∧ isT h' 1 (Tm.mk Z0 Z0 Z0 Z0 Z0 0 0 0) ∧ isT h' 7 (Tm.mk Z0 Z0 Z0 Z0 Z0 0 0 0) ∧ isR h' 13 7 Z0 0 0 0 Z0 0 ∧ isG h' 16 0 Z0 Z0 ∧ isG h' 19 0 Z0 Z0 ∧ arX h' 22 ∧ isSn h' 45 ∧ isWk h' 79 45 19 22 46 ∧ isAs h' 95 45 19 22 46 ∧ isEw h' 131 ∧ isEw h' 145 ∧ isF h' 159 16 0) := by
  refine wr_aload_n rfl rfl rfl ?_
  refine wr_new rfl rfl rfl ?_
  rw [l]
  have cA : (h ++ [.inr (9, am_dfl 9)])[0]? = some _ := (ap_lt (by omega)).trans c
  refine wr_dup rfl rfl ?_
  refine wr_aload_n rfl rfl rfl ?_
  refine wr_get (ci := 0) (f := 10) rfl rfl rfl (by assumption) rfl ?_
  refine wr_aload_n rfl rfl rfl ?_
  refine wr_get (ci := 0) (f := 4) rfl rfl rfl (by assumption) rfl ?_
  refine wr_aload_n rfl rfl rfl ?_
  refine wr_get (ci := 0) (f := 9) rfl rfl rfl (by assumption) rfl ?_
  refine wr_ci3 (k' := 11) rfl rfl rfl rfl rfl (ct_walk (s := 45) (g := 19) (r0 := 22) (sd := 46) (ap_la l) (ap_len l) ((ap_lt (by omega)).trans p6.1.1) rfl (by omega)) (fun r hX q => ?_)
  obtain ⟨rfl, lX, x1, pX⟩ := q
  dsimp only [Option.toList, List.nil_append]
  have cX : hX[0]? = some _ := (x1 0 (by omega)).trans cA
  refine wr_putR (ci := 0) (f := 11) (fs' := [_, _, _, _, _, _, _, _, _, _, _, _, _, _, _, _, _, _]) rfl rfl rfl cX rfl rfl rfl (fun h1 e1 => ?_)
  have c1 : h1[0]? = some _ := (by rw [e1]; exact am_set_s cX)
  have l1 : h1.length = 95 := by rw [e1]; exact set_len (by rw [lX])
  have m : ∀ i, i ≠ 0 → i < 79 → h1[i]? = h[i]? := fun i i1 i2 => by rw [e1, am_set_n (Ne.symm i1)]; exact (x1 i (by omega)).trans (ap_lt (by omega))
  have pN : isWk h1 79 45 19 22 46 := pX.same (lo := 79) (up := 94) (fun i i1 i2 => by rw [e1, am_set_n (by omega)]) (by omega)
  exact cs_0_10 l1 c1 (fun i hi => (m i (by omega) (by omega)).trans (T i hi)) (p0.same (lo := 1) (up := 6) (fun i i1 i2 => m i (by omega) (by omega)) (by omega)) (p1.same (lo := 7) (up := 12) (fun i i1 i2 => m i (by omega) (by omega)) (by omega)) (p2.same (lo := 13) (up := 15) (fun i i1 i2 => m i (by omega) (by omega)) (by omega)) (p3.same (lo := 16) (hi := 18) (fun i i1 i2 => m i (by omega) (by omega)) (by omega)) (p4.same (lo := 19) (hi := 21) (fun i i1 i2 => m i (by omega) (by omega)) (by omega)) (p5.same (lo := 22) (hi := 44) (fun i i1 i2 => m i (by omega) (by omega)) (by omega)) (p6.same (lo := 45) (up := 78) (fun i i1 i2 => m i (by omega) (by omega)) (by omega)) pN
theorem cs_0_8 {d : Nat} {h0 h : am_H}  (l : h.length = 45) (c : h[0]? = some (.inr (0, [.ref (13), .ref (1), .ref (7), .ref (16), .ref (19), .int 0, .int 0, .int (iI 1000000), .int (iI 1000000), .ref (22), .null, .null, .null, .null, .null, .int 0, .int 0, .null]))) (T : ∀ i, i < 0 → h[i]? = h0[i]?) (p0 : isT h 1 (Tm.mk Z0 Z0 Z0 Z0 Z0 0 0 0)) (p1 : isT h 7 (Tm.mk Z0 Z0 Z0 Z0 Z0 0 0 0)) (p2 : isR h 13 7 Z0 0 0 0 Z0 0) (p3 : isG h 16 0 Z0 Z0) (p4 : isG h 19 0 Z0 Z0) (p5 : arX h 22) : am_w X (d + 5) 0 (86, [.ref 0], [], h) (fun r h' => r = none ∧ h'.length = 164 ∧ h'[0]? = some (.inr (0, [.ref 13, .ref 1, .ref 7, .ref 16, .ref 19, .int (iI 0), .int (iI 0), .int (iI 1000000), .int (iI 1000000), .ref 22, .ref 45, .ref 79, .ref 95, .ref 131, .ref 145, .int (iI 0), .int (iI 0), .ref 159])) ∧ isT h' 1 (Tm.mk Z0 Z0 Z0 Z0 Z0 0 0 0) ∧ isT h' 7 (Tm.mk Z0 Z0 Z0 Z0 Z0 0 0 0) ∧ isR h' 13 7 Z0 0 0 0 Z0 0 ∧ isG h' 16 0 Z0 Z0 ∧ isG h' 19 0 Z0 Z0 ∧ arX h' 22 ∧ isSn h' 45 ∧ isWk h' 79 45 19 22 46 ∧ isAs h' 95 45 19 22 46 ∧ isEw h' 131 ∧ isEw h' 145 ∧ isF h' 159 16 0) := by
  refine wr_aload_n rfl rfl rfl ?_
  refine wr_new rfl rfl rfl ?_
  rw [l]
  have cA : (h ++ [.inr (6, am_dfl 6)])[0]? = some _ := (ap_lt (by omega)).trans c
  refine wr_dup rfl rfl ?_
  refine wr_ci0 (k' := 7) rfl rfl rfl rfl rfl (ct_sect (ap_la l) (ap_len l)) (fun r hX q => ?_)
  obtain ⟨rfl, lX, x1, pX⟩ := q
  dsimp only [Option.toList, List.nil_append]
  have cX : hX[0]? = some _ := (x1 0 (by omega)).trans cA
  refine wr_putR (ci := 0) (f := 10) (fs' := [_, _, _, _, _, _, _, _, _, _, _, _, _, _, _, _, _, _]) rfl rfl rfl cX rfl rfl rfl (fun h1 e1 => ?_)
  have c1 : h1[0]? = some _ := (by rw [e1]; exact am_set_s cX)
  have l1 : h1.length = 79 := by rw [e1]; exact set_len (by rw [lX])
  have m : ∀ i, i ≠ 0 → i < 45 → h1[i]? = h[i]? := fun i i1 i2 => by rw [e1, am_set_n (Ne.symm i1)]; exact (x1 i (by omega)).trans (ap_lt (by omega))
  have pN : isSn h1 45 := pX.same (lo := 45) (up := 78) (fun i i1 i2 => by rw [e1, am_set_n (by omega)]) (by omega)
  exact cs_0_9 l1 c1 (fun i hi => (m i (by omega) (by omega)).trans (T i hi)) (p0.same (lo := 1) (up := 6) (fun i i1 i2 => m i (by omega) (by omega)) (by omega)) (p1.same (lo := 7) (up := 12) (fun i i1 i2 => m i (by omega) (by omega)) (by omega)) (p2.same (lo := 13) (up := 15) (fun i i1 i2 => m i (by omega) (by omega)) (by omega)) (p3.same (lo := 16) (hi := 18) (fun i i1 i2 => m i (by omega) (by omega)) (by omega)) (p4.same (lo := 19) (hi := 21) (fun i i1 i2 => m i (by omega) (by omega)) (by omega)) (p5.same (lo := 22) (hi := 44) (fun i i1 i2 => m i (by omega) (by omega)) (by omega)) pN
theorem cs_0_7 {d : Nat} {h0 h : am_H}  (l : h.length = 22) (c : h[0]? = some (.inr (0, [.ref (13), .ref (1), .ref (7), .ref (16), .ref (19), .int 0, .int 0, .int (iI 1000000), .int (iI 1000000), .null, .null, .null, .null, .null, .null, .int 0, .int 0, .null]))) (T : ∀ i, i < 0 → h[i]? = h0[i]?) (p0 : isT h 1 (Tm.mk Z0 Z0 Z0 Z0 Z0 0 0 0)) (p1 : isT h 7 (Tm.mk Z0 Z0 Z0 Z0 Z0 0 0 0)) (p2 : isR h 13 7 Z0 0 0 0 Z0 0) (p3 : isG h 16 0 Z0 Z0) (p4 : isG h 19 0 Z0 Z0) : am_w X (d + 5) 0 (75, [.ref 0], [], h) (fun r h' => r = none ∧ h'.length = 164 ∧ h'[0]? = some (.inr (0, [.ref 13, .ref 1, .ref 7, .ref 16, .ref 19, .int (iI 0), .int (iI 0), .int (iI 1000000), .int (iI 1000000), .ref 22, .ref 45, .ref 79, .ref 95, .ref 131, .ref 145, .int (iI 0), .int (iI 0), .ref 159])) ∧ isT h' 1 (Tm.mk Z0 Z0 Z0 Z0 Z0 0 0 0) ∧ isT h' 7 (Tm.mk Z0 Z0 Z0 Z0 Z0 0 0 0) ∧ isR h' 13 7 Z0 0 0 0 Z0 0 ∧ isG h' 16 0 Z0 Z0 ∧ isG h' 19 0 Z0 Z0 ∧ arX h' 22 ∧ isSn h' 45 ∧ isWk h' 79 45 19 22 46 ∧ isAs h' 95 45 19 22 46 ∧ isEw h' 131 ∧ isEw h' 145 ∧ isF h' 159 16 0) := by
  refine wr_aload_n rfl rfl rfl ?_
  refine wr_new rfl rfl rfl ?_
  rw [l]
  have cA : (h ++ [.inr (4, am_dfl 4)])[0]? = some _ := (ap_lt (by omega)).trans c
  refine wr_dup rfl rfl ?_
  refine wr_ci0 (k' := 4) rfl rfl rfl rfl rfl (ct_arith (ap_la l) (ap_len l)) (fun r hX q => ?_)
  obtain ⟨rfl, lX, x1, pX⟩ := q
  dsimp only [Option.toList, List.nil_append]
  have cX : hX[0]? = some _ := (x1 0 (by omega)).trans cA
  refine wr_putR (ci := 0) (f := 9) (fs' := [_, _, _, _, _, _, _, _, _, _, _, _, _, _, _, _, _, _]) rfl rfl rfl cX rfl rfl rfl (fun h1 e1 => ?_)
  have c1 : h1[0]? = some _ := (by rw [e1]; exact am_set_s cX)
  have l1 : h1.length = 45 := by rw [e1]; exact set_len (by rw [lX])
  have m : ∀ i, i ≠ 0 → i < 22 → h1[i]? = h[i]? := fun i i1 i2 => by rw [e1, am_set_n (Ne.symm i1)]; exact (x1 i (by omega)).trans (ap_lt (by omega))
  have pN : arX h1 22 := pX.same (lo := 22) (hi := 44) (fun i i1 i2 => by rw [e1, am_set_n (by omega)]) (by omega)
  exact cs_0_8 l1 c1 (fun i hi => (m i (by omega) (by omega)).trans (T i hi)) (p0.same (lo := 1) (up := 6) (fun i i1 i2 => m i (by omega) (by omega)) (by omega)) (p1.same (lo := 7) (up := 12) (fun i i1 i2 => m i (by omega) (by omega)) (by omega)) (p2.same (lo := 13) (up := 15) (fun i i1 i2 => m i (by omega) (by omega)) (by omega)) (p3.same (lo := 16) (hi := 18) (fun i i1 i2 => m i (by omega) (by omega)) (by omega)) (p4.same (lo := 19) (hi := 21) (fun i i1 i2 => m i (by omega) (by omega)) (by omega)) pN
theorem cs_0_6 {d : Nat} {h0 h : am_H}  (l : h.length = 22) (c : h[0]? = some (.inr (0, [.ref (13), .ref (1), .ref (7), .ref (16), .ref (19), .int 0, .int 0, .int (iI 1000000), .int 0, .null, .null, .null, .null, .null, .null, .int 0, .int 0, .null]))) (T : ∀ i, i < 0 → h[i]? = h0[i]?) (p0 : isT h 1 (Tm.mk Z0 Z0 Z0 Z0 Z0 0 0 0)) (p1 : isT h 7 (Tm.mk Z0 Z0 Z0 Z0 Z0 0 0 0)) (p2 : isR h 13 7 Z0 0 0 0 Z0 0) (p3 : isG h 16 0 Z0 Z0) (p4 : isG h 19 0 Z0 Z0) : am_w X (d + 5) 0 (69, [.ref 0], [], h) (fun r h' => r = none ∧ h'.length = 164 ∧ h'[0]? = some (.inr (0, [.ref 13, .ref 1, .ref 7, .ref 16, .ref 19, .int (iI 0), .int (iI 0), .int (iI 1000000), .int (iI 1000000), .ref 22, .ref 45, .ref 79, .ref 95, .ref 131, .ref 145, .int (iI 0), .int (iI 0), .ref 159])) ∧ isT h' 1 (Tm.mk Z0 Z0 Z0 Z0 Z0 0 0 0) ∧ isT h' 7 (Tm.mk Z0 Z0 Z0 Z0 Z0 0 0 0) ∧ isR h' 13 7 Z0 0 0 0 Z0 0 ∧ isG h' 16 0 Z0 Z0 ∧ isG h' 19 0 Z0 Z0 ∧ arX h' 22 ∧ isSn h' 45 ∧ isWk h' 79 45 19 22 46 ∧ isAs h' 95 45 19 22 46 ∧ isEw h' 131 ∧ isEw h' 145 ∧ isF h' 159 16 0) := by
  refine wr_aload_n rfl rfl rfl ?_
  refine wr_ldc (z := 1000000) rfl rfl rfl (by decide) ?_
  refine wr_putI (ci := 0) (f := 8) (fs' := [_, _, _, _, _, _, _, _, _, _, _, _, _, _, _, _, _, _]) rfl rfl rfl c rfl rfl rfl (fun h1 e1 => ?_)
  have c1 : h1[0]? = some _ := (by rw [e1]; exact am_set_s c)
  have l1 : h1.length = 22 := by rw [e1]; exact set_len l
  have m : ∀ i, i ≠ 0 → i < 22 → h1[i]? = h[i]? := fun i i1 i2 => by rw [e1, am_set_n (Ne.symm i1)]
  exact cs_0_7 l1 c1 (fun i hi => (m i (by omega) (by omega)).trans (T i hi)) (p0.same (lo := 1) (up := 6) (fun i i1 i2 => m i (by omega) (by omega)) (by omega)) (p1.same (lo := 7) (up := 12) (fun i i1 i2 => m i (by omega) (by omega)) (by omega)) (p2.same (lo := 13) (up := 15) (fun i i1 i2 => m i (by omega) (by omega)) (by omega)) (p3.same (lo := 16) (hi := 18) (fun i i1 i2 => m i (by omega) (by omega)) (by omega)) (p4.same (lo := 19) (hi := 21) (fun i i1 i2 => m i (by omega) (by omega)) (by omega))
theorem cs_0_5 {d : Nat} {h0 h : am_H}  (l : h.length = 22) (c : h[0]? = some (.inr (0, [.ref (13), .ref (1), .ref (7), .ref (16), .ref (19), .int 0, .int 0, .int 0, .int 0, .null, .null, .null, .null, .null, .null, .int 0, .int 0, .null]))) (T : ∀ i, i < 0 → h[i]? = h0[i]?) (p0 : isT h 1 (Tm.mk Z0 Z0 Z0 Z0 Z0 0 0 0)) (p1 : isT h 7 (Tm.mk Z0 Z0 Z0 Z0 Z0 0 0 0)) (p2 : isR h 13 7 Z0 0 0 0 Z0 0) (p3 : isG h 16 0 Z0 Z0) (p4 : isG h 19 0 Z0 Z0) : am_w X (d + 5) 0 (63, [.ref 0], [], h) (fun r h' => r = none ∧ h'.length = 164 ∧ h'[0]? = some (.inr (0, [.ref 13, .ref 1, .ref 7, .ref 16, .ref 19, .int (iI 0), .int (iI 0), .int (iI 1000000), .int (iI 1000000), .ref 22, .ref 45, .ref 79, .ref 95, .ref 131, .ref 145, .int (iI 0), .int (iI 0), .ref 159])) ∧ isT h' 1 (Tm.mk Z0 Z0 Z0 Z0 Z0 0 0 0) ∧ isT h' 7 (Tm.mk Z0 Z0 Z0 Z0 Z0 0 0 0) ∧ isR h' 13 7 Z0 0 0 0 Z0 0 ∧ isG h' 16 0 Z0 Z0 ∧ isG h' 19 0 Z0 Z0 ∧ arX h' 22 ∧ isSn h' 45 ∧ isWk h' 79 45 19 22 46 ∧ isAs h' 95 45 19 22 46 ∧ isEw h' 131 ∧ isEw h' 145 ∧ isF h' 159 16 0) := by
  refine wr_aload_n rfl rfl rfl ?_
  refine wr_ldc (z := 1000000) rfl rfl rfl (by decide) ?_
  refine wr_putI (ci := 0) (f := 7) (fs' := [_, _, _, _, _, _, _, _, _, _, _, _, _, _, _, _, _, _]) rfl rfl rfl c rfl rfl rfl (fun h1 e1 => ?_)
  have c1 : h1[0]? = some _ := (by rw [e1]; exact am_set_s c)
  have l1 : h1.length = 22 := by rw [e1]; exact set_len l
  have m : ∀ i, i ≠ 0 → i < 22 → h1[i]? = h[i]? := fun i i1 i2 => by rw [e1, am_set_n (Ne.symm i1)]
  exact cs_0_6 l1 c1 (fun i hi => (m i (by omega) (by omega)).trans (T i hi)) (p0.same (lo := 1) (up := 6) (fun i i1 i2 => m i (by omega) (by omega)) (by omega)) (p1.same (lo := 7) (up := 12) (fun i i1 i2 => m i (by omega) (by omega)) (by omega)) (p2.same (lo := 13) (up := 15) (fun i i1 i2 => m i (by omega) (by omega)) (by omega)) (p3.same (lo := 16) (hi := 18) (fun i i1 i2 => m i (by omega) (by omega)) (by omega)) (p4.same (lo := 19) (hi := 21) (fun i i1 i2 => m i (by omega) (by omega)) (by omega))
theorem cs_0_4 {d : Nat} {h0 h : am_H}  (l : h.length = 19) (c : h[0]? = some (.inr (0, [.ref (13), .ref (1), .ref (7), .ref (16), .null, .int 0, .int 0, .int 0, .int 0, .null, .null, .null, .null, .null, .null, .int 0, .int 0, .null]))) (T : ∀ i, i < 0 → h[i]? = h0[i]?) (p0 : isT h 1 (Tm.mk Z0 Z0 Z0 Z0 Z0 0 0 0)) (p1 : isT h 7 (Tm.mk Z0 Z0 Z0 Z0 Z0 0 0 0)) (p2 : isR h 13 7 Z0 0 0 0 Z0 0) (p3 : isG h 16 0 Z0 Z0) : am_w X (d + 5) 0 (52, [.ref 0], [], h) (fun r h' => r = none ∧ h'.length = 164 ∧ h'[0]? = some (.inr (0, [.ref 13, .ref 1, .ref 7, .ref 16, .ref 19, .int (iI 0), .int (iI 0), .int (iI 1000000), .int (iI 1000000), .ref 22, .ref 45, .ref 79, .ref 95, .ref 131, .ref 145, .int (iI 0), .int (iI 0), .ref 159])) ∧ isT h' 1 (Tm.mk Z0 Z0 Z0 Z0 Z0 0 0 0) ∧ isT h' 7 (Tm.mk Z0 Z0 Z0 Z0 Z0 0 0 0) ∧ isR h' 13 7 Z0 0 0 0 Z0 0 ∧ isG h' 16 0 Z0 Z0 ∧ isG h' 19 0 Z0 Z0 ∧ arX h' 22 ∧ isSn h' 45 ∧ isWk h' 79 45 19 22 46 ∧ isAs h' 95 45 19 22 46 ∧ isEw h' 131 ∧ isEw h' 145 ∧ isF h' 159 16 0) := by
  refine wr_aload_n rfl rfl rfl ?_
  refine wr_new rfl rfl rfl ?_
  rw [l]
  have cA : (h ++ [.inr (3, am_dfl 3)])[0]? = some _ := (ap_lt (by omega)).trans c
  refine wr_dup rfl rfl ?_
  refine wr_ci0 (k' := 3) rfl rfl rfl rfl rfl (ct_ground (ap_la l) (ap_len l)) (fun r hX q => ?_)
  obtain ⟨rfl, lX, x1, pX⟩ := q
  dsimp only [Option.toList, List.nil_append]
  have cX : hX[0]? = some _ := (x1 0 (by omega)).trans cA
  refine wr_putR (ci := 0) (f := 4) (fs' := [_, _, _, _, _, _, _, _, _, _, _, _, _, _, _, _, _, _]) rfl rfl rfl cX rfl rfl rfl (fun h1 e1 => ?_)
  have c1 : h1[0]? = some _ := (by rw [e1]; exact am_set_s cX)
  have l1 : h1.length = 22 := by rw [e1]; exact set_len (by rw [lX])
  have m : ∀ i, i ≠ 0 → i < 19 → h1[i]? = h[i]? := fun i i1 i2 => by rw [e1, am_set_n (Ne.symm i1)]; exact (x1 i (by omega)).trans (ap_lt (by omega))
  have pN : isG h1 19 0 Z0 Z0 := pX.same (lo := 19) (hi := 21) (fun i i1 i2 => by rw [e1, am_set_n (by omega)]) (by omega)
  exact cs_0_5 l1 c1 (fun i hi => (m i (by omega) (by omega)).trans (T i hi)) (p0.same (lo := 1) (up := 6) (fun i i1 i2 => m i (by omega) (by omega)) (by omega)) (p1.same (lo := 7) (up := 12) (fun i i1 i2 => m i (by omega) (by omega)) (by omega)) (p2.same (lo := 13) (up := 15) (fun i i1 i2 => m i (by omega) (by omega)) (by omega)) (p3.same (lo := 16) (hi := 18) (fun i i1 i2 => m i (by omega) (by omega)) (by omega)) pN
theorem cs_0_3 {d : Nat} {h0 h : am_H}  (l : h.length = 16) (c : h[0]? = some (.inr (0, [.ref (13), .ref (1), .ref (7), .null, .null, .int 0, .int 0, .int 0, .int 0, .null, .null, .null, .null, .null, .null, .int 0, .int 0, .null]))) (T : ∀ i, i < 0 → h[i]? = h0[i]?) (p0 : isT h 1 (Tm.mk Z0 Z0 Z0 Z0 Z0 0 0 0)) (p1 : isT h 7 (Tm.mk Z0 Z0 Z0 Z0 Z0 0 0 0)) (p2 : isR h 13 7 Z0 0 0 0 Z0 0) : am_w X (d + 5) 0 (41, [.ref 0], [], h) (fun r h' => r = none ∧ h'.length = 164 ∧ h'[0]? = some (.inr (0, [.ref 13, .ref 1, .ref 7, .ref 16, .ref 19, .int (iI 0), .int (iI 0), .int (iI 1000000), .int (iI 1000000), .ref 22, .ref 45, .ref 79, .ref 95, .ref 131, .ref 145, .int (iI 0), .int (iI 0), .ref 159])) ∧ isT h' 1 (Tm.mk Z0 Z0 Z0 Z0 Z0 0 0 0) ∧ isT h' 7 (Tm.mk Z0 Z0 Z0 Z0 Z0 0 0 0) ∧ isR h' 13 7 Z0 0 0 0 Z0 0 ∧ isG h' 16 0 Z0 Z0 ∧ isG h' 19 0 Z0 Z0 ∧ arX h' 22 ∧ isSn h' 45 ∧ isWk h' 79 45 19 22 46 ∧ isAs h' 95 45 19 22 46 ∧ isEw h' 131 ∧ isEw h' 145 ∧ isF h' 159 16 0) := by
  refine wr_aload_n rfl rfl rfl ?_
  refine wr_new rfl rfl rfl ?_
  rw [l]
  have cA : (h ++ [.inr (3, am_dfl 3)])[0]? = some _ := (ap_lt (by omega)).trans c
  refine wr_dup rfl rfl ?_
  refine wr_ci0 (k' := 3) rfl rfl rfl rfl rfl (ct_ground (ap_la l) (ap_len l)) (fun r hX q => ?_)
  obtain ⟨rfl, lX, x1, pX⟩ := q
  dsimp only [Option.toList, List.nil_append]
  have cX : hX[0]? = some _ := (x1 0 (by omega)).trans cA
  refine wr_putR (ci := 0) (f := 3) (fs' := [_, _, _, _, _, _, _, _, _, _, _, _, _, _, _, _, _, _]) rfl rfl rfl cX rfl rfl rfl (fun h1 e1 => ?_)
  have c1 : h1[0]? = some _ := (by rw [e1]; exact am_set_s cX)
  have l1 : h1.length = 19 := by rw [e1]; exact set_len (by rw [lX])
  have m : ∀ i, i ≠ 0 → i < 16 → h1[i]? = h[i]? := fun i i1 i2 => by rw [e1, am_set_n (Ne.symm i1)]; exact (x1 i (by omega)).trans (ap_lt (by omega))
  have pN : isG h1 16 0 Z0 Z0 := pX.same (lo := 16) (hi := 18) (fun i i1 i2 => by rw [e1, am_set_n (by omega)]) (by omega)
  exact cs_0_4 l1 c1 (fun i hi => (m i (by omega) (by omega)).trans (T i hi)) (p0.same (lo := 1) (up := 6) (fun i i1 i2 => m i (by omega) (by omega)) (by omega)) (p1.same (lo := 7) (up := 12) (fun i i1 i2 => m i (by omega) (by omega)) (by omega)) (p2.same (lo := 13) (up := 15) (fun i i1 i2 => m i (by omega) (by omega)) (by omega)) pN
theorem cs_0_2 {d : Nat} {h0 h : am_H}  (l : h.length = 13) (c : h[0]? = some (.inr (0, [.null, .ref (1), .ref (7), .null, .null, .int 0, .int 0, .int 0, .int 0, .null, .null, .null, .null, .null, .null, .int 0, .int 0, .null]))) (T : ∀ i, i < 0 → h[i]? = h0[i]?) (p0 : isT h 1 (Tm.mk Z0 Z0 Z0 Z0 Z0 0 0 0)) (p1 : isT h 7 (Tm.mk Z0 Z0 Z0 Z0 Z0 0 0 0)) : am_w X (d + 5) 0 (26, [.ref 0], [], h) (fun r h' => r = none ∧ h'.length = 164 ∧ h'[0]? = some (.inr (0, [.ref 13, .ref 1, .ref 7, .ref 16, .ref 19, .int (iI 0), .int (iI 0), .int (iI 1000000), .int (iI 1000000), .ref 22, .ref 45, .ref 79, .ref 95, .ref 131, .ref 145, .int (iI 0), .int (iI 0), .ref 159])) ∧ isT h' 1 (Tm.mk Z0 Z0 Z0 Z0 Z0 0 0 0) ∧ isT h' 7 (Tm.mk Z0 Z0 Z0 Z0 Z0 0 0 0) ∧ isR h' 13 7 Z0 0 0 0 Z0 0 ∧ isG h' 16 0 Z0 Z0 ∧ isG h' 19 0 Z0 Z0 ∧ arX h' 22 ∧ isSn h' 45 ∧ isWk h' 79 45 19 22 46 ∧ isAs h' 95 45 19 22 46 ∧ isEw h' 131 ∧ isEw h' 145 ∧ isF h' 159 16 0) := by
  refine wr_aload_n rfl rfl rfl ?_
  refine wr_new rfl rfl rfl ?_
  rw [l]
  have cA : (h ++ [.inr (2, am_dfl 2)])[0]? = some _ := (ap_lt (by omega)).trans c
  refine wr_dup rfl rfl ?_
  refine wr_aload_n rfl rfl rfl ?_
  refine wr_get (ci := 0) (f := 2) rfl rfl rfl (by assumption) rfl ?_
  refine wr_ci1 (k' := 2) rfl rfl rfl rfl rfl (ct_read (t := 7) (ap_la l) (ap_len l)) (fun r hX q => ?_)
  obtain ⟨rfl, lX, x1, pX⟩ := q
  dsimp only [Option.toList, List.nil_append]
  have cX : hX[0]? = some _ := (x1 0 (by omega)).trans cA
  refine wr_putR (ci := 0) (f := 0) (fs' := [_, _, _, _, _, _, _, _, _, _, _, _, _, _, _, _, _, _]) rfl rfl rfl cX rfl rfl rfl (fun h1 e1 => ?_)
  have c1 : h1[0]? = some _ := (by rw [e1]; exact am_set_s cX)
  have l1 : h1.length = 16 := by rw [e1]; exact set_len (by rw [lX])
  have m : ∀ i, i ≠ 0 → i < 13 → h1[i]? = h[i]? := fun i i1 i2 => by rw [e1, am_set_n (Ne.symm i1)]; exact (x1 i (by omega)).trans (ap_lt (by omega))
  have pN : isR h1 13 7 Z0 0 0 0 Z0 0 := pX.same (lo := 13) (up := 15) (fun i i1 i2 => by rw [e1, am_set_n (by omega)]) (by omega)
  exact cs_0_3 l1 c1 (fun i hi => (m i (by omega) (by omega)).trans (T i hi)) (p0.same (lo := 1) (up := 6) (fun i i1 i2 => m i (by omega) (by omega)) (by omega)) (p1.same (lo := 7) (up := 12) (fun i i1 i2 => m i (by omega) (by omega)) (by omega)) pN
theorem cs_0_1 {d : Nat} {h0 h : am_H}  (l : h.length = 7) (c : h[0]? = some (.inr (0, [.null, .ref (1), .null, .null, .null, .int 0, .int 0, .int 0, .int 0, .null, .null, .null, .null, .null, .null, .int 0, .int 0, .null]))) (T : ∀ i, i < 0 → h[i]? = h0[i]?) (p0 : isT h 1 (Tm.mk Z0 Z0 Z0 Z0 Z0 0 0 0)) : am_w X (d + 5) 0 (15, [.ref 0], [], h) (fun r h' => r = none ∧ h'.length = 164 ∧ h'[0]? = some (.inr (0, [.ref 13, .ref 1, .ref 7, .ref 16, .ref 19, .int (iI 0), .int (iI 0), .int (iI 1000000), .int (iI 1000000), .ref 22, .ref 45, .ref 79, .ref 95, .ref 131, .ref 145, .int (iI 0), .int (iI 0), .ref 159])) ∧ isT h' 1 (Tm.mk Z0 Z0 Z0 Z0 Z0 0 0 0) ∧ isT h' 7 (Tm.mk Z0 Z0 Z0 Z0 Z0 0 0 0) ∧ isR h' 13 7 Z0 0 0 0 Z0 0 ∧ isG h' 16 0 Z0 Z0 ∧ isG h' 19 0 Z0 Z0 ∧ arX h' 22 ∧ isSn h' 45 ∧ isWk h' 79 45 19 22 46 ∧ isAs h' 95 45 19 22 46 ∧ isEw h' 131 ∧ isEw h' 145 ∧ isF h' 159 16 0) := by
  refine wr_aload_n rfl rfl rfl ?_
  refine wr_new rfl rfl rfl ?_
  rw [l]
  have cA : (h ++ [.inr (1, am_dfl 1)])[0]? = some _ := (ap_lt (by omega)).trans c
  refine wr_dup rfl rfl ?_
  refine wr_ci0 (k' := 1) rfl rfl rfl rfl rfl (ct_tmpl (ap_la l) (ap_len l)) (fun r hX q => ?_)
  obtain ⟨rfl, lX, x1, pX⟩ := q
  dsimp only [Option.toList, List.nil_append]
  have cX : hX[0]? = some _ := (x1 0 (by omega)).trans cA
  refine wr_putR (ci := 0) (f := 2) (fs' := [_, _, _, _, _, _, _, _, _, _, _, _, _, _, _, _, _, _]) rfl rfl rfl cX rfl rfl rfl (fun h1 e1 => ?_)
  have c1 : h1[0]? = some _ := (by rw [e1]; exact am_set_s cX)
  have l1 : h1.length = 13 := by rw [e1]; exact set_len (by rw [lX])
  have m : ∀ i, i ≠ 0 → i < 7 → h1[i]? = h[i]? := fun i i1 i2 => by rw [e1, am_set_n (Ne.symm i1)]; exact (x1 i (by omega)).trans (ap_lt (by omega))
  have pN : isT h1 7 (Tm.mk Z0 Z0 Z0 Z0 Z0 0 0 0) := pX.same (lo := 7) (up := 12) (fun i i1 i2 => by rw [e1, am_set_n (by omega)]) (by omega)
  exact cs_0_2 l1 c1 (fun i hi => (m i (by omega) (by omega)).trans (T i hi)) (p0.same (lo := 1) (up := 6) (fun i i1 i2 => m i (by omega) (by omega)) (by omega)) pN
theorem cs_0_0 {d : Nat} {h0 h : am_H}  (l : h.length = 1) (c : h[0]? = some (.inr (0, [.null, .null, .null, .null, .null, .int 0, .int 0, .int 0, .int 0, .null, .null, .null, .null, .null, .null, .int 0, .int 0, .null]))) (T : ∀ i, i < 0 → h[i]? = h0[i]?)  : am_w X (d + 5) 0 (4, [.ref 0], [], h) (fun r h' => r = none ∧ h'.length = 164 ∧ h'[0]? = some (.inr (0, [.ref 13, .ref 1, .ref 7, .ref 16, .ref 19, .int (iI 0), .int (iI 0), .int (iI 1000000), .int (iI 1000000), .ref 22, .ref 45, .ref 79, .ref 95, .ref 131, .ref 145, .int (iI 0), .int (iI 0), .ref 159])) ∧ isT h' 1 (Tm.mk Z0 Z0 Z0 Z0 Z0 0 0 0) ∧ isT h' 7 (Tm.mk Z0 Z0 Z0 Z0 Z0 0 0 0) ∧ isR h' 13 7 Z0 0 0 0 Z0 0 ∧ isG h' 16 0 Z0 Z0 ∧ isG h' 19 0 Z0 Z0 ∧ arX h' 22 ∧ isSn h' 45 ∧ isWk h' 79 45 19 22 46 ∧ isAs h' 95 45 19 22 46 ∧ isEw h' 131 ∧ isEw h' 145 ∧ isF h' 159 16 0) := by
  refine wr_aload_n rfl rfl rfl ?_
  refine wr_new rfl rfl rfl ?_
  rw [l]
  have cA : (h ++ [.inr (1, am_dfl 1)])[0]? = some _ := (ap_lt (by omega)).trans c
  refine wr_dup rfl rfl ?_
  refine wr_ci0 (k' := 1) rfl rfl rfl rfl rfl (ct_tmpl (ap_la l) (ap_len l)) (fun r hX q => ?_)
  obtain ⟨rfl, lX, x1, pX⟩ := q
  dsimp only [Option.toList, List.nil_append]
  have cX : hX[0]? = some _ := (x1 0 (by omega)).trans cA
  refine wr_putR (ci := 0) (f := 1) (fs' := [_, _, _, _, _, _, _, _, _, _, _, _, _, _, _, _, _, _]) rfl rfl rfl cX rfl rfl rfl (fun h1 e1 => ?_)
  have c1 : h1[0]? = some _ := (by rw [e1]; exact am_set_s cX)
  have l1 : h1.length = 7 := by rw [e1]; exact set_len (by rw [lX])
  have m : ∀ i, i ≠ 0 → i < 1 → h1[i]? = h[i]? := fun i i1 i2 => by rw [e1, am_set_n (Ne.symm i1)]; exact (x1 i (by omega)).trans (ap_lt (by omega))
  have pN : isT h1 1 (Tm.mk Z0 Z0 Z0 Z0 Z0 0 0 0) := pX.same (lo := 1) (up := 6) (fun i i1 i2 => by rw [e1, am_set_n (by omega)]) (by omega)
  exact cs_0_1 l1 c1 (fun i hi => (m i (by omega) (by omega)).trans (T i hi)) pN
theorem ct_main {d : Nat} : am_c X (d + 6) 0 [.ref 0] [.inr (0, am_dfl 0)] (fun r h' => r = none ∧ h'.length = 164 ∧ h'[0]? = some (.inr (0, [.ref 13, .ref 1, .ref 7, .ref 16, .ref 19, .int (iI 0), .int (iI 0), .int (iI 1000000), .int (iI 1000000), .ref 22, .ref 45, .ref 79, .ref 95, .ref 131, .ref 145, .int (iI 0), .int (iI 0), .ref 159])) ∧ isT h' 1 (Tm.mk Z0 Z0 Z0 Z0 Z0 0 0 0) ∧ isT h' 7 (Tm.mk Z0 Z0 Z0 Z0 Z0 0 0 0) ∧ isR h' 13 7 Z0 0 0 0 Z0 0 ∧ isG h' 16 0 Z0 Z0 ∧ isG h' 19 0 Z0 Z0 ∧ arX h' 22 ∧ isSn h' 45 ∧ isWk h' 79 45 19 22 46 ∧ isAs h' 95 45 19 22 46 ∧ isEw h' 131 ∧ isEw h' 145 ∧ isF h' 159 16 0) := by
  refine am_c.of (Nat.le_of_ble_eq_true rfl) ?_
  show am_w _ _ _ (_, [_], _, _) _
  refine wr_aload_n rfl rfl rfl ?_
  refine wr_oinit rfl rfl rfl rfl ?_
  exact cs_0_0 (h0 := []) rfl rfl (fun i hi => absurd hi (Nat.not_lt_zero _))
end CT2
/-- the first state -/
def sq0 : Sq := Sq.mk 0 0 Z0 Z0 Z0 Z0 Z0
def ps0 : PS := PS.mk Z0 0 (Tm.mk Z0 Z0 Z0 Z0 Z0 0 0 0) 0 Z0 Z0 0 0 1000000 1000000 0 0 Z0 Z0 sq0 sq0 0 0 0 0 0 Z0 0 0 0 0 0 0
theorem vs0 : VS ps0 := by
  refine ⟨⟨Nat.zero_le _, fun j hj => absurd hj (Nat.not_lt_zero _)⟩, GT.none _ _ _ _ _, ⟨Nat.zero_le _, fun i => ?_, fun i => ?_, fun i j _ hj => absurd hj (Nat.not_lt_zero _)⟩, by decide, by decide, Or.inl rfl, Nat.zero_le _, fun q => absurd q (by decide), Nat.zero_le _, by decide, by decide, by decide⟩
  · show -100000 ≤ (0 : Int) ∧ (0 : Int) ≤ 100000; decide
  · show -100000 ≤ (0 : Int) ∧ (0 : Int) ≤ 100000; decide
theorem cr_init {X : Nat × (Nat → Int32)} {d : Nat} : am_c X (d + 6) 0 [.ref 0] [.inr (0, am_dfl 0)] (fun r h' => r = none ∧ h'.length = 164 ∧ CR h' ps0) := by
  refine am_c.mono ct_main (fun r h' q => ?_)
  obtain ⟨q0, ql, qc, p0, p1, p2, p3, p4, p5, ⟨p6, p7, p8⟩, ⟨p9, p10, p11, p12⟩, ⟨a0, a1, a2, a3, a4, a5, a6, a7⟩, ⟨b0, b1, b2, b3, b4, b5⟩, ⟨e0, e1, e2, e3, e4, e5⟩, p13⟩ := q
  refine ⟨q0, ql, ⟨1, 7, 7, 0, 0, 0, Z0, Tm.mk Z0 Z0 Z0 Z0 Z0 0 0 0, Or.inl ⟨rfl, rfl⟩, qc, p0, p1, p2, p3⟩, 46, 46, 0, 0, 0, fun _ => sq0, fun _ => 0, fun _ => 0, ⟨frI_rf _ _, p4, p5, p6, ⟨p7.1, p7.2.1, p7.2.2.1, p7.2.2.2.1, p7.2.2.2.2.1, p7.2.2.2.2.2.1⟩, ⟨p8.1, p8.2.1, p8.2.2.1, p8.2.2.2.1, p8.2.2.2.2.1, p8.2.2.2.2.2.1⟩, p9, a0, b0, e0, fun p hp => ?_, fun p hp => ?_⟩, ⟨rfl, rfl⟩, ⟨rfl, rfl, rfl, rfl⟩, Or.inl rfl, ⟨rfl, rfl⟩, rfl, rfl⟩
  · simp only [LW, List.mem_cons, List.not_mem_nil, or_false] at hp
    rcases hp with rfl | rfl | rfl | rfl | rfl | rfl | rfl | rfl
    · exact b1
    · exact b2
    · exact b3
    · exact b4
    · exact e1
    · exact e2
    · exact e3
    · exact e4
  · simp only [LF, List.mem_cons, List.not_mem_nil, or_false] at hp
    rcases hp with rfl | rfl | rfl | rfl | rfl | rfl | rfl | rfl | rfl | rfl | rfl | rfl | rfl | rfl | rfl | rfl | rfl
    · exact p7.2.2.2.2.2.2.1
    · exact p7.2.2.2.2.2.2.2
    · exact p8.2.2.2.2.2.2.1
    · exact p8.2.2.2.2.2.2.2
    · exact p10
    · exact p11
    · exact p12
    · exact a1
    · exact a2
    · exact a3
    · exact a4
    · exact a5
    · exact a6
    · exact a7
    · exact b5
    · exact e5
    · exact p13
