section CT2
variable {X : Nat × (Nat → Int32)} {h h' : am_H} {a : Nat}
theorem cs_4_11 {d : Nat} {h0 h : am_H}  (l : h.length = a + 23) (c : h[a]? = some (.inr (4, [.ref (a + 1), .ref (a + 3), .ref (a + 5), .ref (a + 7), .ref (a + 9), .ref (a + 11), .ref (a + 13), .ref (a + 15), .ref (a + 17), .ref (a + 19), .ref (a + 21)]))) (T : ∀ i, i < a → h[i]? = h0[i]?) (p0 : isW h (a + 1) ((a + 1) + 1) 128 0) (p1 : isW h (a + 3) ((a + 3) + 1) 128 0) (p2 : isW h (a + 5) ((a + 5) + 1) 128 0) (p3 : isW h (a + 7) ((a + 7) + 1) 128 0) (p4 : isW h (a + 9) ((a + 9) + 1) 128 0) (p5 : isW h (a + 11) ((a + 11) + 1) 128 0) (p6 : isW h (a + 13) ((a + 13) + 1) 128 0) (p7 : isW h (a + 15) ((a + 15) + 1) 128 0) (p8 : isW h (a + 17) ((a + 17) + 1) 128 0) (p9 : isW h (a + 19) ((a + 19) + 1) 128 0) (p10 : isW h (a + 21) ((a + 21) + 1) 128 0) : am_w X (d + 1) 4 (158, [.ref a], [], h) (fun r h' => r = none ∧ h'.length = a + 23 ∧ ex a h0 h' ∧ arX h' a) := by
  refine wr_vret rfl rfl ?_
  refine ⟨rfl, l, T, fun _ => 0, c, fun k hk => ?_⟩
  match k, hk with
  | 0, _ => exact p0
  | 1, _ => exact p1
  | 2, _ => exact p2
  | 3, _ => exact p3
  | 4, _ => exact p4
  | 5, _ => exact p5
  | 6, _ => exact p6
  | 7, _ => exact p7
  | 8, _ => exact p8
  | 9, _ => exact p9
  | 10, _ => exact p10
theorem cs_4_10 {d : Nat} {h0 h : am_H}  (l : h.length = a + 21) (c : h[a]? = some (.inr (4, [.ref (a + 1), .ref (a + 3), .ref (a + 5), .ref (a + 7), .ref (a + 9), .ref (a + 11), .ref (a + 13), .ref (a + 15), .ref (a + 17), .ref (a + 19), .null]))) (T : ∀ i, i < a → h[i]? = h0[i]?) (p0 : isW h (a + 1) ((a + 1) + 1) 128 0) (p1 : isW h (a + 3) ((a + 3) + 1) 128 0) (p2 : isW h (a + 5) ((a + 5) + 1) 128 0) (p3 : isW h (a + 7) ((a + 7) + 1) 128 0) (p4 : isW h (a + 9) ((a + 9) + 1) 128 0) (p5 : isW h (a + 11) ((a + 11) + 1) 128 0) (p6 : isW h (a + 13) ((a + 13) + 1) 128 0) (p7 : isW h (a + 15) ((a + 15) + 1) 128 0) (p8 : isW h (a + 17) ((a + 17) + 1) 128 0) (p9 : isW h (a + 19) ((a + 19) + 1) 128 0) : am_w X (d + 1) 4 (144, [.ref a], [], h) (fun r h' => r = none ∧ h'.length = a + 23 ∧ ex a h0 h' ∧ arX h' a) := by
  refine wr_aload_n rfl rfl rfl ?_
  refine wr_new rfl rfl rfl ?_
  rw [l]
  have cA : (h ++ [.inr (5, am_dfl 5)])[a]? = some _ := (ap_lt (by omega)).trans c
  refine wr_dup rfl rfl ?_
  refine wr_sipush rfl rfl (by decide) ?_
  refine wr_ci1 (k' := 5) rfl rfl rfl rfl rfl (ct_whole (cap := 128) (ap_la l) (ap_len l) (by decide)) (fun r hX q => ?_)
  obtain ⟨rfl, lX, x1, pX⟩ := q
  dsimp only [Option.toList, List.nil_append]
  have cX : hX[a]? = some _ := (x1 a (by omega)).trans cA
  refine wr_putR (ci := 4) (f := 10) (fs' := [_, _, _, _, _, _, _, _, _, _, _]) rfl rfl rfl cX rfl rfl rfl (fun h1 e1 => ?_)
  have c1 : h1[a]? = some _ := (by rw [e1]; exact am_set_s cX)
  have l1 : h1.length = a + 23 := by rw [e1]; exact set_len (by rw [lX])
  have m : ∀ i, i ≠ a → i < a + 21 → h1[i]? = h[i]? := fun i i1 i2 => by rw [e1, am_set_n (Ne.symm i1)]; exact (x1 i (by omega)).trans (ap_lt (by omega))
  have pN : isW h1 (a + 21) ((a + 21) + 1) 128 0 := pX.same (lo := a + 21) (hi := a + 22) (fun i i1 i2 => by rw [e1, am_set_n (by omega)]) (by omega) (by omega)
  exact cs_4_11 l1 c1 (fun i hi => (m i (by omega) (by omega)).trans (T i hi)) (p0.same (lo := a + 1) (hi := a + 2) (fun i i1 i2 => m i (by omega) (by omega)) (by omega) (by omega)) (p1.same (lo := a + 3) (hi := a + 4) (fun i i1 i2 => m i (by omega) (by omega)) (by omega) (by omega)) (p2.same (lo := a + 5) (hi := a + 6) (fun i i1 i2 => m i (by omega) (by omega)) (by omega) (by omega)) (p3.same (lo := a + 7) (hi := a + 8) (fun i i1 i2 => m i (by omega) (by omega)) (by omega) (by omega)) (p4.same (lo := a + 9) (hi := a + 10) (fun i i1 i2 => m i (by omega) (by omega)) (by omega) (by omega)) (p5.same (lo := a + 11) (hi := a + 12) (fun i i1 i2 => m i (by omega) (by omega)) (by omega) (by omega)) (p6.same (lo := a + 13) (hi := a + 14) (fun i i1 i2 => m i (by omega) (by omega)) (by omega) (by omega)) (p7.same (lo := a + 15) (hi := a + 16) (fun i i1 i2 => m i (by omega) (by omega)) (by omega) (by omega)) (p8.same (lo := a + 17) (hi := a + 18) (fun i i1 i2 => m i (by omega) (by omega)) (by omega) (by omega)) (p9.same (lo := a + 19) (hi := a + 20) (fun i i1 i2 => m i (by omega) (by omega)) (by omega) (by omega)) pN
theorem cs_4_9 {d : Nat} {h0 h : am_H}  (l : h.length = a + 19) (c : h[a]? = some (.inr (4, [.ref (a + 1), .ref (a + 3), .ref (a + 5), .ref (a + 7), .ref (a + 9), .ref (a + 11), .ref (a + 13), .ref (a + 15), .ref (a + 17), .null, .null]))) (T : ∀ i, i < a → h[i]? = h0[i]?) (p0 : isW h (a + 1) ((a + 1) + 1) 128 0) (p1 : isW h (a + 3) ((a + 3) + 1) 128 0) (p2 : isW h (a + 5) ((a + 5) + 1) 128 0) (p3 : isW h (a + 7) ((a + 7) + 1) 128 0) (p4 : isW h (a + 9) ((a + 9) + 1) 128 0) (p5 : isW h (a + 11) ((a + 11) + 1) 128 0) (p6 : isW h (a + 13) ((a + 13) + 1) 128 0) (p7 : isW h (a + 15) ((a + 15) + 1) 128 0) (p8 : isW h (a + 17) ((a + 17) + 1) 128 0) : am_w X (d + 1) 4 (130, [.ref a], [], h) (fun r h' => r = none ∧ h'.length = a + 23 ∧ ex a h0 h' ∧ arX h' a) := by
  refine wr_aload_n rfl rfl rfl ?_
  refine wr_new rfl rfl rfl ?_
  rw [l]
  have cA : (h ++ [.inr (5, am_dfl 5)])[a]? = some _ := (ap_lt (by omega)).trans c
  refine wr_dup rfl rfl ?_
  refine wr_sipush rfl rfl (by decide) ?_
  refine wr_ci1 (k' := 5) rfl rfl rfl rfl rfl (ct_whole (cap := 128) (ap_la l) (ap_len l) (by decide)) (fun r hX q => ?_)
  obtain ⟨rfl, lX, x1, pX⟩ := q
  dsimp only [Option.toList, List.nil_append]
  have cX : hX[a]? = some _ := (x1 a (by omega)).trans cA
  refine wr_putR (ci := 4) (f := 9) (fs' := [_, _, _, _, _, _, _, _, _, _, _]) rfl rfl rfl cX rfl rfl rfl (fun h1 e1 => ?_)
  have c1 : h1[a]? = some _ := (by rw [e1]; exact am_set_s cX)
  have l1 : h1.length = a + 21 := by rw [e1]; exact set_len (by rw [lX])
  have m : ∀ i, i ≠ a → i < a + 19 → h1[i]? = h[i]? := fun i i1 i2 => by rw [e1, am_set_n (Ne.symm i1)]; exact (x1 i (by omega)).trans (ap_lt (by omega))
  have pN : isW h1 (a + 19) ((a + 19) + 1) 128 0 := pX.same (lo := a + 19) (hi := a + 20) (fun i i1 i2 => by rw [e1, am_set_n (by omega)]) (by omega) (by omega)
  exact cs_4_10 l1 c1 (fun i hi => (m i (by omega) (by omega)).trans (T i hi)) (p0.same (lo := a + 1) (hi := a + 2) (fun i i1 i2 => m i (by omega) (by omega)) (by omega) (by omega)) (p1.same (lo := a + 3) (hi := a + 4) (fun i i1 i2 => m i (by omega) (by omega)) (by omega) (by omega)) (p2.same (lo := a + 5) (hi := a + 6) (fun i i1 i2 => m i (by omega) (by omega)) (by omega) (by omega)) (p3.same (lo := a + 7) (hi := a + 8) (fun i i1 i2 => m i (by omega) (by omega)) (by omega) (by omega)) (p4.same (lo := a + 9) (hi := a + 10) (fun i i1 i2 => m i (by omega) (by omega)) (by omega) (by omega)) (p5.same (lo := a + 11) (hi := a + 12) (fun i i1 i2 => m i (by omega) (by omega)) (by omega) (by omega)) (p6.same (lo := a + 13) (hi := a + 14) (fun i i1 i2 => m i (by omega) (by omega)) (by omega) (by omega)) (p7.same (lo := a + 15) (hi := a + 16) (fun i i1 i2 => m i (by omega) (by omega)) (by omega) (by omega)) (p8.same (lo := a + 17) (hi := a + 18) (fun i i1 i2 => m i (by omega) (by omega)) (by omega) (by omega)) pN
theorem cs_4_8 {d : Nat} {h0 h : am_H}  (l : h.length = a + 17) (c : h[a]? = some (.inr (4, [.ref (a + 1), .ref (a + 3), .ref (a + 5), .ref (a + 7), .ref (a + 9), .ref (a + 11), .ref (a + 13), .ref (a + 15), .null, .null, .null]))) (T : ∀ i, i < a → h[i]? = h0[i]?) (p0 : isW h (a + 1) ((a + 1) + 1) 128 0) (p1 : isW h (a + 3) ((a + 3) + 1) 128 0) (p2 : isW h (a + 5) ((a + 5) + 1) 128 0) (p3 : isW h (a + 7) ((a + 7) + 1) 128 0) (p4 : isW h (a + 9) ((a + 9) + 1) 128 0) (p5 : isW h (a + 11) ((a + 11) + 1) 128 0) (p6 : isW h (a + 13) ((a + 13) + 1) 128 0) (p7 : isW h (a + 15) ((a + 15) + 1) 128 0) : am_w X (d + 1) 4 (116, [.ref a], [], h) (fun r h' => r = none ∧ h'.length = a + 23 ∧ ex a h0 h' ∧ arX h' a) := by
  refine wr_aload_n rfl rfl rfl ?_
  refine wr_new rfl rfl rfl ?_
  rw [l]
  have cA : (h ++ [.inr (5, am_dfl 5)])[a]? = some _ := (ap_lt (by omega)).trans c
  refine wr_dup rfl rfl ?_
  refine wr_sipush rfl rfl (by decide) ?_
  refine wr_ci1 (k' := 5) rfl rfl rfl rfl rfl (ct_whole (cap := 128) (ap_la l) (ap_len l) (by decide)) (fun r hX q => ?_)
  obtain ⟨rfl, lX, x1, pX⟩ := q
  dsimp only [Option.toList, List.nil_append]
  have cX : hX[a]? = some _ := (x1 a (by omega)).trans cA
  refine wr_putR (ci := 4) (f := 8) (fs' := [_, _, _, _, _, _, _, _, _, _, _]) rfl rfl rfl cX rfl rfl rfl (fun h1 e1 => ?_)
  have c1 : h1[a]? = some _ := (by rw [e1]; exact am_set_s cX)
  have l1 : h1.length = a + 19 := by rw [e1]; exact set_len (by rw [lX])
  have m : ∀ i, i ≠ a → i < a + 17 → h1[i]? = h[i]? := fun i i1 i2 => by rw [e1, am_set_n (Ne.symm i1)]; exact (x1 i (by omega)).trans (ap_lt (by omega))
  have pN : isW h1 (a + 17) ((a + 17) + 1) 128 0 := pX.same (lo := a + 17) (hi := a + 18) (fun i i1 i2 => by rw [e1, am_set_n (by omega)]) (by omega) (by omega)
  exact cs_4_9 l1 c1 (fun i hi => (m i (by omega) (by omega)).trans (T i hi)) (p0.same (lo := a + 1) (hi := a + 2) (fun i i1 i2 => m i (by omega) (by omega)) (by omega) (by omega)) (p1.same (lo := a + 3) (hi := a + 4) (fun i i1 i2 => m i (by omega) (by omega)) (by omega) (by omega)) (p2.same (lo := a + 5) (hi := a + 6) (fun i i1 i2 => m i (by omega) (by omega)) (by omega) (by omega)) (p3.same (lo := a + 7) (hi := a + 8) (fun i i1 i2 => m i (by omega) (by omega)) (by omega) (by omega)) (p4.same (lo := a + 9) (hi := a + 10) (fun i i1 i2 => m i (by omega) (by omega)) (by omega) (by omega)) (p5.same (lo := a + 11) (hi := a + 12) (fun i i1 i2 => m i (by omega) (by omega)) (by omega) (by omega)) (p6.same (lo := a + 13) (hi := a + 14) (fun i i1 i2 => m i (by omega) (by omega)) (by omega) (by omega)) (p7.same (lo := a + 15) (hi := a + 16) (fun i i1 i2 => m i (by omega) (by omega)) (by omega) (by omega)) pN
theorem cs_4_7 {d : Nat} {h0 h : am_H}  (l : h.length = a + 15) (c : h[a]? = some (.inr (4, [.ref (a + 1), .ref (a + 3), .ref (a + 5), .ref (a + 7), .ref (a + 9), .ref (a + 11), .ref (a + 13), .null, .null, .null, .null]))) (T : ∀ i, i < a → h[i]? = h0[i]?) (p0 : isW h (a + 1) ((a + 1) + 1) 128 0) (p1 : isW h (a + 3) ((a + 3) + 1) 128 0) (p2 : isW h (a + 5) ((a + 5) + 1) 128 0) (p3 : isW h (a + 7) ((a + 7) + 1) 128 0) (p4 : isW h (a + 9) ((a + 9) + 1) 128 0) (p5 : isW h (a + 11) ((a + 11) + 1) 128 0) (p6 : isW h (a + 13) ((a + 13) + 1) 128 0) : am_w X (d + 1) 4 (102, [.ref a], [], h) (fun r h' => r = none ∧ h'.length = a + 23 ∧ ex a h0 h' ∧ arX h' a) := by
  refine wr_aload_n rfl rfl rfl ?_
  refine wr_new rfl rfl rfl ?_
  rw [l]
  have cA : (h ++ [.inr (5, am_dfl 5)])[a]? = some _ := (ap_lt (by omega)).trans c
  refine wr_dup rfl rfl ?_
  refine wr_sipush rfl rfl (by decide) ?_
  refine wr_ci1 (k' := 5) rfl rfl rfl rfl rfl (ct_whole (cap := 128) (ap_la l) (ap_len l) (by decide)) (fun r hX q => ?_)
  obtain ⟨rfl, lX, x1, pX⟩ := q
  dsimp only [Option.toList, List.nil_append]
  have cX : hX[a]? = some _ := (x1 a (by omega)).trans cA
  refine wr_putR (ci := 4) (f := 7) (fs' := [_, _, _, _, _, _, _, _, _, _, _]) rfl rfl rfl cX rfl rfl rfl (fun h1 e1 => ?_)
  have c1 : h1[a]? = some _ := (by rw [e1]; exact am_set_s cX)
  have l1 : h1.length = a + 17 := by rw [e1]; exact set_len (by rw [lX])
  have m : ∀ i, i ≠ a → i < a + 15 → h1[i]? = h[i]? := fun i i1 i2 => by rw [e1, am_set_n (Ne.symm i1)]; exact (x1 i (by omega)).trans (ap_lt (by omega))
  have pN : isW h1 (a + 15) ((a + 15) + 1) 128 0 := pX.same (lo := a + 15) (hi := a + 16) (fun i i1 i2 => by rw [e1, am_set_n (by omega)]) (by omega) (by omega)
  exact cs_4_8 l1 c1 (fun i hi => (m i (by omega) (by omega)).trans (T i hi)) (p0.same (lo := a + 1) (hi := a + 2) (fun i i1 i2 => m i (by omega) (by omega)) (by omega) (by omega)) (p1.same (lo := a + 3) (hi := a + 4) (fun i i1 i2 => m i (by omega) (by omega)) (by omega) (by omega)) (p2.same (lo := a + 5) (hi := a + 6) (fun i i1 i2 => m i (by omega) (by omega)) (by omega) (by omega)) (p3.same (lo := a + 7) (hi := a + 8) (fun i i1 i2 => m i (by omega) (by omega)) (by omega) (by omega)) (p4.same (lo := a + 9) (hi := a + 10) (fun i i1 i2 => m i (by omega) (by omega)) (by omega) (by omega)) (p5.same (lo := a + 11) (hi := a + 12) (fun i i1 i2 => m i (by omega) (by omega)) (by omega) (by omega)) (p6.same (lo := a + 13) (hi := a + 14) (fun i i1 i2 => m i (by omega) (by omega)) (by omega) (by omega)) pN
theorem cs_4_6 {d : Nat} {h0 h : am_H}  (l : h.length = a + 13) (c : h[a]? = some (.inr (4, [.ref (a + 1), .ref (a + 3), .ref (a + 5), .ref (a + 7), .ref (a + 9), .ref (a + 11), .null, .null, .null, .null, .null]))) (T : ∀ i, i < a → h[i]? = h0[i]?) (p0 : isW h (a + 1) ((a + 1) + 1) 128 0) (p1 : isW h (a + 3) ((a + 3) + 1) 128 0) (p2 : isW h (a + 5) ((a + 5) + 1) 128 0) (p3 : isW h (a + 7) ((a + 7) + 1) 128 0) (p4 : isW h (a + 9) ((a + 9) + 1) 128 0) (p5 : isW h (a + 11) ((a + 11) + 1) 128 0) : am_w X (d + 1) 4 (88, [.ref a], [], h) (fun r h' => r = none ∧ h'.length = a + 23 ∧ ex a h0 h' ∧ arX h' a) := by
  refine wr_aload_n rfl rfl rfl ?_
  refine wr_new rfl rfl rfl ?_
  rw [l]
  have cA : (h ++ [.inr (5, am_dfl 5)])[a]? = some _ := (ap_lt (by omega)).trans c
  refine wr_dup rfl rfl ?_
  refine wr_sipush rfl rfl (by decide) ?_
  refine wr_ci1 (k' := 5) rfl rfl rfl rfl rfl (ct_whole (cap := 128) (ap_la l) (ap_len l) (by decide)) (fun r hX q => ?_)
  obtain ⟨rfl, lX, x1, pX⟩ := q
  dsimp only [Option.toList, List.nil_append]
  have cX : hX[a]? = some _ := (x1 a (by omega)).trans cA
  refine wr_putR (ci := 4) (f := 6) (fs' := [_, _, _, _, _, _, _, _, _, _, _]) rfl rfl rfl cX rfl rfl rfl (fun h1 e1 => ?_)
  have c1 : h1[a]? = some _ := (by rw [e1]; exact am_set_s cX)
  have l1 : h1.length = a + 15 := by rw [e1]; exact set_len (by rw [lX])
  have m : ∀ i, i ≠ a → i < a + 13 → h1[i]? = h[i]? := fun i i1 i2 => by rw [e1, am_set_n (Ne.symm i1)]; exact (x1 i (by omega)).trans (ap_lt (by omega))
  have pN : isW h1 (a + 13) ((a + 13) + 1) 128 0 := pX.same (lo := a + 13) (hi := a + 14) (fun i i1 i2 => by rw [e1, am_set_n (by omega)]) (by omega) (by omega)
  exact cs_4_7 l1 c1 (fun i hi => (m i (by omega) (by omega)).trans (T i hi)) (p0.same (lo := a + 1) (hi := a + 2) (fun i i1 i2 => m i (by omega) (by omega)) (by omega) (by omega)) (p1.same (lo := a + 3) (hi := a + 4) (fun i i1 i2 => m i (by omega) (by omega)) (by omega) (by omega)) (p2.same (lo := a + 5) (hi := a + 6) (fun i i1 i2 => m i (by omega) (by omega)) (by omega) (by omega)) (p3.same (lo := a + 7) (hi := a + 8) (fun i i1 i2 => m i (by omega) (by omega)) (by omega) (by omega)) (p4.same (lo := a + 9) (hi := a + 10) (fun i i1 i2 => m i (by omega) (by omega)) (by omega) (by omega)) (p5.same (lo := a + 11) (hi := a + 12) (fun i i1 i2 => m i (by omega) (by omega)) (by omega) (by omega)) pN
theorem cs_4_5 {d : Nat} {h0 h : am_H}  (l : h.length = a + 11) (c : h[a]? = some (.inr (4, [.ref (a + 1), .ref (a + 3), .ref (a + 5), .ref (a + 7), .ref (a + 9), .null, .null, .null, .null, .null, .null]))) (T : ∀ i, i < a → h[i]? = h0[i]?) (p0 : isW h (a + 1) ((a + 1) + 1) 128 0) (p1 : isW h (a + 3) ((a + 3) + 1) 128 0) (p2 : isW h (a + 5) ((a + 5) + 1) 128 0) (p3 : isW h (a + 7) ((a + 7) + 1) 128 0) (p4 : isW h (a + 9) ((a + 9) + 1) 128 0) : am_w X (d + 1) 4 (74, [.ref a], [], h) (fun r h' => r = none ∧ h'.length = a + 23 ∧ ex a h0 h' ∧ arX h' a) := by
  refine wr_aload_n rfl rfl rfl ?_
  refine wr_new rfl rfl rfl ?_
  rw [l]
  have cA : (h ++ [.inr (5, am_dfl 5)])[a]? = some _ := (ap_lt (by omega)).trans c
  refine wr_dup rfl rfl ?_
  refine wr_sipush rfl rfl (by decide) ?_
  refine wr_ci1 (k' := 5) rfl rfl rfl rfl rfl (ct_whole (cap := 128) (ap_la l) (ap_len l) (by decide)) (fun r hX q => ?_)
  obtain ⟨rfl, lX, x1, pX⟩ := q
  dsimp only [Option.toList, List.nil_append]
  have cX : hX[a]? = some _ := (x1 a (by omega)).trans cA
  refine wr_putR (ci := 4) (f := 5) (fs' := [_, _, _, _, _, _, _, _, _, _, _]) rfl rfl rfl cX rfl rfl rfl (fun h1 e1 => ?_)
  have c1 : h1[a]? = some _ := (by rw [e1]; exact am_set_s cX)
  have l1 : h1.length = a + 13 := by rw [e1]; exact set_len (by rw [lX])
  have m : ∀ i, i ≠ a → i < a + 11 → h1[i]? = h[i]? := fun i i1 i2 => by rw [e1, am_set_n (Ne.symm i1)]; exact (x1 i (by omega)).trans (ap_lt (by omega))
  have pN : isW h1 (a + 11) ((a + 11) + 1) 128 0 := pX.same (lo := a + 11) (hi := a + 12) (fun i i1 i2 => by rw [e1, am_set_n (by omega)]) (by omega) (by omega)
  exact cs_4_6 l1 c1 (fun i hi => (m i (by omega) (by omega)).trans (T i hi)) (p0.same (lo := a + 1) (hi := a + 2) (fun i i1 i2 => m i (by omega) (by omega)) (by omega) (by omega)) (p1.same (lo := a + 3) (hi := a + 4) (fun i i1 i2 => m i (by omega) (by omega)) (by omega) (by omega)) (p2.same (lo := a + 5) (hi := a + 6) (fun i i1 i2 => m i (by omega) (by omega)) (by omega) (by omega)) (p3.same (lo := a + 7) (hi := a + 8) (fun i i1 i2 => m i (by omega) (by omega)) (by omega) (by omega)) (p4.same (lo := a + 9) (hi := a + 10) (fun i i1 i2 => m i (by omega) (by omega)) (by omega) (by omega)) pN
theorem cs_4_4 {d : Nat} {h0 h : am_H}  (l : h.length = a + 9) (c : h[a]? = some (.inr (4, [.ref (a + 1), .ref (a + 3), .ref (a + 5), .ref (a + 7), .null, .null, .null, .null, .null, .null, .null]))) (T : ∀ i, i < a → h[i]? = h0[i]?) (p0 : isW h (a + 1) ((a + 1) + 1) 128 0) (p1 : isW h (a + 3) ((a + 3) + 1) 128 0) (p2 : isW h (a + 5) ((a + 5) + 1) 128 0) (p3 : isW h (a + 7) ((a + 7) + 1) 128 0) : am_w X (d + 1) 4 (60, [.ref a], [], h) (fun r h' => r = none ∧ h'.length = a + 23 ∧ ex a h0 h' ∧ arX h' a) := by
  refine wr_aload_n rfl rfl rfl ?_
  refine wr_new rfl rfl rfl ?_
  rw [l]
  have cA : (h ++ [.inr (5, am_dfl 5)])[a]? = some _ := (ap_lt (by omega)).trans c
  refine wr_dup rfl rfl ?_
  refine wr_sipush rfl rfl (by decide) ?_
  refine wr_ci1 (k' := 5) rfl rfl rfl rfl rfl (ct_whole (cap := 128) (ap_la l) (ap_len l) (by decide)) (fun r hX q => ?_)
  obtain ⟨rfl, lX, x1, pX⟩ := q
  dsimp only [Option.toList, List.nil_append]
  have cX : hX[a]? = some _ := (x1 a (by omega)).trans cA
  refine wr_putR (ci := 4) (f := 4) (fs' := [_, _, _, _, _, _, _, _, _, _, _]) rfl rfl rfl cX rfl rfl rfl (fun h1 e1 => ?_)
  have c1 : h1[a]? = some _ := (by rw [e1]; exact am_set_s cX)
  have l1 : h1.length = a + 11 := by rw [e1]; exact set_len (by rw [lX])
  have m : ∀ i, i ≠ a → i < a + 9 → h1[i]? = h[i]? := fun i i1 i2 => by rw [e1, am_set_n (Ne.symm i1)]; exact (x1 i (by omega)).trans (ap_lt (by omega))
  have pN : isW h1 (a + 9) ((a + 9) + 1) 128 0 := pX.same (lo := a + 9) (hi := a + 10) (fun i i1 i2 => by rw [e1, am_set_n (by omega)]) (by omega) (by omega)
  exact cs_4_5 l1 c1 (fun i hi => (m i (by omega) (by omega)).trans (T i hi)) (p0.same (lo := a + 1) (hi := a + 2) (fun i i1 i2 => m i (by omega) (by omega)) (by omega) (by omega)) (p1.same (lo := a + 3) (hi := a + 4) (fun i i1 i2 => m i (by omega) (by omega)) (by omega) (by omega)) (p2.same (lo := a + 5) (hi := a + 6) (fun i i1 i2 => m i (by omega) (by omega)) (by omega) (by omega)) (p3.same (lo := a + 7) (hi := a + 8) (fun i i1 i2 => m i (by omega) (by omega)) (by omega) (by omega)) pN
theorem cs_4_3 {d : Nat} {h0 h : am_H}  (l : h.length = a + 7) (c : h[a]? = some (.inr (4, [.ref (a + 1), .ref (a + 3), .ref (a + 5), .null, .null, .null, .null, .null, .null, .null, .null]))) (T : ∀ i, i < a → h[i]? = h0[i]?) (p0 : isW h (a + 1) ((a + 1) + 1) 128 0) (p1 : isW h (a + 3) ((a + 3) + 1) 128 0) (p2 : isW h (a + 5) ((a + 5) + 1) 128 0) : am_w X (d + 1) 4 (46, [.ref a], [], h) (fun r h' => r = none ∧ h'.length = a + 23 ∧ ex a h0 h' ∧ arX h' a) := by
  refine wr_aload_n rfl rfl rfl ?_
  refine wr_new rfl rfl rfl ?_
  rw [l]
  have cA : (h ++ [.inr (5, am_dfl 5)])[a]? = some _ := (ap_lt (by omega)).trans c
  refine wr_dup rfl rfl ?_
  refine wr_sipush rfl rfl (by decide) ?_
  refine wr_ci1 (k' := 5) rfl rfl rfl rfl rfl (ct_whole (cap := 128) (ap_la l) (ap_len l) (by decide)) (fun r hX q => ?_)
  obtain ⟨rfl, lX, x1, pX⟩ := q
  dsimp only [Option.toList, List.nil_append]
  have cX : hX[a]? = some _ := (x1 a (by omega)).trans cA
  refine wr_putR (ci := 4) (f := 3) (fs' := [_, _, _, _, _, _, _, _, _, _, _]) rfl rfl rfl cX rfl rfl rfl (fun h1 e1 => ?_)
  have c1 : h1[a]? = some _ := (by rw [e1]; exact am_set_s cX)
  have l1 : h1.length = a + 9 := by rw [e1]; exact set_len (by rw [lX])
  have m : ∀ i, i ≠ a → i < a + 7 → h1[i]? = h[i]? := fun i i1 i2 => by rw [e1, am_set_n (Ne.symm i1)]; exact (x1 i (by omega)).trans (ap_lt (by omega))
  have pN : isW h1 (a + 7) ((a + 7) + 1) 128 0 := pX.same (lo := a + 7) (hi := a + 8) (fun i i1 i2 => by rw [e1, am_set_n (by omega)]) (by omega) (by omega)
  exact cs_4_4 l1 c1 (fun i hi => (m i (by omega) (by omega)).trans (T i hi)) (p0.same (lo := a + 1) (hi := a + 2) (fun i i1 i2 => m i (by omega) (by omega)) (by omega) (by omega)) (p1.same (lo := a + 3) (hi := a + 4) (fun i i1 i2 => m i (by omega) (by omega)) (by omega) (by omega)) (p2.same (lo := a + 5) (hi := a + 6) (fun i i1 i2 => m i (by omega) (by omega)) (by omega) (by omega)) pN
theorem cs_4_2 {d : Nat} {h0 h : am_H}  (l : h.length = a + 5) (c : h[a]? = some (.inr (4, [.ref (a + 1), .ref (a + 3), .null, .null, .null, .null, .null, .null, .null, .null, .null]))) (T : ∀ i, i < a → h[i]? = h0[i]?) (p0 : isW h (a + 1) ((a + 1) + 1) 128 0) (p1 : isW h (a + 3) ((a + 3) + 1) 128 0) : am_w X (d + 1) 4 (32, [.ref a], [], h) (fun r h' => r = none ∧ h'.length = a + 23 ∧ ex a h0 h' ∧ arX h' a) := by
  refine wr_aload_n rfl rfl rfl ?_
  refine wr_new rfl rfl rfl ?_
  rw [l]
  have cA : (h ++ [.inr (5, am_dfl 5)])[a]? = some _ := (ap_lt (by omega)).trans c
  refine wr_dup rfl rfl ?_
  refine wr_sipush rfl rfl (by decide) ?_
  refine wr_ci1 (k' := 5) rfl rfl rfl rfl rfl (ct_whole (cap := 128) (ap_la l) (ap_len l) (by decide)) (fun r hX q => ?_)
  obtain ⟨rfl, lX, x1, pX⟩ := q
  dsimp only [Option.toList, List.nil_append]
  have cX : hX[a]? = some _ := (x1 a (by omega)).trans cA
  refine wr_putR (ci := 4) (f := 2) (fs' := [_, _, _, _, _, _, _, _, _, _, _]) rfl rfl rfl cX rfl rfl rfl (fun h1 e1 => ?_)
  have c1 : h1[a]? = some _ := (by rw [e1]; exact am_set_s cX)
  have l1 : h1.length = a + 7 := by rw [e1]; exact set_len (by rw [lX])
  have m : ∀ i, i ≠ a → i < a + 5 → h1[i]? = h[i]? := fun i i1 i2 => by rw [e1, am_set_n (Ne.symm i1)]; exact (x1 i (by omega)).trans (ap_lt (by omega))
  have pN : isW h1 (a + 5) ((a + 5) + 1) 128 0 := pX.same (lo := a + 5) (hi := a + 6) (fun i i1 i2 => by rw [e1, am_set_n (by omega)]) (by omega) (by omega)
  exact cs_4_3 l1 c1 (fun i hi => (m i (by omega) (by omega)).trans (T i hi)) (p0.same (lo := a + 1) (hi := a + 2) (fun i i1 i2 => m i (by omega) (by omega)) (by omega) (by omega)) (p1.same (lo := a + 3) (hi := a + 4) (fun i i1 i2 => m i (by omega) (by omega)) (by omega) (by omega)) pN
theorem cs_4_1 {d : Nat} {h0 h : am_H}  (l : h.length = a + 3) (c : h[a]? = some (.inr (4, [.ref (a + 1), .null, .null, .null, .null, .null, .null, .null, .null, .null, .null]))) (T : ∀ i, i < a → h[i]? = h0[i]?) (p0 : isW h (a + 1) ((a + 1) + 1) 128 0) : am_w X (d + 1) 4 (18, [.ref a], [], h) (fun r h' => r = none ∧ h'.length = a + 23 ∧ ex a h0 h' ∧ arX h' a) := by
  refine wr_aload_n rfl rfl rfl ?_
  refine wr_new rfl rfl rfl ?_
  rw [l]
  have cA : (h ++ [.inr (5, am_dfl 5)])[a]? = some _ := (ap_lt (by omega)).trans c
  refine wr_dup rfl rfl ?_
  refine wr_sipush rfl rfl (by decide) ?_
  refine wr_ci1 (k' := 5) rfl rfl rfl rfl rfl (ct_whole (cap := 128) (ap_la l) (ap_len l) (by decide)) (fun r hX q => ?_)
  obtain ⟨rfl, lX, x1, pX⟩ := q
  dsimp only [Option.toList, List.nil_append]
  have cX : hX[a]? = some _ := (x1 a (by omega)).trans cA
  refine wr_putR (ci := 4) (f := 1) (fs' := [_, _, _, _, _, _, _, _, _, _, _]) rfl rfl rfl cX rfl rfl rfl (fun h1 e1 => ?_)
  have c1 : h1[a]? = some _ := (by rw [e1]; exact am_set_s cX)
  have l1 : h1.length = a + 5 := by rw [e1]; exact set_len (by rw [lX])
  have m : ∀ i, i ≠ a → i < a + 3 → h1[i]? = h[i]? := fun i i1 i2 => by rw [e1, am_set_n (Ne.symm i1)]; exact (x1 i (by omega)).trans (ap_lt (by omega))
  have pN : isW h1 (a + 3) ((a + 3) + 1) 128 0 := pX.same (lo := a + 3) (hi := a + 4) (fun i i1 i2 => by rw [e1, am_set_n (by omega)]) (by omega) (by omega)
  exact cs_4_2 l1 c1 (fun i hi => (m i (by omega) (by omega)).trans (T i hi)) (p0.same (lo := a + 1) (hi := a + 2) (fun i i1 i2 => m i (by omega) (by omega)) (by omega) (by omega)) pN
theorem cs_4_0 {d : Nat} {h0 h : am_H}  (l : h.length = a + 1) (c : h[a]? = some (.inr (4, [.null, .null, .null, .null, .null, .null, .null, .null, .null, .null, .null]))) (T : ∀ i, i < a → h[i]? = h0[i]?)  : am_w X (d + 1) 4 (4, [.ref a], [], h) (fun r h' => r = none ∧ h'.length = a + 23 ∧ ex a h0 h' ∧ arX h' a) := by
  refine wr_aload_n rfl rfl rfl ?_
  refine wr_new rfl rfl rfl ?_
  rw [l]
  have cA : (h ++ [.inr (5, am_dfl 5)])[a]? = some _ := (ap_lt (by omega)).trans c
  refine wr_dup rfl rfl ?_
  refine wr_sipush rfl rfl (by decide) ?_
  refine wr_ci1 (k' := 5) rfl rfl rfl rfl rfl (ct_whole (cap := 128) (ap_la l) (ap_len l) (by decide)) (fun r hX q => ?_)
  obtain ⟨rfl, lX, x1, pX⟩ := q
  dsimp only [Option.toList, List.nil_append]
  have cX : hX[a]? = some _ := (x1 a (by omega)).trans cA
  refine wr_putR (ci := 4) (f := 0) (fs' := [_, _, _, _, _, _, _, _, _, _, _]) rfl rfl rfl cX rfl rfl rfl (fun h1 e1 => ?_)
  have c1 : h1[a]? = some _ := (by rw [e1]; exact am_set_s cX)
  have l1 : h1.length = a + 3 := by rw [e1]; exact set_len (by rw [lX])
  have m : ∀ i, i ≠ a → i < a + 1 → h1[i]? = h[i]? := fun i i1 i2 => by rw [e1, am_set_n (Ne.symm i1)]; exact (x1 i (by omega)).trans (ap_lt (by omega))
  have pN : isW h1 (a + 1) ((a + 1) + 1) 128 0 := pX.same (lo := a + 1) (hi := a + 2) (fun i i1 i2 => by rw [e1, am_set_n (by omega)]) (by omega) (by omega)
  exact cs_4_1 l1 c1 (fun i hi => (m i (by omega) (by omega)).trans (T i hi)) pN
theorem ct_arith {d : Nat} (hc : h[a]? = some (.inr (4, am_dfl 4))) (hl : h.length = a + 1)  : am_c X (d + 2) 4 [.ref a] h (fun r h' => r = none ∧ h'.length = a + 23 ∧ ex a h h' ∧ arX h' a) := by
  refine am_c.of (Nat.le_of_ble_eq_true rfl) ?_
  show am_w _ _ _ (_, [_], _, _) _
  refine wr_aload_n rfl rfl rfl ?_
  refine wr_oinit rfl rfl rfl rfl ?_
  exact cs_4_0 hl hc (fun _ _ => rfl)
theorem cs_8_8 {d : Nat} {h0 h : am_H} {sg : Int} (l : h.length = a + 16) (c : h[a]? = some (.inr (7, [.int (iI sg), .ref (a + 1), .ref (a + 2), .ref (a + 3), .ref (a + 4), .ref (a + 5), .int 0, .int 0, .ref (a + 6), .ref (a + 11)]))) (T : ∀ i, i < a → h[i]? = h0[i]?) (p0 : h[a + 1]? = some (am_ia 13 Z0)) (p1 : h[a + 2]? = some (am_la 13 Z0)) (p2 : h[a + 3]? = some (am_la 13 Z0)) (p3 : h[a + 4]? = some (am_la 13 Z0)) (p4 : h[a + 5]? = some (am_la 13 Z0)) (p5 : isF h (a + 6) 16 0) (p6 : isF h (a + 11) 16 0) : am_w X (d + 2) 8 (75, [.ref a, .int (iI sg)], [], h) (fun r h' => r = none ∧ h'.length = a + 16 ∧ ex a h0 h' ∧ isS h' a (sg) 0 0 Z0 Z0 Z0 Z0 Z0 0 0) := by
  refine wr_vret rfl rfl ?_
  exact ⟨rfl, l, T, c, p0, p1, p2, p3, p4, p5, p6⟩
theorem cs_8_7 {d : Nat} {h0 h : am_H} {sg : Int} (l : h.length = a + 16) (c : h[a]? = some (.inr (7, [.int 0, .ref (a + 1), .ref (a + 2), .ref (a + 3), .ref (a + 4), .ref (a + 5), .int 0, .int 0, .ref (a + 6), .ref (a + 11)]))) (T : ∀ i, i < a → h[i]? = h0[i]?) (p0 : h[a + 1]? = some (am_ia 13 Z0)) (p1 : h[a + 2]? = some (am_la 13 Z0)) (p2 : h[a + 3]? = some (am_la 13 Z0)) (p3 : h[a + 4]? = some (am_la 13 Z0)) (p4 : h[a + 5]? = some (am_la 13 Z0)) (p5 : isF h (a + 6) 16 0) (p6 : isF h (a + 11) 16 0) : am_w X (d + 2) 8 (70, [.ref a, .int (iI sg)], [], h) (fun r h' => r = none ∧ h'.length = a + 16 ∧ ex a h0 h' ∧ isS h' a (sg) 0 0 Z0 Z0 Z0 Z0 Z0 0 0) := by
  refine wr_aload_n rfl rfl rfl ?_
  refine wr_iload_n rfl rfl rfl ?_
  refine wr_putI (ci := 7) (f := 0) (fs' := [_, _, _, _, _, _, _, _, _, _]) rfl rfl rfl c rfl rfl rfl (fun h1 e1 => ?_)
  have c1 : h1[a]? = some _ := (by rw [e1]; exact am_set_s c)
  have l1 : h1.length = a + 16 := by rw [e1]; exact set_len l
  have m : ∀ i, i ≠ a → i < a + 16 → h1[i]? = h[i]? := fun i i1 i2 => by rw [e1, am_set_n (Ne.symm i1)]
  exact cs_8_8 l1 c1 (fun i hi => (m i (by omega) (by omega)).trans (T i hi)) ((m (a + 1) (by omega) (by omega)).trans p0) ((m (a + 2) (by omega) (by omega)).trans p1) ((m (a + 3) (by omega) (by omega)).trans p2) ((m (a + 4) (by omega) (by omega)).trans p3) ((m (a + 5) (by omega) (by omega)).trans p4) (p5.same (lo := a + 6) (hi := a + 10) (fun i i1 i2 => m i (by omega) (by omega)) (by omega)) (p6.same (lo := a + 11) (hi := a + 15) (fun i i1 i2 => m i (by omega) (by omega)) (by omega))
theorem cs_8_6 {d : Nat} {h0 h : am_H} {sg : Int} (l : h.length = a + 11) (c : h[a]? = some (.inr (7, [.int 0, .ref (a + 1), .ref (a + 2), .ref (a + 3), .ref (a + 4), .ref (a + 5), .int 0, .int 0, .ref (a + 6), .null]))) (T : ∀ i, i < a → h[i]? = h0[i]?) (p0 : h[a + 1]? = some (am_ia 13 Z0)) (p1 : h[a + 2]? = some (am_la 13 Z0)) (p2 : h[a + 3]? = some (am_la 13 Z0)) (p3 : h[a + 4]? = some (am_la 13 Z0)) (p4 : h[a + 5]? = some (am_la 13 Z0)) (p5 : isF h (a + 6) 16 0) : am_w X (d + 2) 8 (57, [.ref a, .int (iI sg)], [], h) (fun r h' => r = none ∧ h'.length = a + 16 ∧ ex a h0 h' ∧ isS h' a (sg) 0 0 Z0 Z0 Z0 Z0 Z0 0 0) := by
  refine wr_aload_n rfl rfl rfl ?_
  refine wr_new rfl rfl rfl ?_
  rw [l]
  have cA : (h ++ [.inr (8, am_dfl 8)])[a]? = some _ := (ap_lt (by omega)).trans c
  refine wr_dup rfl rfl ?_
  refine wr_bipush rfl rfl (by decide) ?_
  refine wr_ci1 (k' := 9) rfl rfl rfl rfl rfl (ct_frac (cap := 16) (ap_la l) (ap_len l) (by decide)) (fun r hX q => ?_)
  obtain ⟨rfl, lX, x1, pX⟩ := q
  dsimp only [Option.toList, List.nil_append]
  have cX : hX[a]? = some _ := (x1 a (by omega)).trans cA
  refine wr_putR (ci := 7) (f := 9) (fs' := [_, _, _, _, _, _, _, _, _, _]) rfl rfl rfl cX rfl rfl rfl (fun h1 e1 => ?_)
  have c1 : h1[a]? = some _ := (by rw [e1]; exact am_set_s cX)
  have l1 : h1.length = a + 16 := by rw [e1]; exact set_len (by rw [lX])
  have m : ∀ i, i ≠ a → i < a + 11 → h1[i]? = h[i]? := fun i i1 i2 => by rw [e1, am_set_n (Ne.symm i1)]; exact (x1 i (by omega)).trans (ap_lt (by omega))
  have pN : isF h1 (a + 11) 16 0 := pX.same (lo := a + 11) (hi := a + 15) (fun i i1 i2 => by rw [e1, am_set_n (by omega)]) (by omega)
  exact cs_8_7 l1 c1 (fun i hi => (m i (by omega) (by omega)).trans (T i hi)) ((m (a + 1) (by omega) (by omega)).trans p0) ((m (a + 2) (by omega) (by omega)).trans p1) ((m (a + 3) (by omega) (by omega)).trans p2) ((m (a + 4) (by omega) (by omega)).trans p3) ((m (a + 5) (by omega) (by omega)).trans p4) (p5.same (lo := a + 6) (hi := a + 10) (fun i i1 i2 => m i (by omega) (by omega)) (by omega)) pN
theorem cs_8_5 {d : Nat} {h0 h : am_H} {sg : Int} (l : h.length = a + 6) (c : h[a]? = some (.inr (7, [.int 0, .ref (a + 1), .ref (a + 2), .ref (a + 3), .ref (a + 4), .ref (a + 5), .int 0, .int 0, .null, .null]))) (T : ∀ i, i < a → h[i]? = h0[i]?) (p0 : h[a + 1]? = some (am_ia 13 Z0)) (p1 : h[a + 2]? = some (am_la 13 Z0)) (p2 : h[a + 3]? = some (am_la 13 Z0)) (p3 : h[a + 4]? = some (am_la 13 Z0)) (p4 : h[a + 5]? = some (am_la 13 Z0)) : am_w X (d + 2) 8 (44, [.ref a, .int (iI sg)], [], h) (fun r h' => r = none ∧ h'.length = a + 16 ∧ ex a h0 h' ∧ isS h' a (sg) 0 0 Z0 Z0 Z0 Z0 Z0 0 0) := by
  refine wr_aload_n rfl rfl rfl ?_
  refine wr_new rfl rfl rfl ?_
  rw [l]
  have cA : (h ++ [.inr (8, am_dfl 8)])[a]? = some _ := (ap_lt (by omega)).trans c
  refine wr_dup rfl rfl ?_
  refine wr_bipush rfl rfl (by decide) ?_
  refine wr_ci1 (k' := 9) rfl rfl rfl rfl rfl (ct_frac (cap := 16) (ap_la l) (ap_len l) (by decide)) (fun r hX q => ?_)
  obtain ⟨rfl, lX, x1, pX⟩ := q
  dsimp only [Option.toList, List.nil_append]
  have cX : hX[a]? = some _ := (x1 a (by omega)).trans cA
  refine wr_putR (ci := 7) (f := 8) (fs' := [_, _, _, _, _, _, _, _, _, _]) rfl rfl rfl cX rfl rfl rfl (fun h1 e1 => ?_)
  have c1 : h1[a]? = some _ := (by rw [e1]; exact am_set_s cX)
  have l1 : h1.length = a + 11 := by rw [e1]; exact set_len (by rw [lX])
  have m : ∀ i, i ≠ a → i < a + 6 → h1[i]? = h[i]? := fun i i1 i2 => by rw [e1, am_set_n (Ne.symm i1)]; exact (x1 i (by omega)).trans (ap_lt (by omega))
  have pN : isF h1 (a + 6) 16 0 := pX.same (lo := a + 6) (hi := a + 10) (fun i i1 i2 => by rw [e1, am_set_n (by omega)]) (by omega)
  exact cs_8_6 l1 c1 (fun i hi => (m i (by omega) (by omega)).trans (T i hi)) ((m (a + 1) (by omega) (by omega)).trans p0) ((m (a + 2) (by omega) (by omega)).trans p1) ((m (a + 3) (by omega) (by omega)).trans p2) ((m (a + 4) (by omega) (by omega)).trans p3) ((m (a + 5) (by omega) (by omega)).trans p4) pN
theorem cs_8_4 {d : Nat} {h0 h : am_H} {sg : Int} (l : h.length = a + 5) (c : h[a]? = some (.inr (7, [.int 0, .ref (a + 1), .ref (a + 2), .ref (a + 3), .ref (a + 4), .null, .int 0, .int 0, .null, .null]))) (T : ∀ i, i < a → h[i]? = h0[i]?) (p0 : h[a + 1]? = some (am_ia 13 Z0)) (p1 : h[a + 2]? = some (am_la 13 Z0)) (p2 : h[a + 3]? = some (am_la 13 Z0)) (p3 : h[a + 4]? = some (am_la 13 Z0)) : am_w X (d + 2) 8 (36, [.ref a, .int (iI sg)], [], h) (fun r h' => r = none ∧ h'.length = a + 16 ∧ ex a h0 h' ∧ isS h' a (sg) 0 0 Z0 Z0 Z0 Z0 Z0 0 0) := by
  refine wr_aload_n rfl rfl rfl ?_
  refine wr_bipush rfl rfl (by decide) ?_
  refine wr_newl (n := 13) rfl rfl (by decide) ?_
  rw [l]
  have cA : (h ++ [am_la 13 fun _ => 0])[a]? = some _ := (ap_lt (by omega)).trans c
  refine wr_putA (ci := 7) (f := 5) (fs' := [_, _, _, _, _, _, _, _, _, _]) rfl rfl rfl cA rfl rfl rfl (fun h1 e1 => ?_)
  have c1 : h1[a]? = some _ := (by rw [e1]; exact am_set_s cA)
  have l1 : h1.length = a + 6 := by rw [e1]; exact set_len (ap_len l)
  have m : ∀ i, i ≠ a → i < a + 5 → h1[i]? = h[i]? := fun i i1 i2 => by rw [e1, am_set_n (Ne.symm i1)]; exact ap_lt (by omega)
  have pN : h1[a + 5]? = some (am_la 13 Z0) := (by rw [e1, am_set_n (by omega)]; exact ap_la l)
  exact cs_8_5 l1 c1 (fun i hi => (m i (by omega) (by omega)).trans (T i hi)) ((m (a + 1) (by omega) (by omega)).trans p0) ((m (a + 2) (by omega) (by omega)).trans p1) ((m (a + 3) (by omega) (by omega)).trans p2) ((m (a + 4) (by omega) (by omega)).trans p3) pN
theorem cs_8_3 {d : Nat} {h0 h : am_H} {sg : Int} (l : h.length = a + 4) (c : h[a]? = some (.inr (7, [.int 0, .ref (a + 1), .ref (a + 2), .ref (a + 3), .null, .null, .int 0, .int 0, .null, .null]))) (T : ∀ i, i < a → h[i]? = h0[i]?) (p0 : h[a + 1]? = some (am_ia 13 Z0)) (p1 : h[a + 2]? = some (am_la 13 Z0)) (p2 : h[a + 3]? = some (am_la 13 Z0)) : am_w X (d + 2) 8 (28, [.ref a, .int (iI sg)], [], h) (fun r h' => r = none ∧ h'.length = a + 16 ∧ ex a h0 h' ∧ isS h' a (sg) 0 0 Z0 Z0 Z0 Z0 Z0 0 0) := by
  refine wr_aload_n rfl rfl rfl ?_
  refine wr_bipush rfl rfl (by decide) ?_
  refine wr_newl (n := 13) rfl rfl (by decide) ?_
  rw [l]
  have cA : (h ++ [am_la 13 fun _ => 0])[a]? = some _ := (ap_lt (by omega)).trans c
  refine wr_putA (ci := 7) (f := 4) (fs' := [_, _, _, _, _, _, _, _, _, _]) rfl rfl rfl cA rfl rfl rfl (fun h1 e1 => ?_)
  have c1 : h1[a]? = some _ := (by rw [e1]; exact am_set_s cA)
  have l1 : h1.length = a + 5 := by rw [e1]; exact set_len (ap_len l)
  have m : ∀ i, i ≠ a → i < a + 4 → h1[i]? = h[i]? := fun i i1 i2 => by rw [e1, am_set_n (Ne.symm i1)]; exact ap_lt (by omega)
  have pN : h1[a + 4]? = some (am_la 13 Z0) := (by rw [e1, am_set_n (by omega)]; exact ap_la l)
  exact cs_8_4 l1 c1 (fun i hi => (m i (by omega) (by omega)).trans (T i hi)) ((m (a + 1) (by omega) (by omega)).trans p0) ((m (a + 2) (by omega) (by omega)).trans p1) ((m (a + 3) (by omega) (by omega)).trans p2) pN
theorem cs_8_2 {d : Nat} {h0 h : am_H} {sg : Int} (l : h.length = a + 3) (c : h[a]? = some (.inr (7, [.int 0, .ref (a + 1), .ref (a + 2), .null, .null, .null, .int 0, .int 0, .null, .null]))) (T : ∀ i, i < a → h[i]? = h0[i]?) (p0 : h[a + 1]? = some (am_ia 13 Z0)) (p1 : h[a + 2]? = some (am_la 13 Z0)) : am_w X (d + 2) 8 (20, [.ref a, .int (iI sg)], [], h) (fun r h' => r = none ∧ h'.length = a + 16 ∧ ex a h0 h' ∧ isS h' a (sg) 0 0 Z0 Z0 Z0 Z0 Z0 0 0) := by
  refine wr_aload_n rfl rfl rfl ?_
  refine wr_bipush rfl rfl (by decide) ?_
  refine wr_newl (n := 13) rfl rfl (by decide) ?_
  rw [l]
  have cA : (h ++ [am_la 13 fun _ => 0])[a]? = some _ := (ap_lt (by omega)).trans c
  refine wr_putA (ci := 7) (f := 3) (fs' := [_, _, _, _, _, _, _, _, _, _]) rfl rfl rfl cA rfl rfl rfl (fun h1 e1 => ?_)
  have c1 : h1[a]? = some _ := (by rw [e1]; exact am_set_s cA)
  have l1 : h1.length = a + 4 := by rw [e1]; exact set_len (ap_len l)
  have m : ∀ i, i ≠ a → i < a + 3 → h1[i]? = h[i]? := fun i i1 i2 => by rw [e1, am_set_n (Ne.symm i1)]; exact ap_lt (by omega)
  have pN : h1[a + 3]? = some (am_la 13 Z0) := (by rw [e1, am_set_n (by omega)]; exact ap_la l)
  exact cs_8_3 l1 c1 (fun i hi => (m i (by omega) (by omega)).trans (T i hi)) ((m (a + 1) (by omega) (by omega)).trans p0) ((m (a + 2) (by omega) (by omega)).trans p1) pN
theorem cs_8_1 {d : Nat} {h0 h : am_H} {sg : Int} (l : h.length = a + 2) (c : h[a]? = some (.inr (7, [.int 0, .ref (a + 1), .null, .null, .null, .null, .int 0, .int 0, .null, .null]))) (T : ∀ i, i < a → h[i]? = h0[i]?) (p0 : h[a + 1]? = some (am_ia 13 Z0)) : am_w X (d + 2) 8 (12, [.ref a, .int (iI sg)], [], h) (fun r h' => r = none ∧ h'.length = a + 16 ∧ ex a h0 h' ∧ isS h' a (sg) 0 0 Z0 Z0 Z0 Z0 Z0 0 0) := by
  refine wr_aload_n rfl rfl rfl ?_
  refine wr_bipush rfl rfl (by decide) ?_
  refine wr_newl (n := 13) rfl rfl (by decide) ?_
  rw [l]
  have cA : (h ++ [am_la 13 fun _ => 0])[a]? = some _ := (ap_lt (by omega)).trans c
  refine wr_putA (ci := 7) (f := 2) (fs' := [_, _, _, _, _, _, _, _, _, _]) rfl rfl rfl cA rfl rfl rfl (fun h1 e1 => ?_)
  have c1 : h1[a]? = some _ := (by rw [e1]; exact am_set_s cA)
  have l1 : h1.length = a + 3 := by rw [e1]; exact set_len (ap_len l)
  have m : ∀ i, i ≠ a → i < a + 2 → h1[i]? = h[i]? := fun i i1 i2 => by rw [e1, am_set_n (Ne.symm i1)]; exact ap_lt (by omega)
  have pN : h1[a + 2]? = some (am_la 13 Z0) := (by rw [e1, am_set_n (by omega)]; exact ap_la l)
  exact cs_8_2 l1 c1 (fun i hi => (m i (by omega) (by omega)).trans (T i hi)) ((m (a + 1) (by omega) (by omega)).trans p0) pN
theorem cs_8_0 {d : Nat} {h0 h : am_H} {sg : Int} (l : h.length = a + 1) (c : h[a]? = some (.inr (7, [.int 0, .null, .null, .null, .null, .null, .int 0, .int 0, .null, .null]))) (T : ∀ i, i < a → h[i]? = h0[i]?)  : am_w X (d + 2) 8 (4, [.ref a, .int (iI sg)], [], h) (fun r h' => r = none ∧ h'.length = a + 16 ∧ ex a h0 h' ∧ isS h' a (sg) 0 0 Z0 Z0 Z0 Z0 Z0 0 0) := by
  refine wr_aload_n rfl rfl rfl ?_
  refine wr_bipush rfl rfl (by decide) ?_
  refine wr_newi (n := 13) rfl rfl (by decide) ?_
  rw [l]
  have cA : (h ++ [am_ia 13 fun _ => 0])[a]? = some _ := (ap_lt (by omega)).trans c
  refine wr_putA (ci := 7) (f := 1) (fs' := [_, _, _, _, _, _, _, _, _, _]) rfl rfl rfl cA rfl rfl rfl (fun h1 e1 => ?_)
  have c1 : h1[a]? = some _ := (by rw [e1]; exact am_set_s cA)
  have l1 : h1.length = a + 2 := by rw [e1]; exact set_len (ap_len l)
  have m : ∀ i, i ≠ a → i < a + 1 → h1[i]? = h[i]? := fun i i1 i2 => by rw [e1, am_set_n (Ne.symm i1)]; exact ap_lt (by omega)
  have pN : h1[a + 1]? = some (am_ia 13 Z0) := (by rw [e1, am_set_n (by omega)]; exact ap_la l)
  exact cs_8_1 l1 c1 (fun i hi => (m i (by omega) (by omega)).trans (T i hi)) pN
theorem ct_side {d : Nat} (hc : h[a]? = some (.inr (7, am_dfl 7))) (hl : h.length = a + 1) {sg : Int} : am_c X (d + 3) 8 [.ref a, .int (iI sg)] h (fun r h' => r = none ∧ h'.length = a + 16 ∧ ex a h h' ∧ isS h' a (sg) 0 0 Z0 Z0 Z0 Z0 Z0 0 0) := by
  refine am_c.of (Nat.le_of_ble_eq_true rfl) ?_
  show am_w _ _ _ (_, [_, _], _, _) _
  refine wr_aload_n rfl rfl rfl ?_
  refine wr_oinit rfl rfl rfl rfl ?_
  exact cs_8_0 hl hc (fun _ _ => rfl)
theorem cs_7_3 {d : Nat} {h0 h : am_H}  (l : h.length = a + 34) (c : h[a]? = some (.inr (6, [.ref (a + 1), .ref (a + 17), .int 0, .ref (a + 33), .int 0]))) (T : ∀ i, i < a → h[i]? = h0[i]?) (p0 : isS h (a + 1) (-1) 0 0 Z0 Z0 Z0 Z0 Z0 0 0) (p1 : isS h (a + 17) (1) 0 0 Z0 Z0 Z0 Z0 Z0 0 0) (p2 : h[a + 33]? = some (am_ia 24 Z0)) : am_w X (d + 3) 7 (36, [.ref a], [], h) (fun r h' => r = none ∧ h'.length = a + 34 ∧ ex a h0 h' ∧ isSn h' a) := by
  refine wr_vret rfl rfl ?_
  exact ⟨rfl, l, T, ⟨c, p2⟩, p0, p1⟩
theorem cs_7_2 {d : Nat} {h0 h : am_H}  (l : h.length = a + 33) (c : h[a]? = some (.inr (6, [.ref (a + 1), .ref (a + 17), .int 0, .null, .int 0]))) (T : ∀ i, i < a → h[i]? = h0[i]?) (p0 : isS h (a + 1) (-1) 0 0 Z0 Z0 Z0 Z0 Z0 0 0) (p1 : isS h (a + 17) (1) 0 0 Z0 Z0 Z0 Z0 Z0 0 0) : am_w X (d + 3) 7 (28, [.ref a], [], h) (fun r h' => r = none ∧ h'.length = a + 34 ∧ ex a h0 h' ∧ isSn h' a) := by
  refine wr_aload_n rfl rfl rfl ?_
  refine wr_bipush rfl rfl (by decide) ?_
  refine wr_newi (n := 24) rfl rfl (by decide) ?_
  rw [l]
  have cA : (h ++ [am_ia 24 fun _ => 0])[a]? = some _ := (ap_lt (by omega)).trans c
  refine wr_putA (ci := 6) (f := 3) (fs' := [_, _, _, _, _]) rfl rfl rfl cA rfl rfl rfl (fun h1 e1 => ?_)
  have c1 : h1[a]? = some _ := (by rw [e1]; exact am_set_s cA)
  have l1 : h1.length = a + 34 := by rw [e1]; exact set_len (ap_len l)
  have m : ∀ i, i ≠ a → i < a + 33 → h1[i]? = h[i]? := fun i i1 i2 => by rw [e1, am_set_n (Ne.symm i1)]; exact ap_lt (by omega)
  have pN : h1[a + 33]? = some (am_ia 24 Z0) := (by rw [e1, am_set_n (by omega)]; exact ap_la l)
  exact cs_7_3 l1 c1 (fun i hi => (m i (by omega) (by omega)).trans (T i hi)) (p0.same (lo := a + 1) (up := a + 16) (fun i i1 i2 => m i (by omega) (by omega)) (by omega)) (p1.same (lo := a + 17) (up := a + 32) (fun i i1 i2 => m i (by omega) (by omega)) (by omega)) pN
theorem cs_7_1 {d : Nat} {h0 h : am_H}  (l : h.length = a + 17) (c : h[a]? = some (.inr (6, [.ref (a + 1), .null, .int 0, .null, .int 0]))) (T : ∀ i, i < a → h[i]? = h0[i]?) (p0 : isS h (a + 1) (-1) 0 0 Z0 Z0 Z0 Z0 Z0 0 0) : am_w X (d + 3) 7 (16, [.ref a], [], h) (fun r h' => r = none ∧ h'.length = a + 34 ∧ ex a h0 h' ∧ isSn h' a) := by
  refine wr_aload_n rfl rfl rfl ?_
  refine wr_new rfl rfl rfl ?_
  rw [l]
  have cA : (h ++ [.inr (7, am_dfl 7)])[a]? = some _ := (ap_lt (by omega)).trans c
  refine wr_dup rfl rfl ?_
  refine wr_iconst rfl rfl ?_
  refine wr_ci1 (k' := 8) rfl rfl rfl rfl rfl (ct_side (sg := 1) (ap_la l) (ap_len l)) (fun r hX q => ?_)
  obtain ⟨rfl, lX, x1, pX⟩ := q
  dsimp only [Option.toList, List.nil_append]
  have cX : hX[a]? = some _ := (x1 a (by omega)).trans cA
  refine wr_putR (ci := 6) (f := 1) (fs' := [_, _, _, _, _]) rfl rfl rfl cX rfl rfl rfl (fun h1 e1 => ?_)
  have c1 : h1[a]? = some _ := (by rw [e1]; exact am_set_s cX)
  have l1 : h1.length = a + 33 := by rw [e1]; exact set_len (by rw [lX])
  have m : ∀ i, i ≠ a → i < a + 17 → h1[i]? = h[i]? := fun i i1 i2 => by rw [e1, am_set_n (Ne.symm i1)]; exact (x1 i (by omega)).trans (ap_lt (by omega))
  have pN : isS h1 (a + 17) (1) 0 0 Z0 Z0 Z0 Z0 Z0 0 0 := pX.same (lo := a + 17) (up := a + 32) (fun i i1 i2 => by rw [e1, am_set_n (by omega)]) (by omega)
  exact cs_7_2 l1 c1 (fun i hi => (m i (by omega) (by omega)).trans (T i hi)) (p0.same (lo := a + 1) (up := a + 16) (fun i i1 i2 => m i (by omega) (by omega)) (by omega)) pN
theorem cs_7_0 {d : Nat} {h0 h : am_H}  (l : h.length = a + 1) (c : h[a]? = some (.inr (6, [.null, .null, .int 0, .null, .int 0]))) (T : ∀ i, i < a → h[i]? = h0[i]?)  : am_w X (d + 3) 7 (4, [.ref a], [], h) (fun r h' => r = none ∧ h'.length = a + 34 ∧ ex a h0 h' ∧ isSn h' a) := by
  refine wr_aload_n rfl rfl rfl ?_
  refine wr_new rfl rfl rfl ?_
  rw [l]
  have cA : (h ++ [.inr (7, am_dfl 7)])[a]? = some _ := (ap_lt (by omega)).trans c
  refine wr_dup rfl rfl ?_
  refine wr_iconst rfl rfl ?_
  refine wr_ci1 (k' := 8) rfl rfl rfl rfl rfl (ct_side (sg := -1) (ap_la l) (ap_len l)) (fun r hX q => ?_)
  obtain ⟨rfl, lX, x1, pX⟩ := q
  dsimp only [Option.toList, List.nil_append]
  have cX : hX[a]? = some _ := (x1 a (by omega)).trans cA
  refine wr_putR (ci := 6) (f := 0) (fs' := [_, _, _, _, _]) rfl rfl rfl cX rfl rfl rfl (fun h1 e1 => ?_)
  have c1 : h1[a]? = some _ := (by rw [e1]; exact am_set_s cX)
  have l1 : h1.length = a + 17 := by rw [e1]; exact set_len (by rw [lX])
  have m : ∀ i, i ≠ a → i < a + 1 → h1[i]? = h[i]? := fun i i1 i2 => by rw [e1, am_set_n (Ne.symm i1)]; exact (x1 i (by omega)).trans (ap_lt (by omega))
  have pN : isS h1 (a + 1) (-1) 0 0 Z0 Z0 Z0 Z0 Z0 0 0 := pX.same (lo := a + 1) (up := a + 16) (fun i i1 i2 => by rw [e1, am_set_n (by omega)]) (by omega)
  exact cs_7_1 l1 c1 (fun i hi => (m i (by omega) (by omega)).trans (T i hi)) pN
theorem ct_sect {d : Nat} (hc : h[a]? = some (.inr (6, am_dfl 6))) (hl : h.length = a + 1)  : am_c X (d + 4) 7 [.ref a] h (fun r h' => r = none ∧ h'.length = a + 34 ∧ ex a h h' ∧ isSn h' a) := by
  refine am_c.of (Nat.le_of_ble_eq_true rfl) ?_
  show am_w _ _ _ (_, [_], _, _) _
  refine wr_aload_n rfl rfl rfl ?_
  refine wr_oinit rfl rfl rfl rfl ?_
  exact cs_7_0 hl hc (fun _ _ => rfl)
theorem cs_13_5 {d : Nat} {h0 h : am_H}  (l : h.length = a + 14) (c : h[a]? = some (.inr (11, [.ref (a + 1), .ref (a + 3), .ref (a + 5), .ref (a + 7), .ref (a + 9)]))) (T : ∀ i, i < a → h[i]? = h0[i]?) (p0 : isW h (a + 1) ((a + 1) + 1) 16 0) (p1 : isW h (a + 3) ((a + 3) + 1) 16 0) (p2 : isW h (a + 5) ((a + 5) + 1) 16 0) (p3 : isW h (a + 7) ((a + 7) + 1) 16 0) (p4 : isF h (a + 9) 16 0) : am_w X (d + 2) 13 (69, [.ref a], [], h) (fun r h' => r = none ∧ h'.length = a + 14 ∧ ex a h0 h' ∧ isEw h' a) := by
  refine wr_vret rfl rfl ?_
  exact ⟨rfl, l, T, c, p0, p1, p2, p3, p4⟩
theorem cs_13_4 {d : Nat} {h0 h : am_H}  (l : h.length = a + 9) (c : h[a]? = some (.inr (11, [.ref (a + 1), .ref (a + 3), .ref (a + 5), .ref (a + 7), .null]))) (T : ∀ i, i < a → h[i]? = h0[i]?) (p0 : isW h (a + 1) ((a + 1) + 1) 16 0) (p1 : isW h (a + 3) ((a + 3) + 1) 16 0) (p2 : isW h (a + 5) ((a + 5) + 1) 16 0) (p3 : isW h (a + 7) ((a + 7) + 1) 16 0) : am_w X (d + 2) 13 (56, [.ref a], [], h) (fun r h' => r = none ∧ h'.length = a + 14 ∧ ex a h0 h' ∧ isEw h' a) := by
  refine wr_aload_n rfl rfl rfl ?_
  refine wr_new rfl rfl rfl ?_
  rw [l]
  have cA : (h ++ [.inr (8, am_dfl 8)])[a]? = some _ := (ap_lt (by omega)).trans c
  refine wr_dup rfl rfl ?_
  refine wr_bipush rfl rfl (by decide) ?_
  refine wr_ci1 (k' := 9) rfl rfl rfl rfl rfl (ct_frac (cap := 16) (ap_la l) (ap_len l) (by decide)) (fun r hX q => ?_)
  obtain ⟨rfl, lX, x1, pX⟩ := q
  dsimp only [Option.toList, List.nil_append]
  have cX : hX[a]? = some _ := (x1 a (by omega)).trans cA
  refine wr_putR (ci := 11) (f := 4) (fs' := [_, _, _, _, _]) rfl rfl rfl cX rfl rfl rfl (fun h1 e1 => ?_)
  have c1 : h1[a]? = some _ := (by rw [e1]; exact am_set_s cX)
  have l1 : h1.length = a + 14 := by rw [e1]; exact set_len (by rw [lX])
  have m : ∀ i, i ≠ a → i < a + 9 → h1[i]? = h[i]? := fun i i1 i2 => by rw [e1, am_set_n (Ne.symm i1)]; exact (x1 i (by omega)).trans (ap_lt (by omega))
  have pN : isF h1 (a + 9) 16 0 := pX.same (lo := a + 9) (hi := a + 13) (fun i i1 i2 => by rw [e1, am_set_n (by omega)]) (by omega)
  exact cs_13_5 l1 c1 (fun i hi => (m i (by omega) (by omega)).trans (T i hi)) (p0.same (lo := a + 1) (hi := a + 2) (fun i i1 i2 => m i (by omega) (by omega)) (by omega) (by omega)) (p1.same (lo := a + 3) (hi := a + 4) (fun i i1 i2 => m i (by omega) (by omega)) (by omega) (by omega)) (p2.same (lo := a + 5) (hi := a + 6) (fun i i1 i2 => m i (by omega) (by omega)) (by omega) (by omega)) (p3.same (lo := a + 7) (hi := a + 8) (fun i i1 i2 => m i (by omega) (by omega)) (by omega) (by omega)) pN
theorem cs_13_3 {d : Nat} {h0 h : am_H}  (l : h.length = a + 7) (c : h[a]? = some (.inr (11, [.ref (a + 1), .ref (a + 3), .ref (a + 5), .null, .null]))) (T : ∀ i, i < a → h[i]? = h0[i]?) (p0 : isW h (a + 1) ((a + 1) + 1) 16 0) (p1 : isW h (a + 3) ((a + 3) + 1) 16 0) (p2 : isW h (a + 5) ((a + 5) + 1) 16 0) : am_w X (d + 2) 13 (43, [.ref a], [], h) (fun r h' => r = none ∧ h'.length = a + 14 ∧ ex a h0 h' ∧ isEw h' a) := by
  refine wr_aload_n rfl rfl rfl ?_
  refine wr_new rfl rfl rfl ?_
  rw [l]
  have cA : (h ++ [.inr (5, am_dfl 5)])[a]? = some _ := (ap_lt (by omega)).trans c
  refine wr_dup rfl rfl ?_
  refine wr_bipush rfl rfl (by decide) ?_
  refine wr_ci1 (k' := 5) rfl rfl rfl rfl rfl (ct_whole (cap := 16) (ap_la l) (ap_len l) (by decide)) (fun r hX q => ?_)
  obtain ⟨rfl, lX, x1, pX⟩ := q
  dsimp only [Option.toList, List.nil_append]
  have cX : hX[a]? = some _ := (x1 a (by omega)).trans cA
  refine wr_putR (ci := 11) (f := 3) (fs' := [_, _, _, _, _]) rfl rfl rfl cX rfl rfl rfl (fun h1 e1 => ?_)
  have c1 : h1[a]? = some _ := (by rw [e1]; exact am_set_s cX)
  have l1 : h1.length = a + 9 := by rw [e1]; exact set_len (by rw [lX])
  have m : ∀ i, i ≠ a → i < a + 7 → h1[i]? = h[i]? := fun i i1 i2 => by rw [e1, am_set_n (Ne.symm i1)]; exact (x1 i (by omega)).trans (ap_lt (by omega))
  have pN : isW h1 (a + 7) ((a + 7) + 1) 16 0 := pX.same (lo := a + 7) (hi := a + 8) (fun i i1 i2 => by rw [e1, am_set_n (by omega)]) (by omega) (by omega)
  exact cs_13_4 l1 c1 (fun i hi => (m i (by omega) (by omega)).trans (T i hi)) (p0.same (lo := a + 1) (hi := a + 2) (fun i i1 i2 => m i (by omega) (by omega)) (by omega) (by omega)) (p1.same (lo := a + 3) (hi := a + 4) (fun i i1 i2 => m i (by omega) (by omega)) (by omega) (by omega)) (p2.same (lo := a + 5) (hi := a + 6) (fun i i1 i2 => m i (by omega) (by omega)) (by omega) (by omega)) pN
theorem cs_13_2 {d : Nat} {h0 h : am_H}  (l : h.length = a + 5) (c : h[a]? = some (.inr (11, [.ref (a + 1), .ref (a + 3), .null, .null, .null]))) (T : ∀ i, i < a → h[i]? = h0[i]?) (p0 : isW h (a + 1) ((a + 1) + 1) 16 0) (p1 : isW h (a + 3) ((a + 3) + 1) 16 0) : am_w X (d + 2) 13 (30, [.ref a], [], h) (fun r h' => r = none ∧ h'.length = a + 14 ∧ ex a h0 h' ∧ isEw h' a) := by
  refine wr_aload_n rfl rfl rfl ?_
  refine wr_new rfl rfl rfl ?_
  rw [l]
  have cA : (h ++ [.inr (5, am_dfl 5)])[a]? = some _ := (ap_lt (by omega)).trans c
  refine wr_dup rfl rfl ?_
  refine wr_bipush rfl rfl (by decide) ?_
  refine wr_ci1 (k' := 5) rfl rfl rfl rfl rfl (ct_whole (cap := 16) (ap_la l) (ap_len l) (by decide)) (fun r hX q => ?_)
  obtain ⟨rfl, lX, x1, pX⟩ := q
  dsimp only [Option.toList, List.nil_append]
  have cX : hX[a]? = some _ := (x1 a (by omega)).trans cA
  refine wr_putR (ci := 11) (f := 2) (fs' := [_, _, _, _, _]) rfl rfl rfl cX rfl rfl rfl (fun h1 e1 => ?_)
  have c1 : h1[a]? = some _ := (by rw [e1]; exact am_set_s cX)
  have l1 : h1.length = a + 7 := by rw [e1]; exact set_len (by rw [lX])
  have m : ∀ i, i ≠ a → i < a + 5 → h1[i]? = h[i]? := fun i i1 i2 => by rw [e1, am_set_n (Ne.symm i1)]; exact (x1 i (by omega)).trans (ap_lt (by omega))
  have pN : isW h1 (a + 5) ((a + 5) + 1) 16 0 := pX.same (lo := a + 5) (hi := a + 6) (fun i i1 i2 => by rw [e1, am_set_n (by omega)]) (by omega) (by omega)
  exact cs_13_3 l1 c1 (fun i hi => (m i (by omega) (by omega)).trans (T i hi)) (p0.same (lo := a + 1) (hi := a + 2) (fun i i1 i2 => m i (by omega) (by omega)) (by omega) (by omega)) (p1.same (lo := a + 3) (hi := a + 4) (fun i i1 i2 => m i (by omega) (by omega)) (by omega) (by omega)) pN
theorem cs_13_1 {d : Nat} {h0 h : am_H}  (l : h.length = a + 3) (c : h[a]? = some (.inr (11, [.ref (a + 1), .null, .null, .null, .null]))) (T : ∀ i, i < a → h[i]? = h0[i]?) (p0 : isW h (a + 1) ((a + 1) + 1) 16 0) : am_w X (d + 2) 13 (17, [.ref a], [], h) (fun r h' => r = none ∧ h'.length = a + 14 ∧ ex a h0 h' ∧ isEw h' a) := by
  refine wr_aload_n rfl rfl rfl ?_
  refine wr_new rfl rfl rfl ?_
  rw [l]
  have cA : (h ++ [.inr (5, am_dfl 5)])[a]? = some _ := (ap_lt (by omega)).trans c
  refine wr_dup rfl rfl ?_
  refine wr_bipush rfl rfl (by decide) ?_
  refine wr_ci1 (k' := 5) rfl rfl rfl rfl rfl (ct_whole (cap := 16) (ap_la l) (ap_len l) (by decide)) (fun r hX q => ?_)
  obtain ⟨rfl, lX, x1, pX⟩ := q
  dsimp only [Option.toList, List.nil_append]
  have cX : hX[a]? = some _ := (x1 a (by omega)).trans cA
  refine wr_putR (ci := 11) (f := 1) (fs' := [_, _, _, _, _]) rfl rfl rfl cX rfl rfl rfl (fun h1 e1 => ?_)
  have c1 : h1[a]? = some _ := (by rw [e1]; exact am_set_s cX)
  have l1 : h1.length = a + 5 := by rw [e1]; exact set_len (by rw [lX])
  have m : ∀ i, i ≠ a → i < a + 3 → h1[i]? = h[i]? := fun i i1 i2 => by rw [e1, am_set_n (Ne.symm i1)]; exact (x1 i (by omega)).trans (ap_lt (by omega))
  have pN : isW h1 (a + 3) ((a + 3) + 1) 16 0 := pX.same (lo := a + 3) (hi := a + 4) (fun i i1 i2 => by rw [e1, am_set_n (by omega)]) (by omega) (by omega)
  exact cs_13_2 l1 c1 (fun i hi => (m i (by omega) (by omega)).trans (T i hi)) (p0.same (lo := a + 1) (hi := a + 2) (fun i i1 i2 => m i (by omega) (by omega)) (by omega) (by omega)) pN
theorem cs_13_0 {d : Nat} {h0 h : am_H}  (l : h.length = a + 1) (c : h[a]? = some (.inr (11, [.null, .null, .null, .null, .null]))) (T : ∀ i, i < a → h[i]? = h0[i]?)  : am_w X (d + 2) 13 (4, [.ref a], [], h) (fun r h' => r = none ∧ h'.length = a + 14 ∧ ex a h0 h' ∧ isEw h' a) := by
  refine wr_aload_n rfl rfl rfl ?_
  refine wr_new rfl rfl rfl ?_
  rw [l]
  have cA : (h ++ [.inr (5, am_dfl 5)])[a]? = some _ := (ap_lt (by omega)).trans c
  refine wr_dup rfl rfl ?_
  refine wr_bipush rfl rfl (by decide) ?_
  refine wr_ci1 (k' := 5) rfl rfl rfl rfl rfl (ct_whole (cap := 16) (ap_la l) (ap_len l) (by decide)) (fun r hX q => ?_)
  obtain ⟨rfl, lX, x1, pX⟩ := q
  dsimp only [Option.toList, List.nil_append]
  have cX : hX[a]? = some _ := (x1 a (by omega)).trans cA
  refine wr_putR (ci := 11) (f := 0) (fs' := [_, _, _, _, _]) rfl rfl rfl cX rfl rfl rfl (fun h1 e1 => ?_)
  have c1 : h1[a]? = some _ := (by rw [e1]; exact am_set_s cX)
  have l1 : h1.length = a + 3 := by rw [e1]; exact set_len (by rw [lX])
  have m : ∀ i, i ≠ a → i < a + 1 → h1[i]? = h[i]? := fun i i1 i2 => by rw [e1, am_set_n (Ne.symm i1)]; exact (x1 i (by omega)).trans (ap_lt (by omega))
  have pN : isW h1 (a + 1) ((a + 1) + 1) 16 0 := pX.same (lo := a + 1) (hi := a + 2) (fun i i1 i2 => by rw [e1, am_set_n (by omega)]) (by omega) (by omega)
  exact cs_13_1 l1 c1 (fun i hi => (m i (by omega) (by omega)).trans (T i hi)) pN
theorem ct_earth {d : Nat} (hc : h[a]? = some (.inr (11, am_dfl 11))) (hl : h.length = a + 1)  : am_c X (d + 3) 13 [.ref a] h (fun r h' => r = none ∧ h'.length = a + 14 ∧ ex a h h' ∧ isEw h' a) := by
  refine am_c.of (Nat.le_of_ble_eq_true rfl) ?_
  show am_w _ _ _ (_, [_], _, _) _
  refine wr_aload_n rfl rfl rfl ?_
  refine wr_oinit rfl rfl rfl rfl ?_
  exact cs_13_0 hl hc (fun _ _ => rfl)
end CT2
