section CT2
variable {X : Nat × (Nat → Int32)} {h h' : am_H} {a : Nat}
theorem cs_11_7 {d : Nat} {h0 h : am_H} {s g r0 sd : Nat} {fs : List Value} (hs : h0[s]? = some (.inr (6, fs))) (hs0 : fs[0]? = some (.ref sd)) (sa : s < a) (l : h.length = a + 16) (c : h[a]? = some (.inr (9, [.ref s, .ref g, .ref r0, .ref sd, .ref (a + 1), .ref (a + 6), .ref (a + 11)]))) (T : ∀ i, i < a → h[i]? = h0[i]?) (p0 : isF h (a + 1) 16 0) (p1 : isF h (a + 6) 16 0) (p2 : isF h (a + 11) 16 0) : am_w X (d + 2) 11 (66, [.ref a, .ref s, .ref g, .ref r0], [], h) (fun r h' => r = none ∧ h'.length = a + 16 ∧ ex a h0 h' ∧ isWk h' a s g r0 sd) := by
  refine wr_vret rfl rfl ?_
  exact ⟨rfl, l, T, c, p0, p1, p2⟩
theorem cs_11_6 {d : Nat} {h0 h : am_H} {s g r0 sd : Nat} {fs : List Value} (hs : h0[s]? = some (.inr (6, fs))) (hs0 : fs[0]? = some (.ref sd)) (sa : s < a) (l : h.length = a + 16) (c : h[a]? = some (.inr (9, [.ref s, .ref g, .ref r0, .null, .ref (a + 1), .ref (a + 6), .ref (a + 11)]))) (T : ∀ i, i < a → h[i]? = h0[i]?) (p0 : isF h (a + 1) 16 0) (p1 : isF h (a + 6) 16 0) (p2 : isF h (a + 11) 16 0) : am_w X (d + 2) 11 (58, [.ref a, .ref s, .ref g, .ref r0], [], h) (fun r h' => r = none ∧ h'.length = a + 16 ∧ ex a h0 h' ∧ isWk h' a s g r0 sd) := by
  have cS : h[s]? = some (.inr (6, fs)) := (T s (by omega)).trans hs
  refine wr_aload_n rfl rfl rfl ?_
  refine wr_aload_n rfl rfl rfl ?_
  refine wr_get (ci := 6) (f := 0) rfl rfl rfl cS hs0 ?_
  refine wr_putR (ci := 9) (f := 3) (fs' := [_, _, _, _, _, _, _]) rfl rfl rfl c rfl rfl rfl (fun h1 e1 => ?_)
  have c1 : h1[a]? = some _ := (by rw [e1]; exact am_set_s c)
  have l1 : h1.length = a + 16 := by rw [e1]; exact set_len l
  have m : ∀ i, i ≠ a → i < a + 16 → h1[i]? = h[i]? := fun i i1 i2 => by rw [e1, am_set_n (Ne.symm i1)]
  exact cs_11_7 hs hs0 sa l1 c1 (fun i hi => (m i (by omega) (by omega)).trans (T i hi)) (p0.same (lo := a + 1) (hi := a + 5) (fun i i1 i2 => m i (by omega) (by omega)) (by omega)) (p1.same (lo := a + 6) (hi := a + 10) (fun i i1 i2 => m i (by omega) (by omega)) (by omega)) (p2.same (lo := a + 11) (hi := a + 15) (fun i i1 i2 => m i (by omega) (by omega)) (by omega))
theorem cs_11_5 {d : Nat} {h0 h : am_H} {s g r0 sd : Nat} {fs : List Value} (hs : h0[s]? = some (.inr (6, fs))) (hs0 : fs[0]? = some (.ref sd)) (sa : s < a) (l : h.length = a + 16) (c : h[a]? = some (.inr (9, [.ref s, .ref g, .null, .null, .ref (a + 1), .ref (a + 6), .ref (a + 11)]))) (T : ∀ i, i < a → h[i]? = h0[i]?) (p0 : isF h (a + 1) 16 0) (p1 : isF h (a + 6) 16 0) (p2 : isF h (a + 11) 16 0) : am_w X (d + 2) 11 (53, [.ref a, .ref s, .ref g, .ref r0], [], h) (fun r h' => r = none ∧ h'.length = a + 16 ∧ ex a h0 h' ∧ isWk h' a s g r0 sd) := by
  refine wr_aload_n rfl rfl rfl ?_
  refine wr_aload_n rfl rfl rfl ?_
  refine wr_putR (ci := 9) (f := 2) (fs' := [_, _, _, _, _, _, _]) rfl rfl rfl c rfl rfl rfl (fun h1 e1 => ?_)
  have c1 : h1[a]? = some _ := (by rw [e1]; exact am_set_s c)
  have l1 : h1.length = a + 16 := by rw [e1]; exact set_len l
  have m : ∀ i, i ≠ a → i < a + 16 → h1[i]? = h[i]? := fun i i1 i2 => by rw [e1, am_set_n (Ne.symm i1)]
  exact cs_11_6 hs hs0 sa l1 c1 (fun i hi => (m i (by omega) (by omega)).trans (T i hi)) (p0.same (lo := a + 1) (hi := a + 5) (fun i i1 i2 => m i (by omega) (by omega)) (by omega)) (p1.same (lo := a + 6) (hi := a + 10) (fun i i1 i2 => m i (by omega) (by omega)) (by omega)) (p2.same (lo := a + 11) (hi := a + 15) (fun i i1 i2 => m i (by omega) (by omega)) (by omega))
theorem cs_11_4 {d : Nat} {h0 h : am_H} {s g r0 sd : Nat} {fs : List Value} (hs : h0[s]? = some (.inr (6, fs))) (hs0 : fs[0]? = some (.ref sd)) (sa : s < a) (l : h.length = a + 16) (c : h[a]? = some (.inr (9, [.ref s, .null, .null, .null, .ref (a + 1), .ref (a + 6), .ref (a + 11)]))) (T : ∀ i, i < a → h[i]? = h0[i]?) (p0 : isF h (a + 1) 16 0) (p1 : isF h (a + 6) 16 0) (p2 : isF h (a + 11) 16 0) : am_w X (d + 2) 11 (48, [.ref a, .ref s, .ref g, .ref r0], [], h) (fun r h' => r = none ∧ h'.length = a + 16 ∧ ex a h0 h' ∧ isWk h' a s g r0 sd) := by
  refine wr_aload_n rfl rfl rfl ?_
  refine wr_aload_n rfl rfl rfl ?_
  refine wr_putR (ci := 9) (f := 1) (fs' := [_, _, _, _, _, _, _]) rfl rfl rfl c rfl rfl rfl (fun h1 e1 => ?_)
  have c1 : h1[a]? = some _ := (by rw [e1]; exact am_set_s c)
  have l1 : h1.length = a + 16 := by rw [e1]; exact set_len l
  have m : ∀ i, i ≠ a → i < a + 16 → h1[i]? = h[i]? := fun i i1 i2 => by rw [e1, am_set_n (Ne.symm i1)]
  exact cs_11_5 hs hs0 sa l1 c1 (fun i hi => (m i (by omega) (by omega)).trans (T i hi)) (p0.same (lo := a + 1) (hi := a + 5) (fun i i1 i2 => m i (by omega) (by omega)) (by omega)) (p1.same (lo := a + 6) (hi := a + 10) (fun i i1 i2 => m i (by omega) (by omega)) (by omega)) (p2.same (lo := a + 11) (hi := a + 15) (fun i i1 i2 => m i (by omega) (by omega)) (by omega))
theorem cs_11_3 {d : Nat} {h0 h : am_H} {s g r0 sd : Nat} {fs : List Value} (hs : h0[s]? = some (.inr (6, fs))) (hs0 : fs[0]? = some (.ref sd)) (sa : s < a) (l : h.length = a + 16) (c : h[a]? = some (.inr (9, [.null, .null, .null, .null, .ref (a + 1), .ref (a + 6), .ref (a + 11)]))) (T : ∀ i, i < a → h[i]? = h0[i]?) (p0 : isF h (a + 1) 16 0) (p1 : isF h (a + 6) 16 0) (p2 : isF h (a + 11) 16 0) : am_w X (d + 2) 11 (43, [.ref a, .ref s, .ref g, .ref r0], [], h) (fun r h' => r = none ∧ h'.length = a + 16 ∧ ex a h0 h' ∧ isWk h' a s g r0 sd) := by
  refine wr_aload_n rfl rfl rfl ?_
  refine wr_aload_n rfl rfl rfl ?_
  refine wr_putR (ci := 9) (f := 0) (fs' := [_, _, _, _, _, _, _]) rfl rfl rfl c rfl rfl rfl (fun h1 e1 => ?_)
  have c1 : h1[a]? = some _ := (by rw [e1]; exact am_set_s c)
  have l1 : h1.length = a + 16 := by rw [e1]; exact set_len l
  have m : ∀ i, i ≠ a → i < a + 16 → h1[i]? = h[i]? := fun i i1 i2 => by rw [e1, am_set_n (Ne.symm i1)]
  exact cs_11_4 hs hs0 sa l1 c1 (fun i hi => (m i (by omega) (by omega)).trans (T i hi)) (p0.same (lo := a + 1) (hi := a + 5) (fun i i1 i2 => m i (by omega) (by omega)) (by omega)) (p1.same (lo := a + 6) (hi := a + 10) (fun i i1 i2 => m i (by omega) (by omega)) (by omega)) (p2.same (lo := a + 11) (hi := a + 15) (fun i i1 i2 => m i (by omega) (by omega)) (by omega))
theorem cs_11_2 {d : Nat} {h0 h : am_H} {s g r0 sd : Nat} {fs : List Value} (hs : h0[s]? = some (.inr (6, fs))) (hs0 : fs[0]? = some (.ref sd)) (sa : s < a) (l : h.length = a + 11) (c : h[a]? = some (.inr (9, [.null, .null, .null, .null, .ref (a + 1), .ref (a + 6), .null]))) (T : ∀ i, i < a → h[i]? = h0[i]?) (p0 : isF h (a + 1) 16 0) (p1 : isF h (a + 6) 16 0) : am_w X (d + 2) 11 (30, [.ref a, .ref s, .ref g, .ref r0], [], h) (fun r h' => r = none ∧ h'.length = a + 16 ∧ ex a h0 h' ∧ isWk h' a s g r0 sd) := by
  refine wr_aload_n rfl rfl rfl ?_
  refine wr_new rfl rfl rfl ?_
  rw [l]
  have cA : (h ++ [.inr (8, am_dfl 8)])[a]? = some _ := (ap_lt (by omega)).trans c
  refine wr_dup rfl rfl ?_
  refine wr_bipush rfl rfl (by decide) ?_
  refine wr_ci1 (k' := 9) rfl rfl rfl rfl rfl (ct_frac (cap := 16) (ap_la l) (ap_len l) (by decide)) (fun r hX q => ?_)
  obtain ⟨rfl, lX, x1, pX⟩ := q
  dsimp only [Option.toList, List.nil_append]
  have cX : hX[a]? = some _ := (x1 a (by omega)).trans cA
  refine wr_putR (ci := 9) (f := 6) (fs' := [_, _, _, _, _, _, _]) rfl rfl rfl cX rfl rfl rfl (fun h1 e1 => ?_)
  have c1 : h1[a]? = some _ := (by rw [e1]; exact am_set_s cX)
  have l1 : h1.length = a + 16 := by rw [e1]; exact set_len (by rw [lX])
  have m : ∀ i, i ≠ a → i < a + 11 → h1[i]? = h[i]? := fun i i1 i2 => by rw [e1, am_set_n (Ne.symm i1)]; exact (x1 i (by omega)).trans (ap_lt (by omega))
  have pN : isF h1 (a + 11) 16 0 := pX.same (lo := a + 11) (hi := a + 15) (fun i i1 i2 => by rw [e1, am_set_n (by omega)]) (by omega)
  exact cs_11_3 hs hs0 sa l1 c1 (fun i hi => (m i (by omega) (by omega)).trans (T i hi)) (p0.same (lo := a + 1) (hi := a + 5) (fun i i1 i2 => m i (by omega) (by omega)) (by omega)) (p1.same (lo := a + 6) (hi := a + 10) (fun i i1 i2 => m i (by omega) (by omega)) (by omega)) pN
theorem cs_11_1 {d : Nat} {h0 h : am_H} {s g r0 sd : Nat} {fs : List Value} (hs : h0[s]? = some (.inr (6, fs))) (hs0 : fs[0]? = some (.ref sd)) (sa : s < a) (l : h.length = a + 6) (c : h[a]? = some (.inr (9, [.null, .null, .null, .null, .ref (a + 1), .null, .null]))) (T : ∀ i, i < a → h[i]? = h0[i]?) (p0 : isF h (a + 1) 16 0) : am_w X (d + 2) 11 (17, [.ref a, .ref s, .ref g, .ref r0], [], h) (fun r h' => r = none ∧ h'.length = a + 16 ∧ ex a h0 h' ∧ isWk h' a s g r0 sd) := by
  refine wr_aload_n rfl rfl rfl ?_
  refine wr_new rfl rfl rfl ?_
  rw [l]
  have cA : (h ++ [.inr (8, am_dfl 8)])[a]? = some _ := (ap_lt (by omega)).trans c
  refine wr_dup rfl rfl ?_
  refine wr_bipush rfl rfl (by decide) ?_
  refine wr_ci1 (k' := 9) rfl rfl rfl rfl rfl (ct_frac (cap := 16) (ap_la l) (ap_len l) (by decide)) (fun r hX q => ?_)
  obtain ⟨rfl, lX, x1, pX⟩ := q
  dsimp only [Option.toList, List.nil_append]
  have cX : hX[a]? = some _ := (x1 a (by omega)).trans cA
  refine wr_putR (ci := 9) (f := 5) (fs' := [_, _, _, _, _, _, _]) rfl rfl rfl cX rfl rfl rfl (fun h1 e1 => ?_)
  have c1 : h1[a]? = some _ := (by rw [e1]; exact am_set_s cX)
  have l1 : h1.length = a + 11 := by rw [e1]; exact set_len (by rw [lX])
  have m : ∀ i, i ≠ a → i < a + 6 → h1[i]? = h[i]? := fun i i1 i2 => by rw [e1, am_set_n (Ne.symm i1)]; exact (x1 i (by omega)).trans (ap_lt (by omega))
  have pN : isF h1 (a + 6) 16 0 := pX.same (lo := a + 6) (hi := a + 10) (fun i i1 i2 => by rw [e1, am_set_n (by omega)]) (by omega)
  exact cs_11_2 hs hs0 sa l1 c1 (fun i hi => (m i (by omega) (by omega)).trans (T i hi)) (p0.same (lo := a + 1) (hi := a + 5) (fun i i1 i2 => m i (by omega) (by omega)) (by omega)) pN
theorem cs_11_0 {d : Nat} {h0 h : am_H} {s g r0 sd : Nat} {fs : List Value} (hs : h0[s]? = some (.inr (6, fs))) (hs0 : fs[0]? = some (.ref sd)) (sa : s < a) (l : h.length = a + 1) (c : h[a]? = some (.inr (9, [.null, .null, .null, .null, .null, .null, .null]))) (T : ∀ i, i < a → h[i]? = h0[i]?)  : am_w X (d + 2) 11 (4, [.ref a, .ref s, .ref g, .ref r0], [], h) (fun r h' => r = none ∧ h'.length = a + 16 ∧ ex a h0 h' ∧ isWk h' a s g r0 sd) := by
  refine wr_aload_n rfl rfl rfl ?_
  refine wr_new rfl rfl rfl ?_
  rw [l]
  have cA : (h ++ [.inr (8, am_dfl 8)])[a]? = some _ := (ap_lt (by omega)).trans c
  refine wr_dup rfl rfl ?_
  refine wr_bipush rfl rfl (by decide) ?_
  refine wr_ci1 (k' := 9) rfl rfl rfl rfl rfl (ct_frac (cap := 16) (ap_la l) (ap_len l) (by decide)) (fun r hX q => ?_)
  obtain ⟨rfl, lX, x1, pX⟩ := q
  dsimp only [Option.toList, List.nil_append]
  have cX : hX[a]? = some _ := (x1 a (by omega)).trans cA
  refine wr_putR (ci := 9) (f := 4) (fs' := [_, _, _, _, _, _, _]) rfl rfl rfl cX rfl rfl rfl (fun h1 e1 => ?_)
  have c1 : h1[a]? = some _ := (by rw [e1]; exact am_set_s cX)
  have l1 : h1.length = a + 6 := by rw [e1]; exact set_len (by rw [lX])
  have m : ∀ i, i ≠ a → i < a + 1 → h1[i]? = h[i]? := fun i i1 i2 => by rw [e1, am_set_n (Ne.symm i1)]; exact (x1 i (by omega)).trans (ap_lt (by omega))
  have pN : isF h1 (a + 1) 16 0 := pX.same (lo := a + 1) (hi := a + 5) (fun i i1 i2 => by rw [e1, am_set_n (by omega)]) (by omega)
  exact cs_11_1 hs hs0 sa l1 c1 (fun i hi => (m i (by omega) (by omega)).trans (T i hi)) pN
theorem ct_walk {d : Nat} (hc : h[a]? = some (.inr (9, am_dfl 9))) (hl : h.length = a + 1) {s g r0 sd : Nat} {fs : List Value} (hs : h[s]? = some (.inr (6, fs))) (hs0 : fs[0]? = some (.ref sd)) (sa : s < a) : am_c X (d + 3) 11 [.ref a, .ref s, .ref g, .ref r0] h (fun r h' => r = none ∧ h'.length = a + 16 ∧ ex a h h' ∧ isWk h' a s g r0 sd) := by
  refine am_c.of (Nat.le_of_ble_eq_true rfl) ?_
  show am_w _ _ _ (_, [_, _, _, _], _, _) _
  refine wr_aload_n rfl rfl rfl ?_
  refine wr_oinit rfl rfl rfl rfl ?_
  exact cs_11_0 hs hs0 sa hl hc (fun _ _ => rfl)
theorem cs_12_11 {d : Nat} {h0 h : am_H} {s g r0 sd : Nat} {fs : List Value} (hs : h0[s]? = some (.inr (6, fs))) (hs0 : fs[0]? = some (.ref sd)) (sa : s < a) (l : h.length = a + 36) (c : h[a]? = some (.inr (10, [.ref s, .ref g, .ref r0, .ref (a + 1), .ref (a + 6), .int 0, .ref sd, .int 0, .long 0, .ref (a + 11), .ref (a + 16), .ref (a + 21), .ref (a + 26), .ref (a + 31)]))) (T : ∀ i, i < a → h[i]? = h0[i]?) (p0 : isF h (a + 1) 100 0) (p1 : isF h (a + 6) 100 0) (p2 : isF h (a + 11) 16 0) (p3 : isF h (a + 16) 16 0) (p4 : isF h (a + 21) 16 0) (p5 : isF h (a + 26) 16 0) (p6 : isF h (a + 31) 16 0) : am_w X (d + 2) 12 (118, [.ref a, .ref s, .ref g, .ref r0], [], h) (fun r h' => r = none ∧ h'.length = a + 36 ∧ ex a h0 h' ∧ isAs h' a s g r0 sd) := by
  refine wr_vret rfl rfl ?_
  exact ⟨rfl, l, T, c, p0, p1, p2, p3, p4, p5, p6⟩
theorem cs_12_10 {d : Nat} {h0 h : am_H} {s g r0 sd : Nat} {fs : List Value} (hs : h0[s]? = some (.inr (6, fs))) (hs0 : fs[0]? = some (.ref sd)) (sa : s < a) (l : h.length = a + 36) (c : h[a]? = some (.inr (10, [.ref s, .ref g, .ref r0, .ref (a + 1), .ref (a + 6), .int 0, .null, .int 0, .long 0, .ref (a + 11), .ref (a + 16), .ref (a + 21), .ref (a + 26), .ref (a + 31)]))) (T : ∀ i, i < a → h[i]? = h0[i]?) (p0 : isF h (a + 1) 100 0) (p1 : isF h (a + 6) 100 0) (p2 : isF h (a + 11) 16 0) (p3 : isF h (a + 16) 16 0) (p4 : isF h (a + 21) 16 0) (p5 : isF h (a + 26) 16 0) (p6 : isF h (a + 31) 16 0) : am_w X (d + 2) 12 (110, [.ref a, .ref s, .ref g, .ref r0], [], h) (fun r h' => r = none ∧ h'.length = a + 36 ∧ ex a h0 h' ∧ isAs h' a s g r0 sd) := by
  have cS : h[s]? = some (.inr (6, fs)) := (T s (by omega)).trans hs
  refine wr_aload_n rfl rfl rfl ?_
  refine wr_aload_n rfl rfl rfl ?_
  refine wr_get (ci := 6) (f := 0) rfl rfl rfl cS hs0 ?_
  refine wr_putR (ci := 10) (f := 6) (fs' := [_, _, _, _, _, _, _, _, _, _, _, _, _, _]) rfl rfl rfl c rfl rfl rfl (fun h1 e1 => ?_)
  have c1 : h1[a]? = some _ := (by rw [e1]; exact am_set_s c)
  have l1 : h1.length = a + 36 := by rw [e1]; exact set_len l
  have m : ∀ i, i ≠ a → i < a + 36 → h1[i]? = h[i]? := fun i i1 i2 => by rw [e1, am_set_n (Ne.symm i1)]
  exact cs_12_11 hs hs0 sa l1 c1 (fun i hi => (m i (by omega) (by omega)).trans (T i hi)) (p0.same (lo := a + 1) (hi := a + 5) (fun i i1 i2 => m i (by omega) (by omega)) (by omega)) (p1.same (lo := a + 6) (hi := a + 10) (fun i i1 i2 => m i (by omega) (by omega)) (by omega)) (p2.same (lo := a + 11) (hi := a + 15) (fun i i1 i2 => m i (by omega) (by omega)) (by omega)) (p3.same (lo := a + 16) (hi := a + 20) (fun i i1 i2 => m i (by omega) (by omega)) (by omega)) (p4.same (lo := a + 21) (hi := a + 25) (fun i i1 i2 => m i (by omega) (by omega)) (by omega)) (p5.same (lo := a + 26) (hi := a + 30) (fun i i1 i2 => m i (by omega) (by omega)) (by omega)) (p6.same (lo := a + 31) (hi := a + 35) (fun i i1 i2 => m i (by omega) (by omega)) (by omega))
theorem cs_12_9 {d : Nat} {h0 h : am_H} {s g r0 sd : Nat} {fs : List Value} (hs : h0[s]? = some (.inr (6, fs))) (hs0 : fs[0]? = some (.ref sd)) (sa : s < a) (l : h.length = a + 36) (c : h[a]? = some (.inr (10, [.ref s, .ref g, .null, .ref (a + 1), .ref (a + 6), .int 0, .null, .int 0, .long 0, .ref (a + 11), .ref (a + 16), .ref (a + 21), .ref (a + 26), .ref (a + 31)]))) (T : ∀ i, i < a → h[i]? = h0[i]?) (p0 : isF h (a + 1) 100 0) (p1 : isF h (a + 6) 100 0) (p2 : isF h (a + 11) 16 0) (p3 : isF h (a + 16) 16 0) (p4 : isF h (a + 21) 16 0) (p5 : isF h (a + 26) 16 0) (p6 : isF h (a + 31) 16 0) : am_w X (d + 2) 12 (105, [.ref a, .ref s, .ref g, .ref r0], [], h) (fun r h' => r = none ∧ h'.length = a + 36 ∧ ex a h0 h' ∧ isAs h' a s g r0 sd) := by
  refine wr_aload_n rfl rfl rfl ?_
  refine wr_aload_n rfl rfl rfl ?_
  refine wr_putR (ci := 10) (f := 2) (fs' := [_, _, _, _, _, _, _, _, _, _, _, _, _, _]) rfl rfl rfl c rfl rfl rfl (fun h1 e1 => ?_)
  have c1 : h1[a]? = some _ := (by rw [e1]; exact am_set_s c)
  have l1 : h1.length = a + 36 := by rw [e1]; exact set_len l
  have m : ∀ i, i ≠ a → i < a + 36 → h1[i]? = h[i]? := fun i i1 i2 => by rw [e1, am_set_n (Ne.symm i1)]
  exact cs_12_10 hs hs0 sa l1 c1 (fun i hi => (m i (by omega) (by omega)).trans (T i hi)) (p0.same (lo := a + 1) (hi := a + 5) (fun i i1 i2 => m i (by omega) (by omega)) (by omega)) (p1.same (lo := a + 6) (hi := a + 10) (fun i i1 i2 => m i (by omega) (by omega)) (by omega)) (p2.same (lo := a + 11) (hi := a + 15) (fun i i1 i2 => m i (by omega) (by omega)) (by omega)) (p3.same (lo := a + 16) (hi := a + 20) (fun i i1 i2 => m i (by omega) (by omega)) (by omega)) (p4.same (lo := a + 21) (hi := a + 25) (fun i i1 i2 => m i (by omega) (by omega)) (by omega)) (p5.same (lo := a + 26) (hi := a + 30) (fun i i1 i2 => m i (by omega) (by omega)) (by omega)) (p6.same (lo := a + 31) (hi := a + 35) (fun i i1 i2 => m i (by omega) (by omega)) (by omega))
theorem cs_12_8 {d : Nat} {h0 h : am_H} {s g r0 sd : Nat} {fs : List Value} (hs : h0[s]? = some (.inr (6, fs))) (hs0 : fs[0]? = some (.ref sd)) (sa : s < a) (l : h.length = a + 36) (c : h[a]? = some (.inr (10, [.ref s, .null, .null, .ref (a + 1), .ref (a + 6), .int 0, .null, .int 0, .long 0, .ref (a + 11), .ref (a + 16), .ref (a + 21), .ref (a + 26), .ref (a + 31)]))) (T : ∀ i, i < a → h[i]? = h0[i]?) (p0 : isF h (a + 1) 100 0) (p1 : isF h (a + 6) 100 0) (p2 : isF h (a + 11) 16 0) (p3 : isF h (a + 16) 16 0) (p4 : isF h (a + 21) 16 0) (p5 : isF h (a + 26) 16 0) (p6 : isF h (a + 31) 16 0) : am_w X (d + 2) 12 (100, [.ref a, .ref s, .ref g, .ref r0], [], h) (fun r h' => r = none ∧ h'.length = a + 36 ∧ ex a h0 h' ∧ isAs h' a s g r0 sd) := by
  refine wr_aload_n rfl rfl rfl ?_
  refine wr_aload_n rfl rfl rfl ?_
  refine wr_putR (ci := 10) (f := 1) (fs' := [_, _, _, _, _, _, _, _, _, _, _, _, _, _]) rfl rfl rfl c rfl rfl rfl (fun h1 e1 => ?_)
  have c1 : h1[a]? = some _ := (by rw [e1]; exact am_set_s c)
  have l1 : h1.length = a + 36 := by rw [e1]; exact set_len l
  have m : ∀ i, i ≠ a → i < a + 36 → h1[i]? = h[i]? := fun i i1 i2 => by rw [e1, am_set_n (Ne.symm i1)]
  exact cs_12_9 hs hs0 sa l1 c1 (fun i hi => (m i (by omega) (by omega)).trans (T i hi)) (p0.same (lo := a + 1) (hi := a + 5) (fun i i1 i2 => m i (by omega) (by omega)) (by omega)) (p1.same (lo := a + 6) (hi := a + 10) (fun i i1 i2 => m i (by omega) (by omega)) (by omega)) (p2.same (lo := a + 11) (hi := a + 15) (fun i i1 i2 => m i (by omega) (by omega)) (by omega)) (p3.same (lo := a + 16) (hi := a + 20) (fun i i1 i2 => m i (by omega) (by omega)) (by omega)) (p4.same (lo := a + 21) (hi := a + 25) (fun i i1 i2 => m i (by omega) (by omega)) (by omega)) (p5.same (lo := a + 26) (hi := a + 30) (fun i i1 i2 => m i (by omega) (by omega)) (by omega)) (p6.same (lo := a + 31) (hi := a + 35) (fun i i1 i2 => m i (by omega) (by omega)) (by omega))
theorem cs_12_7 {d : Nat} {h0 h : am_H} {s g r0 sd : Nat} {fs : List Value} (hs : h0[s]? = some (.inr (6, fs))) (hs0 : fs[0]? = some (.ref sd)) (sa : s < a) (l : h.length = a + 36) (c : h[a]? = some (.inr (10, [.null, .null, .null, .ref (a + 1), .ref (a + 6), .int 0, .null, .int 0, .long 0, .ref (a + 11), .ref (a + 16), .ref (a + 21), .ref (a + 26), .ref (a + 31)]))) (T : ∀ i, i < a → h[i]? = h0[i]?) (p0 : isF h (a + 1) 100 0) (p1 : isF h (a + 6) 100 0) (p2 : isF h (a + 11) 16 0) (p3 : isF h (a + 16) 16 0) (p4 : isF h (a + 21) 16 0) (p5 : isF h (a + 26) 16 0) (p6 : isF h (a + 31) 16 0) : am_w X (d + 2) 12 (95, [.ref a, .ref s, .ref g, .ref r0], [], h) (fun r h' => r = none ∧ h'.length = a + 36 ∧ ex a h0 h' ∧ isAs h' a s g r0 sd) := by
  refine wr_aload_n rfl rfl rfl ?_
  refine wr_aload_n rfl rfl rfl ?_
  refine wr_putR (ci := 10) (f := 0) (fs' := [_, _, _, _, _, _, _, _, _, _, _, _, _, _]) rfl rfl rfl c rfl rfl rfl (fun h1 e1 => ?_)
  have c1 : h1[a]? = some _ := (by rw [e1]; exact am_set_s c)
  have l1 : h1.length = a + 36 := by rw [e1]; exact set_len l
  have m : ∀ i, i ≠ a → i < a + 36 → h1[i]? = h[i]? := fun i i1 i2 => by rw [e1, am_set_n (Ne.symm i1)]
  exact cs_12_8 hs hs0 sa l1 c1 (fun i hi => (m i (by omega) (by omega)).trans (T i hi)) (p0.same (lo := a + 1) (hi := a + 5) (fun i i1 i2 => m i (by omega) (by omega)) (by omega)) (p1.same (lo := a + 6) (hi := a + 10) (fun i i1 i2 => m i (by omega) (by omega)) (by omega)) (p2.same (lo := a + 11) (hi := a + 15) (fun i i1 i2 => m i (by omega) (by omega)) (by omega)) (p3.same (lo := a + 16) (hi := a + 20) (fun i i1 i2 => m i (by omega) (by omega)) (by omega)) (p4.same (lo := a + 21) (hi := a + 25) (fun i i1 i2 => m i (by omega) (by omega)) (by omega)) (p5.same (lo := a + 26) (hi := a + 30) (fun i i1 i2 => m i (by omega) (by omega)) (by omega)) (p6.same (lo := a + 31) (hi := a + 35) (fun i i1 i2 => m i (by omega) (by omega)) (by omega))
theorem cs_12_6 {d : Nat} {h0 h : am_H} {s g r0 sd : Nat} {fs : List Value} (hs : h0[s]? = some (.inr (6, fs))) (hs0 : fs[0]? = some (.ref sd)) (sa : s < a) (l : h.length = a + 31) (c : h[a]? = some (.inr (10, [.null, .null, .null, .ref (a + 1), .ref (a + 6), .int 0, .null, .int 0, .long 0, .ref (a + 11), .ref (a + 16), .ref (a + 21), .ref (a + 26), .null]))) (T : ∀ i, i < a → h[i]? = h0[i]?) (p0 : isF h (a + 1) 100 0) (p1 : isF h (a + 6) 100 0) (p2 : isF h (a + 11) 16 0) (p3 : isF h (a + 16) 16 0) (p4 : isF h (a + 21) 16 0) (p5 : isF h (a + 26) 16 0) : am_w X (d + 2) 12 (82, [.ref a, .ref s, .ref g, .ref r0], [], h) (fun r h' => r = none ∧ h'.length = a + 36 ∧ ex a h0 h' ∧ isAs h' a s g r0 sd) := by
  refine wr_aload_n rfl rfl rfl ?_
  refine wr_new rfl rfl rfl ?_
  rw [l]
  have cA : (h ++ [.inr (8, am_dfl 8)])[a]? = some _ := (ap_lt (by omega)).trans c
  refine wr_dup rfl rfl ?_
  refine wr_bipush rfl rfl (by decide) ?_
  refine wr_ci1 (k' := 9) rfl rfl rfl rfl rfl (ct_frac (cap := 16) (ap_la l) (ap_len l) (by decide)) (fun r hX q => ?_)
  obtain ⟨rfl, lX, x1, pX⟩ := q
  dsimp only [Option.toList, List.nil_append]
  have cX : hX[a]? = some _ := (x1 a (by omega)).trans cA
  refine wr_putR (ci := 10) (f := 13) (fs' := [_, _, _, _, _, _, _, _, _, _, _, _, _, _]) rfl rfl rfl cX rfl rfl rfl (fun h1 e1 => ?_)
  have c1 : h1[a]? = some _ := (by rw [e1]; exact am_set_s cX)
  have l1 : h1.length = a + 36 := by rw [e1]; exact set_len (by rw [lX])
  have m : ∀ i, i ≠ a → i < a + 31 → h1[i]? = h[i]? := fun i i1 i2 => by rw [e1, am_set_n (Ne.symm i1)]; exact (x1 i (by omega)).trans (ap_lt (by omega))
  have pN : isF h1 (a + 31) 16 0 := pX.same (lo := a + 31) (hi := a + 35) (fun i i1 i2 => by rw [e1, am_set_n (by omega)]) (by omega)
  exact cs_12_7 hs hs0 sa l1 c1 (fun i hi => (m i (by omega) (by omega)).trans (T i hi)) (p0.same (lo := a + 1) (hi := a + 5) (fun i i1 i2 => m i (by omega) (by omega)) (by omega)) (p1.same (lo := a + 6) (hi := a + 10) (fun i i1 i2 => m i (by omega) (by omega)) (by omega)) (p2.same (lo := a + 11) (hi := a + 15) (fun i i1 i2 => m i (by omega) (by omega)) (by omega)) (p3.same (lo := a + 16) (hi := a + 20) (fun i i1 i2 => m i (by omega) (by omega)) (by omega)) (p4.same (lo := a + 21) (hi := a + 25) (fun i i1 i2 => m i (by omega) (by omega)) (by omega)) (p5.same (lo := a + 26) (hi := a + 30) (fun i i1 i2 => m i (by omega) (by omega)) (by omega)) pN
theorem cs_12_5 {d : Nat} {h0 h : am_H} {s g r0 sd : Nat} {fs : List Value} (hs : h0[s]? = some (.inr (6, fs))) (hs0 : fs[0]? = some (.ref sd)) (sa : s < a) (l : h.length = a + 26) (c : h[a]? = some (.inr (10, [.null, .null, .null, .ref (a + 1), .ref (a + 6), .int 0, .null, .int 0, .long 0, .ref (a + 11), .ref (a + 16), .ref (a + 21), .null, .null]))) (T : ∀ i, i < a → h[i]? = h0[i]?) (p0 : isF h (a + 1) 100 0) (p1 : isF h (a + 6) 100 0) (p2 : isF h (a + 11) 16 0) (p3 : isF h (a + 16) 16 0) (p4 : isF h (a + 21) 16 0) : am_w X (d + 2) 12 (69, [.ref a, .ref s, .ref g, .ref r0], [], h) (fun r h' => r = none ∧ h'.length = a + 36 ∧ ex a h0 h' ∧ isAs h' a s g r0 sd) := by
  refine wr_aload_n rfl rfl rfl ?_
  refine wr_new rfl rfl rfl ?_
  rw [l]
  have cA : (h ++ [.inr (8, am_dfl 8)])[a]? = some _ := (ap_lt (by omega)).trans c
  refine wr_dup rfl rfl ?_
  refine wr_bipush rfl rfl (by decide) ?_
  refine wr_ci1 (k' := 9) rfl rfl rfl rfl rfl (ct_frac (cap := 16) (ap_la l) (ap_len l) (by decide)) (fun r hX q => ?_)
  obtain ⟨rfl, lX, x1, pX⟩ := q
  dsimp only [Option.toList, List.nil_append]
  have cX : hX[a]? = some _ := (x1 a (by omega)).trans cA
  refine wr_putR (ci := 10) (f := 12) (fs' := [_, _, _, _, _, _, _, _, _, _, _, _, _, _]) rfl rfl rfl cX rfl rfl rfl (fun h1 e1 => ?_)
  have c1 : h1[a]? = some _ := (by rw [e1]; exact am_set_s cX)
  have l1 : h1.length = a + 31 := by rw [e1]; exact set_len (by rw [lX])
  have m : ∀ i, i ≠ a → i < a + 26 → h1[i]? = h[i]? := fun i i1 i2 => by rw [e1, am_set_n (Ne.symm i1)]; exact (x1 i (by omega)).trans (ap_lt (by omega))
  have pN : isF h1 (a + 26) 16 0 := pX.same (lo := a + 26) (hi := a + 30) (fun i i1 i2 => by rw [e1, am_set_n (by omega)]) (by omega)
  exact cs_12_6 hs hs0 sa l1 c1 (fun i hi => (m i (by omega) (by omega)).trans (T i hi)) (p0.same (lo := a + 1) (hi := a + 5) (fun i i1 i2 => m i (by omega) (by omega)) (by omega)) (p1.same (lo := a + 6) (hi := a + 10) (fun i i1 i2 => m i (by omega) (by omega)) (by omega)) (p2.same (lo := a + 11) (hi := a + 15) (fun i i1 i2 => m i (by omega) (by omega)) (by omega)) (p3.same (lo := a + 16) (hi := a + 20) (fun i i1 i2 => m i (by omega) (by omega)) (by omega)) (p4.same (lo := a + 21) (hi := a + 25) (fun i i1 i2 => m i (by omega) (by omega)) (by omega)) pN
theorem cs_12_4 {d : Nat} {h0 h : am_H} {s g r0 sd : Nat} {fs : List Value} (hs : h0[s]? = some (.inr (6, fs))) (hs0 : fs[0]? = some (.ref sd)) (sa : s < a) (l : h.length = a + 21) (c : h[a]? = some (.inr (10, [.null, .null, .null, .ref (a + 1), .ref (a + 6), .int 0, .null, .int 0, .long 0, .ref (a + 11), .ref (a + 16), .null, .null, .null]))) (T : ∀ i, i < a → h[i]? = h0[i]?) (p0 : isF h (a + 1) 100 0) (p1 : isF h (a + 6) 100 0) (p2 : isF h (a + 11) 16 0) (p3 : isF h (a + 16) 16 0) : am_w X (d + 2) 12 (56, [.ref a, .ref s, .ref g, .ref r0], [], h) (fun r h' => r = none ∧ h'.length = a + 36 ∧ ex a h0 h' ∧ isAs h' a s g r0 sd) := by
  refine wr_aload_n rfl rfl rfl ?_
  refine wr_new rfl rfl rfl ?_
  rw [l]
  have cA : (h ++ [.inr (8, am_dfl 8)])[a]? = some _ := (ap_lt (by omega)).trans c
  refine wr_dup rfl rfl ?_
  refine wr_bipush rfl rfl (by decide) ?_
  refine wr_ci1 (k' := 9) rfl rfl rfl rfl rfl (ct_frac (cap := 16) (ap_la l) (ap_len l) (by decide)) (fun r hX q => ?_)
  obtain ⟨rfl, lX, x1, pX⟩ := q
  dsimp only [Option.toList, List.nil_append]
  have cX : hX[a]? = some _ := (x1 a (by omega)).trans cA
  refine wr_putR (ci := 10) (f := 11) (fs' := [_, _, _, _, _, _, _, _, _, _, _, _, _, _]) rfl rfl rfl cX rfl rfl rfl (fun h1 e1 => ?_)
  have c1 : h1[a]? = some _ := (by rw [e1]; exact am_set_s cX)
  have l1 : h1.length = a + 26 := by rw [e1]; exact set_len (by rw [lX])
  have m : ∀ i, i ≠ a → i < a + 21 → h1[i]? = h[i]? := fun i i1 i2 => by rw [e1, am_set_n (Ne.symm i1)]; exact (x1 i (by omega)).trans (ap_lt (by omega))
  have pN : isF h1 (a + 21) 16 0 := pX.same (lo := a + 21) (hi := a + 25) (fun i i1 i2 => by rw [e1, am_set_n (by omega)]) (by omega)
  exact cs_12_5 hs hs0 sa l1 c1 (fun i hi => (m i (by omega) (by omega)).trans (T i hi)) (p0.same (lo := a + 1) (hi := a + 5) (fun i i1 i2 => m i (by omega) (by omega)) (by omega)) (p1.same (lo := a + 6) (hi := a + 10) (fun i i1 i2 => m i (by omega) (by omega)) (by omega)) (p2.same (lo := a + 11) (hi := a + 15) (fun i i1 i2 => m i (by omega) (by omega)) (by omega)) (p3.same (lo := a + 16) (hi := a + 20) (fun i i1 i2 => m i (by omega) (by omega)) (by omega)) pN
theorem cs_12_3 {d : Nat} {h0 h : am_H} {s g r0 sd : Nat} {fs : List Value} (hs : h0[s]? = some (.inr (6, fs))) (hs0 : fs[0]? = some (.ref sd)) (sa : s < a) (l : h.length = a + 16) (c : h[a]? = some (.inr (10, [.null, .null, .null, .ref (a + 1), .ref (a + 6), .int 0, .null, .int 0, .long 0, .ref (a + 11), .null, .null, .null, .null]))) (T : ∀ i, i < a → h[i]? = h0[i]?) (p0 : isF h (a + 1) 100 0) (p1 : isF h (a + 6) 100 0) (p2 : isF h (a + 11) 16 0) : am_w X (d + 2) 12 (43, [.ref a, .ref s, .ref g, .ref r0], [], h) (fun r h' => r = none ∧ h'.length = a + 36 ∧ ex a h0 h' ∧ isAs h' a s g r0 sd) := by
  refine wr_aload_n rfl rfl rfl ?_
  refine wr_new rfl rfl rfl ?_
  rw [l]
  have cA : (h ++ [.inr (8, am_dfl 8)])[a]? = some _ := (ap_lt (by omega)).trans c
  refine wr_dup rfl rfl ?_
  refine wr_bipush rfl rfl (by decide) ?_
  refine wr_ci1 (k' := 9) rfl rfl rfl rfl rfl (ct_frac (cap := 16) (ap_la l) (ap_len l) (by decide)) (fun r hX q => ?_)
  obtain ⟨rfl, lX, x1, pX⟩ := q
  dsimp only [Option.toList, List.nil_append]
  have cX : hX[a]? = some _ := (x1 a (by omega)).trans cA
  refine wr_putR (ci := 10) (f := 10) (fs' := [_, _, _, _, _, _, _, _, _, _, _, _, _, _]) rfl rfl rfl cX rfl rfl rfl (fun h1 e1 => ?_)
  have c1 : h1[a]? = some _ := (by rw [e1]; exact am_set_s cX)
  have l1 : h1.length = a + 21 := by rw [e1]; exact set_len (by rw [lX])
  have m : ∀ i, i ≠ a → i < a + 16 → h1[i]? = h[i]? := fun i i1 i2 => by rw [e1, am_set_n (Ne.symm i1)]; exact (x1 i (by omega)).trans (ap_lt (by omega))
  have pN : isF h1 (a + 16) 16 0 := pX.same (lo := a + 16) (hi := a + 20) (fun i i1 i2 => by rw [e1, am_set_n (by omega)]) (by omega)
  exact cs_12_4 hs hs0 sa l1 c1 (fun i hi => (m i (by omega) (by omega)).trans (T i hi)) (p0.same (lo := a + 1) (hi := a + 5) (fun i i1 i2 => m i (by omega) (by omega)) (by omega)) (p1.same (lo := a + 6) (hi := a + 10) (fun i i1 i2 => m i (by omega) (by omega)) (by omega)) (p2.same (lo := a + 11) (hi := a + 15) (fun i i1 i2 => m i (by omega) (by omega)) (by omega)) pN
theorem cs_12_2 {d : Nat} {h0 h : am_H} {s g r0 sd : Nat} {fs : List Value} (hs : h0[s]? = some (.inr (6, fs))) (hs0 : fs[0]? = some (.ref sd)) (sa : s < a) (l : h.length = a + 11) (c : h[a]? = some (.inr (10, [.null, .null, .null, .ref (a + 1), .ref (a + 6), .int 0, .null, .int 0, .long 0, .null, .null, .null, .null, .null]))) (T : ∀ i, i < a → h[i]? = h0[i]?) (p0 : isF h (a + 1) 100 0) (p1 : isF h (a + 6) 100 0) : am_w X (d + 2) 12 (30, [.ref a, .ref s, .ref g, .ref r0], [], h) (fun r h' => r = none ∧ h'.length = a + 36 ∧ ex a h0 h' ∧ isAs h' a s g r0 sd) := by
  refine wr_aload_n rfl rfl rfl ?_
  refine wr_new rfl rfl rfl ?_
  rw [l]
  have cA : (h ++ [.inr (8, am_dfl 8)])[a]? = some _ := (ap_lt (by omega)).trans c
  refine wr_dup rfl rfl ?_
  refine wr_bipush rfl rfl (by decide) ?_
  refine wr_ci1 (k' := 9) rfl rfl rfl rfl rfl (ct_frac (cap := 16) (ap_la l) (ap_len l) (by decide)) (fun r hX q => ?_)
  obtain ⟨rfl, lX, x1, pX⟩ := q
  dsimp only [Option.toList, List.nil_append]
  have cX : hX[a]? = some _ := (x1 a (by omega)).trans cA
  refine wr_putR (ci := 10) (f := 9) (fs' := [_, _, _, _, _, _, _, _, _, _, _, _, _, _]) rfl rfl rfl cX rfl rfl rfl (fun h1 e1 => ?_)
  have c1 : h1[a]? = some _ := (by rw [e1]; exact am_set_s cX)
  have l1 : h1.length = a + 16 := by rw [e1]; exact set_len (by rw [lX])
  have m : ∀ i, i ≠ a → i < a + 11 → h1[i]? = h[i]? := fun i i1 i2 => by rw [e1, am_set_n (Ne.symm i1)]; exact (x1 i (by omega)).trans (ap_lt (by omega))
  have pN : isF h1 (a + 11) 16 0 := pX.same (lo := a + 11) (hi := a + 15) (fun i i1 i2 => by rw [e1, am_set_n (by omega)]) (by omega)
  exact cs_12_3 hs hs0 sa l1 c1 (fun i hi => (m i (by omega) (by omega)).trans (T i hi)) (p0.same (lo := a + 1) (hi := a + 5) (fun i i1 i2 => m i (by omega) (by omega)) (by omega)) (p1.same (lo := a + 6) (hi := a + 10) (fun i i1 i2 => m i (by omega) (by omega)) (by omega)) pN
theorem cs_12_1 {d : Nat} {h0 h : am_H} {s g r0 sd : Nat} {fs : List Value} (hs : h0[s]? = some (.inr (6, fs))) (hs0 : fs[0]? = some (.ref sd)) (sa : s < a) (l : h.length = a + 6) (c : h[a]? = some (.inr (10, [.null, .null, .null, .ref (a + 1), .null, .int 0, .null, .int 0, .long 0, .null, .null, .null, .null, .null]))) (T : ∀ i, i < a → h[i]? = h0[i]?) (p0 : isF h (a + 1) 100 0) : am_w X (d + 2) 12 (17, [.ref a, .ref s, .ref g, .ref r0], [], h) (fun r h' => r = none ∧ h'.length = a + 36 ∧ ex a h0 h' ∧ isAs h' a s g r0 sd) := by
  refine wr_aload_n rfl rfl rfl ?_
  refine wr_new rfl rfl rfl ?_
  rw [l]
  have cA : (h ++ [.inr (8, am_dfl 8)])[a]? = some _ := (ap_lt (by omega)).trans c
  refine wr_dup rfl rfl ?_
  refine wr_bipush rfl rfl (by decide) ?_
  refine wr_ci1 (k' := 9) rfl rfl rfl rfl rfl (ct_frac (cap := 100) (ap_la l) (ap_len l) (by decide)) (fun r hX q => ?_)
  obtain ⟨rfl, lX, x1, pX⟩ := q
  dsimp only [Option.toList, List.nil_append]
  have cX : hX[a]? = some _ := (x1 a (by omega)).trans cA
  refine wr_putR (ci := 10) (f := 4) (fs' := [_, _, _, _, _, _, _, _, _, _, _, _, _, _]) rfl rfl rfl cX rfl rfl rfl (fun h1 e1 => ?_)
  have c1 : h1[a]? = some _ := (by rw [e1]; exact am_set_s cX)
  have l1 : h1.length = a + 11 := by rw [e1]; exact set_len (by rw [lX])
  have m : ∀ i, i ≠ a → i < a + 6 → h1[i]? = h[i]? := fun i i1 i2 => by rw [e1, am_set_n (Ne.symm i1)]; exact (x1 i (by omega)).trans (ap_lt (by omega))
  have pN : isF h1 (a + 6) 100 0 := pX.same (lo := a + 6) (hi := a + 10) (fun i i1 i2 => by rw [e1, am_set_n (by omega)]) (by omega)
  exact cs_12_2 hs hs0 sa l1 c1 (fun i hi => (m i (by omega) (by omega)).trans (T i hi)) (p0.same (lo := a + 1) (hi := a + 5) (fun i i1 i2 => m i (by omega) (by omega)) (by omega)) pN
theorem cs_12_0 {d : Nat} {h0 h : am_H} {s g r0 sd : Nat} {fs : List Value} (hs : h0[s]? = some (.inr (6, fs))) (hs0 : fs[0]? = some (.ref sd)) (sa : s < a) (l : h.length = a + 1) (c : h[a]? = some (.inr (10, [.null, .null, .null, .null, .null, .int 0, .null, .int 0, .long 0, .null, .null, .null, .null, .null]))) (T : ∀ i, i < a → h[i]? = h0[i]?)  : am_w X (d + 2) 12 (4, [.ref a, .ref s, .ref g, .ref r0], [], h) (fun r h' => r = none ∧ h'.length = a + 36 ∧ ex a h0 h' ∧ isAs h' a s g r0 sd) := by
  refine wr_aload_n rfl rfl rfl ?_
  refine wr_new rfl rfl rfl ?_
  rw [l]
  have cA : (h ++ [.inr (8, am_dfl 8)])[a]? = some _ := (ap_lt (by omega)).trans c
  refine wr_dup rfl rfl ?_
  refine wr_bipush rfl rfl (by decide) ?_
  refine wr_ci1 (k' := 9) rfl rfl rfl rfl rfl (ct_frac (cap := 100) (ap_la l) (ap_len l) (by decide)) (fun r hX q => ?_)
  obtain ⟨rfl, lX, x1, pX⟩ := q
  dsimp only [Option.toList, List.nil_append]
  have cX : hX[a]? = some _ := (x1 a (by omega)).trans cA
  refine wr_putR (ci := 10) (f := 3) (fs' := [_, _, _, _, _, _, _, _, _, _, _, _, _, _]) rfl rfl rfl cX rfl rfl rfl (fun h1 e1 => ?_)
  have c1 : h1[a]? = some _ := (by rw [e1]; exact am_set_s cX)
  have l1 : h1.length = a + 6 := by rw [e1]; exact set_len (by rw [lX])
  have m : ∀ i, i ≠ a → i < a + 1 → h1[i]? = h[i]? := fun i i1 i2 => by rw [e1, am_set_n (Ne.symm i1)]; exact (x1 i (by omega)).trans (ap_lt (by omega))
  have pN : isF h1 (a + 1) 100 0 := pX.same (lo := a + 1) (hi := a + 5) (fun i i1 i2 => by rw [e1, am_set_n (by omega)]) (by omega)
  exact cs_12_1 hs hs0 sa l1 c1 (fun i hi => (m i (by omega) (by omega)).trans (T i hi)) pN
theorem ct_areas {d : Nat} (hc : h[a]? = some (.inr (10, am_dfl 10))) (hl : h.length = a + 1) {s g r0 sd : Nat} {fs : List Value} (hs : h[s]? = some (.inr (6, fs))) (hs0 : fs[0]? = some (.ref sd)) (sa : s < a) : am_c X (d + 3) 12 [.ref a, .ref s, .ref g, .ref r0] h (fun r h' => r = none ∧ h'.length = a + 36 ∧ ex a h h' ∧ isAs h' a s g r0 sd) := by
  refine am_c.of (Nat.le_of_ble_eq_true rfl) ?_
  show am_w _ _ _ (_, [_, _, _, _], _, _) _
  refine wr_aload_n rfl rfl rfl ?_
  refine wr_oinit rfl rfl rfl rfl ?_
  exact cs_12_0 hs hs0 sa hl hc (fun _ _ => rfl)
end CT2
