/-! CONSTRUCTORS OF THE LARGER ONES -/
def isWk (h : am_H) (p s g r sd : Nat) : Prop := h[p]? = some (.inr (cWa, [.ref s, .ref g, .ref r, .ref sd, .ref (p + 1), .ref (p + 6), .ref (p + 11)])) ∧ isF h (p + 1) 16 0 ∧ isF h (p + 6) 16 0 ∧ isF h (p + 11) 16 0
def isAs (h : am_H) (p s g r sd : Nat) : Prop := h[p]? = some (.inr (cAe, [.ref s, .ref g, .ref r, .ref (p + 1), .ref (p + 6), .int (iI 0), .ref sd, .int (iI 0), .long (lI 0), .ref (p + 11), .ref (p + 16), .ref (p + 21), .ref (p + 26), .ref (p + 31)])) ∧ isF h (p + 1) 100 0 ∧ isF h (p + 6) 100 0 ∧ isF h (p + 11) 16 0 ∧ isF h (p + 16) 16 0 ∧ isF h (p + 21) 16 0 ∧ isF h (p + 26) 16 0 ∧ isF h (p + 31) 16 0
def isEw (h : am_H) (p : Nat) : Prop := h[p]? = some (.inr (cEw, [.ref (p + 1), .ref (p + 3), .ref (p + 5), .ref (p + 7), .ref (p + 9)])) ∧ isW h (p + 1) (p + 2) 16 0 ∧ isW h (p + 3) (p + 4) 16 0 ∧ isW h (p + 5) (p + 6) 16 0 ∧ isW h (p + 7) (p + 8) 16 0 ∧ isF h (p + 9) 16 0
def isSn (h : am_H) (p : Nat) : Prop := isC h p 0 0 Z0 ∧ isS h (p + 1) (-1) 0 0 Z0 Z0 Z0 Z0 Z0 0 0 ∧ isS h (p + 17) 1 0 0 Z0 Z0 Z0 Z0 Z0 0 0
section CT1
variable {X : Nat × (Nat → Int32)} {h h' : am_H} {a : Nat}
theorem isWk.same {p s g r sd lo up : Nat} (w : isWk h p s g r sd) (q : same lo up h h') (c : lo ≤ p ∧ p + 15 ≤ up) : isWk h' p s g r sd := by
  obtain ⟨c0, c1, c2, c3⟩ := w
  exact ⟨by rw [q p (by omega) (by omega)]; exact c0, c1.same q (by omega), c2.same q (by omega), c3.same q (by omega)⟩
theorem isAs.same {p s g r sd lo up : Nat} (w : isAs h p s g r sd) (q : same lo up h h') (c : lo ≤ p ∧ p + 35 ≤ up) : isAs h' p s g r sd := by
  obtain ⟨c0, c1, c2, c3, c4, c5, c6, c7⟩ := w
  exact ⟨by rw [q p (by omega) (by omega)]; exact c0, c1.same q (by omega), c2.same q (by omega), c3.same q (by omega), c4.same q (by omega), c5.same q (by omega), c6.same q (by omega), c7.same q (by omega)⟩
theorem isEw.same {p lo up : Nat} (w : isEw h p) (q : same lo up h h') (c : lo ≤ p ∧ p + 13 ≤ up) : isEw h' p := by
  obtain ⟨c0, c1, c2, c3, c4, c5⟩ := w
  exact ⟨by rw [q p (by omega) (by omega)]; exact c0, c1.same q (by omega) (by omega), c2.same q (by omega) (by omega), c3.same q (by omega) (by omega), c4.same q (by omega) (by omega), c5.same q (by omega)⟩
theorem isSn.same {p lo up : Nat} (w : isSn h p) (q : same lo up h h') (c : lo ≤ p ∧ p + 33 ≤ up) : isSn h' p := by
  obtain ⟨c0, c1, c2⟩ := w
  exact ⟨⟨by rw [q p (by omega) (by omega)]; exact c0.1, by rw [q (p + 33) (by omega) (by omega)]; exact c0.2⟩, c1.same q (by omega), c2.same q (by omega)⟩
set_option maxHeartbeats 8000000 in
theorem ct_tmpl {d : Nat} (hc : h[a]? = some (.inr (1, am_dfl 1))) (hl : h.length = a + 1) : am_c X (d + 1) 1 [.ref a] h (fun r h' => r = none ∧ h'.length = a + 6 ∧ ex a h h' ∧ isT h' a (Tm.mk Z0 Z0 Z0 Z0 Z0 0 0 0)) := by
  refine am_c.of (Nat.le_of_ble_eq_true rfl) ?_
  show am_w _ _ _ (_, [_], _, _) _
  refine wr_aload_n rfl rfl rfl ?_
  refine wr_oinit rfl rfl rfl rfl ?_
  have l0 : h.length = a + 1 := hl
  have c0 := hc
  refine wr_aload_n rfl rfl rfl ?_
  refine wr_sipush rfl rfl (by decide) ?_
  refine wr_newi (n := 144) rfl rfl (by decide) ?_
  rw [l0]
  have cA : (h ++ [am_ia 144 fun _ => 0])[a]? = some _ := (ap_lt (by omega)).trans c0
  refine wr_putA (ci := 1) (f := 0) (fs' := [_, _, _, _, _, _, _, _]) rfl rfl rfl cA rfl rfl rfl (fun h1 e1 => ?_)
  have c1 : h1[a]? = some _ := (by rw [e1]; exact am_set_s cA)
  have l1 : h1.length = a + 2 := by rw [e1]; exact set_len (ap_len l0)
  have m1 : ∀ i, i ≠ a → i < a + 1 → h1[i]? = h[i]? := fun i i1 i2 => by rw [e1, am_set_n (Ne.symm i1)]; exact ap_lt (by omega)
  have p1 : h1[a + 1]? = some (am_ia 144 Z0) := (by rw [e1, am_set_n (by omega)]; exact ap_la l0)
  clear e1 c0 l0
  refine wr_aload_n rfl rfl rfl ?_
  refine wr_sipush rfl rfl (by decide) ?_
  refine wr_newi (n := 144) rfl rfl (by decide) ?_
  rw [l1]
  have cA : (h1 ++ [am_ia 144 fun _ => 0])[a]? = some _ := (ap_lt (by omega)).trans c1
  refine wr_putA (ci := 1) (f := 1) (fs' := [_, _, _, _, _, _, _, _]) rfl rfl rfl cA rfl rfl rfl (fun h2 e1 => ?_)
  have c2 : h2[a]? = some _ := (by rw [e1]; exact am_set_s cA)
  have l2 : h2.length = a + 3 := by rw [e1]; exact set_len (ap_len l1)
  have m2 : ∀ i, i ≠ a → i < a + 2 → h2[i]? = h1[i]? := fun i i1 i2 => by rw [e1, am_set_n (Ne.symm i1)]; exact ap_lt (by omega)
  have p2 : h2[a + 2]? = some (am_ia 144 Z0) := (by rw [e1, am_set_n (by omega)]; exact ap_la l1)
  clear e1 c1 l1
  refine wr_aload_n rfl rfl rfl ?_
  refine wr_sipush rfl rfl (by decide) ?_
  refine wr_newi (n := 144) rfl rfl (by decide) ?_
  rw [l2]
  have cA : (h2 ++ [am_ia 144 fun _ => 0])[a]? = some _ := (ap_lt (by omega)).trans c2
  refine wr_putA (ci := 1) (f := 2) (fs' := [_, _, _, _, _, _, _, _]) rfl rfl rfl cA rfl rfl rfl (fun h3 e1 => ?_)
  have c3 : h3[a]? = some _ := (by rw [e1]; exact am_set_s cA)
  have l3 : h3.length = a + 4 := by rw [e1]; exact set_len (ap_len l2)
  have m3 : ∀ i, i ≠ a → i < a + 3 → h3[i]? = h2[i]? := fun i i1 i2 => by rw [e1, am_set_n (Ne.symm i1)]; exact ap_lt (by omega)
  have p3 : h3[a + 3]? = some (am_ia 144 Z0) := (by rw [e1, am_set_n (by omega)]; exact ap_la l2)
  clear e1 c2 l2
  refine wr_aload_n rfl rfl rfl ?_
  refine wr_sipush rfl rfl (by decide) ?_
  refine wr_newi (n := 144) rfl rfl (by decide) ?_
  rw [l3]
  have cA : (h3 ++ [am_ia 144 fun _ => 0])[a]? = some _ := (ap_lt (by omega)).trans c3
  refine wr_putA (ci := 1) (f := 3) (fs' := [_, _, _, _, _, _, _, _]) rfl rfl rfl cA rfl rfl rfl (fun h4 e1 => ?_)
  have c4 : h4[a]? = some _ := (by rw [e1]; exact am_set_s cA)
  have l4 : h4.length = a + 5 := by rw [e1]; exact set_len (ap_len l3)
  have m4 : ∀ i, i ≠ a → i < a + 4 → h4[i]? = h3[i]? := fun i i1 i2 => by rw [e1, am_set_n (Ne.symm i1)]; exact ap_lt (by omega)
  have p4 : h4[a + 4]? = some (am_ia 144 Z0) := (by rw [e1, am_set_n (by omega)]; exact ap_la l3)
  clear e1 c3 l3
  refine wr_aload_n rfl rfl rfl ?_
  refine wr_bipush rfl rfl (by decide) ?_
  refine wr_newi (n := 6) rfl rfl (by decide) ?_
  rw [l4]
  have cA : (h4 ++ [am_ia 6 fun _ => 0])[a]? = some _ := (ap_lt (by omega)).trans c4
  refine wr_putA (ci := 1) (f := 4) (fs' := [_, _, _, _, _, _, _, _]) rfl rfl rfl cA rfl rfl rfl (fun h5 e1 => ?_)
  have c5 : h5[a]? = some _ := (by rw [e1]; exact am_set_s cA)
  have l5 : h5.length = a + 6 := by rw [e1]; exact set_len (ap_len l4)
  have m5 : ∀ i, i ≠ a → i < a + 5 → h5[i]? = h4[i]? := fun i i1 i2 => by rw [e1, am_set_n (Ne.symm i1)]; exact ap_lt (by omega)
  have p5 : h5[a + 5]? = some (am_ia 6 Z0) := (by rw [e1, am_set_n (by omega)]; exact ap_la l4)
  clear e1 c4 l4
  have M5 : ∀ i, i ≠ a → i < a + 6 → h5[i]? = h5[i]? := fun _ _ _ => rfl
  have M4 : ∀ i, i ≠ a → i < a + 5 → h5[i]? = h4[i]? := fun i i1 i2 => (M5 i i1 (by omega)).trans (m5 i i1 i2)
  have M3 : ∀ i, i ≠ a → i < a + 4 → h5[i]? = h3[i]? := fun i i1 i2 => (M4 i i1 (by omega)).trans (m4 i i1 i2)
  have M2 : ∀ i, i ≠ a → i < a + 3 → h5[i]? = h2[i]? := fun i i1 i2 => (M3 i i1 (by omega)).trans (m3 i i1 i2)
  have M1 : ∀ i, i ≠ a → i < a + 2 → h5[i]? = h1[i]? := fun i i1 i2 => (M2 i i1 (by omega)).trans (m2 i i1 i2)
  have M0 : ∀ i, i ≠ a → i < a + 1 → h5[i]? = h[i]? := fun i i1 i2 => (M1 i i1 (by omega)).trans (m1 i i1 i2)
  have T0 : ∀ i, i < a → h5[i]? = h[i]? := fun i hi => M0 i (by omega) (by omega)
  have p1 : h5[a + 1]? = some _ := (M1 (a + 1) (by omega) (by omega)).trans p1
  have p2 : h5[a + 2]? = some _ := (M2 (a + 2) (by omega) (by omega)).trans p2
  have p3 : h5[a + 3]? = some _ := (M3 (a + 3) (by omega) (by omega)).trans p3
  have p4 : h5[a + 4]? = some _ := (M4 (a + 4) (by omega) (by omega)).trans p4
  have p5 : h5[a + 5]? = some _ := (M5 (a + 5) (by omega) (by omega)).trans p5
  refine wr_vret rfl rfl ?_
  exact ⟨rfl, l5, T0, c5, p1, p2, p3, p4, p5⟩
set_option maxHeartbeats 8000000 in
theorem ct_ground {d : Nat} (hc : h[a]? = some (.inr (3, am_dfl 3))) (hl : h.length = a + 1) : am_c X (d + 1) 3 [.ref a] h (fun r h' => r = none ∧ h'.length = a + 3 ∧ ex a h h' ∧ isG h' a 0 Z0 Z0) := by
  refine am_c.of (Nat.le_of_ble_eq_true rfl) ?_
  show am_w _ _ _ (_, [_], _, _) _
  refine wr_aload_n rfl rfl rfl ?_
  refine wr_oinit rfl rfl rfl rfl ?_
  have l0 : h.length = a + 1 := hl
  have c0 := hc
  refine wr_aload_n rfl rfl rfl ?_
  refine wr_bipush rfl rfl (by decide) ?_
  refine wr_newi (n := 12) rfl rfl (by decide) ?_
  rw [l0]
  have cA : (h ++ [am_ia 12 fun _ => 0])[a]? = some _ := (ap_lt (by omega)).trans c0
  refine wr_putA (ci := 3) (f := 0) (fs' := [_, _, _]) rfl rfl rfl cA rfl rfl rfl (fun h1 e1 => ?_)
  have c1 : h1[a]? = some _ := (by rw [e1]; exact am_set_s cA)
  have l1 : h1.length = a + 2 := by rw [e1]; exact set_len (ap_len l0)
  have m1 : ∀ i, i ≠ a → i < a + 1 → h1[i]? = h[i]? := fun i i1 i2 => by rw [e1, am_set_n (Ne.symm i1)]; exact ap_lt (by omega)
  have p1 : h1[a + 1]? = some (am_ia 12 Z0) := (by rw [e1, am_set_n (by omega)]; exact ap_la l0)
  clear e1 c0 l0
  refine wr_aload_n rfl rfl rfl ?_
  refine wr_bipush rfl rfl (by decide) ?_
  refine wr_newi (n := 12) rfl rfl (by decide) ?_
  rw [l1]
  have cA : (h1 ++ [am_ia 12 fun _ => 0])[a]? = some _ := (ap_lt (by omega)).trans c1
  refine wr_putA (ci := 3) (f := 1) (fs' := [_, _, _]) rfl rfl rfl cA rfl rfl rfl (fun h2 e1 => ?_)
  have c2 : h2[a]? = some _ := (by rw [e1]; exact am_set_s cA)
  have l2 : h2.length = a + 3 := by rw [e1]; exact set_len (ap_len l1)
  have m2 : ∀ i, i ≠ a → i < a + 2 → h2[i]? = h1[i]? := fun i i1 i2 => by rw [e1, am_set_n (Ne.symm i1)]; exact ap_lt (by omega)
  have p2 : h2[a + 2]? = some (am_ia 12 Z0) := (by rw [e1, am_set_n (by omega)]; exact ap_la l1)
  clear e1 c1 l1
  have M2 : ∀ i, i ≠ a → i < a + 3 → h2[i]? = h2[i]? := fun _ _ _ => rfl
  have M1 : ∀ i, i ≠ a → i < a + 2 → h2[i]? = h1[i]? := fun i i1 i2 => (M2 i i1 (by omega)).trans (m2 i i1 i2)
  have M0 : ∀ i, i ≠ a → i < a + 1 → h2[i]? = h[i]? := fun i i1 i2 => (M1 i i1 (by omega)).trans (m1 i i1 i2)
  have T0 : ∀ i, i < a → h2[i]? = h[i]? := fun i hi => M0 i (by omega) (by omega)
  have p1 : h2[a + 1]? = some _ := (M1 (a + 1) (by omega) (by omega)).trans p1
  have p2 : h2[a + 2]? = some _ := (M2 (a + 2) (by omega) (by omega)).trans p2
  refine wr_vret rfl rfl ?_
  exact ⟨rfl, l2, T0, c2, p1, p2⟩
set_option maxHeartbeats 8000000 in
theorem ct_read {d : Nat} (hc : h[a]? = some (.inr (2, am_dfl 2))) (hl : h.length = a + 1) {t : Nat} : am_c X (d + 1) 2 [.ref a, .ref t] h (fun r h' => r = none ∧ h'.length = a + 3 ∧ ex a h h' ∧ isR h' a t Z0 0 0 0 Z0 0) := by
  refine am_c.of (Nat.le_of_ble_eq_true rfl) ?_
  show am_w _ _ _ (_, [_, _], _, _) _
  refine wr_aload_n rfl rfl rfl ?_
  refine wr_oinit rfl rfl rfl rfl ?_
  have l0 : h.length = a + 1 := hl
  have c0 := hc
  refine wr_aload_n rfl rfl rfl ?_
  refine wr_sipush rfl rfl (by decide) ?_
  refine wr_newi (n := 400) rfl rfl (by decide) ?_
  rw [l0]
  have cA : (h ++ [am_ia 400 fun _ => 0])[a]? = some _ := (ap_lt (by omega)).trans c0
  refine wr_putA (ci := 2) (f := 0) (fs' := [_, _, _, _, _, _, _]) rfl rfl rfl cA rfl rfl rfl (fun h1 e1 => ?_)
  have c1 : h1[a]? = some _ := (by rw [e1]; exact am_set_s cA)
  have l1 : h1.length = a + 2 := by rw [e1]; exact set_len (ap_len l0)
  have m1 : ∀ i, i ≠ a → i < a + 1 → h1[i]? = h[i]? := fun i i1 i2 => by rw [e1, am_set_n (Ne.symm i1)]; exact ap_lt (by omega)
  have p1 : h1[a + 1]? = some (am_ia 400 Z0) := (by rw [e1, am_set_n (by omega)]; exact ap_la l0)
  clear e1 c0 l0
  refine wr_aload_n rfl rfl rfl ?_
  refine wr_iconst rfl rfl ?_
  refine wr_newi (n := 5) rfl rfl (by decide) ?_
  rw [l1]
  have cA : (h1 ++ [am_ia 5 fun _ => 0])[a]? = some _ := (ap_lt (by omega)).trans c1
  refine wr_putA (ci := 2) (f := 5) (fs' := [_, _, _, _, _, _, _]) rfl rfl rfl cA rfl rfl rfl (fun h2 e1 => ?_)
  have c2 : h2[a]? = some _ := (by rw [e1]; exact am_set_s cA)
  have l2 : h2.length = a + 3 := by rw [e1]; exact set_len (ap_len l1)
  have m2 : ∀ i, i ≠ a → i < a + 2 → h2[i]? = h1[i]? := fun i i1 i2 => by rw [e1, am_set_n (Ne.symm i1)]; exact ap_lt (by omega)
  have p2 : h2[a + 2]? = some (am_ia 5 Z0) := (by rw [e1, am_set_n (by omega)]; exact ap_la l1)
  clear e1 c1 l1
  refine wr_aload_n rfl rfl rfl ?_
  refine wr_aload_n rfl rfl rfl ?_
  refine wr_putR (ci := 2) (f := 4) (fs' := [_, _, _, _, _, _, _]) rfl rfl rfl c2 rfl rfl rfl (fun h3 e1 => ?_)
  have c3 : h3[a]? = some _ := (by rw [e1]; exact am_set_s c2)
  have l3 : h3.length = a + 3 := by rw [e1]; exact set_len l2
  have m3 : ∀ i, i ≠ a → i < a + 3 → h3[i]? = h2[i]? := fun i i1 i2 => by rw [e1, am_set_n (Ne.symm i1)]
  clear e1 c2 l2
  have M3 : ∀ i, i ≠ a → i < a + 3 → h3[i]? = h3[i]? := fun _ _ _ => rfl
  have M2 : ∀ i, i ≠ a → i < a + 3 → h3[i]? = h2[i]? := fun i i1 i2 => (M3 i i1 (by omega)).trans (m3 i i1 i2)
  have M1 : ∀ i, i ≠ a → i < a + 2 → h3[i]? = h1[i]? := fun i i1 i2 => (M2 i i1 (by omega)).trans (m2 i i1 i2)
  have M0 : ∀ i, i ≠ a → i < a + 1 → h3[i]? = h[i]? := fun i i1 i2 => (M1 i i1 (by omega)).trans (m1 i i1 i2)
  have T0 : ∀ i, i < a → h3[i]? = h[i]? := fun i hi => M0 i (by omega) (by omega)
  have p1 : h3[a + 1]? = some _ := (M1 (a + 1) (by omega) (by omega)).trans p1
  have p2 : h3[a + 2]? = some _ := (M2 (a + 2) (by omega) (by omega)).trans p2
  refine wr_vret rfl rfl ?_
  exact ⟨rfl, l3, T0, c3, p1, p2⟩
end CT1
