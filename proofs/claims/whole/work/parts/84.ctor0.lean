/-! CONSTRUCTORS: a new object at a, the last cell; what it makes lies behind it -/
def ex (n : Nat) (h h' : am_H) : Prop := ∀ i, i < n → h'[i]? = h[i]?
theorem ap_lt {h : am_H} {c : va_E} {i : Nat} (hi : i < h.length) : (h ++ [c])[i]? = h[i]? := List.getElem?_append_left hi
theorem ap_la {h : am_H} {c : va_E} {n : Nat} (hn : h.length = n) : (h ++ [c])[n]? = some c := by subst hn; simp
theorem ap_len {h : am_H} {c : va_E} {n : Nat} (hn : h.length = n) : (h ++ [c]).length = n + 1 := by simp [hn]
theorem set_len {h : am_H} {c : va_E} {a n : Nat} (hn : h.length = n) : (h.set a c).length = n := by simp [hn]
def Z0 : Nat → Int := fun _ => 0
section CT0
variable {X : Nat × (Nat → Int32)} {h : am_H} {a : Nat}
theorem ct_whole {d cap : Nat} (hc : h[a]? = some (.inr (5, am_dfl 5))) (hl : h.length = a + 1) (h1 : 1 ≤ cap ∧ cap ≤ 1000) : am_c X (d + 1) 5 [.ref a, .int (iI cap)] h (fun r h' => r = none ∧ h'.length = a + 2 ∧ ex a h h' ∧ isW h' a (a + 1) cap 0) := by
  refine am_c.of (Nat.le_of_ble_eq_true rfl) ?_
  show am_w _ _ _ (_, [_, _], _, _) _
  refine wr_aload_n rfl rfl rfl ?_
  refine wr_oinit rfl rfl rfl rfl ?_
  refine wr_aload_n rfl rfl rfl ?_
  refine wr_iconst rfl rfl ?_
  refine wr_iload_n rfl rfl rfl ?_
  refine wr_mmax rfl rfl rfl rfl (by omega) (by omega) ?_
  rw [show max (1 : Int) (cap : Int) = (cap : Int) by omega]
  refine wr_newl (n := cap) rfl rfl (by omega) ?_
  rw [hl]
  have cA : (h ++ [am_la cap fun _ => 0])[a]? = some _ := (ap_lt (by omega)).trans hc
  refine wr_putA (ci := 5) (f := 0) (fs' := [_, _]) rfl rfl rfl cA rfl rfl rfl (fun h1 e1 => ?_)
  refine wr_vret rfl rfl ?_
  refine ⟨rfl, by rw [e1]; exact set_len (ap_len hl), fun i hi => by rw [e1, am_set_n (by omega)]; exact ap_lt (by omega), fun _ => 0, 0, by rw [e1]; exact am_set_s cA, by rw [e1, am_set_n (by omega)]; exact ap_la hl, by omega, ?_, rfl⟩
  exact ⟨fun i hi => absurd hi (Nat.not_lt_zero _), fun q => absurd q (by omega)⟩
theorem ct_frac {d cap : Nat} (hc : h[a]? = some (.inr (8, am_dfl 8))) (hl : h.length = a + 1) (h1 : 1 ≤ cap ∧ cap ≤ 1000) : am_c X (d + 2) 9 [.ref a, .int (iI cap)] h (fun r h' => r = none ∧ h'.length = a + 5 ∧ ex a h h' ∧ isF h' a cap 0) := by
  refine am_c.of (Nat.le_of_ble_eq_true rfl) ?_
  show am_w _ _ _ (_, [_, _], _, _) _
  refine wr_aload_n rfl rfl rfl ?_
  refine wr_oinit rfl rfl rfl rfl ?_
  refine wr_aload_n rfl rfl rfl ?_
  refine wr_new rfl rfl rfl ?_
  rw [hl]
  refine wr_dup rfl rfl ?_
  refine wr_iload_n rfl rfl rfl ?_
  refine wr_ci1 (k' := 5) rfl rfl rfl rfl rfl (ct_whole (ap_la hl) (ap_len hl) h1) (fun r h2 q => ?_)
  obtain ⟨rfl, l1, x1, w1⟩ := q
  dsimp only [Option.toList, List.nil_append]
  have c1 : h2[a]? = some _ := (x1 a (by omega)).trans ((ap_lt (by omega)).trans hc)
  have t1 : ∀ i, i < a → h2[i]? = h[i]? := fun i hi => (x1 i (by omega)).trans (ap_lt (by omega))
  refine wr_putR (ci := 8) (f := 1) (fs' := [_, _, _]) rfl rfl rfl c1 rfl rfl rfl (fun h3 e3 => ?_)
  have c3 : h3[a]? = some _ := (by rw [e3]; exact am_set_s c1)
  have l3 : h3.length = a + 3 := by rw [e3]; exact set_len l1
  have w3 : isW h3 (a + 1) (a + 1 + 1) cap 0 := w1.same (lo := a + 1) (hi := a + 2) (fun i i1 i2 => by rw [e3, am_set_n (by omega)]) (by omega) (by omega)
  have t3 : ∀ i, i < a → h3[i]? = h[i]? := fun i hi => by rw [e3, am_set_n (by omega)]; exact t1 i hi
  clear e3
  refine wr_aload_n rfl rfl rfl ?_
  refine wr_new rfl rfl rfl ?_
  rw [l3]
  refine wr_dup rfl rfl ?_
  refine wr_iload_n rfl rfl rfl ?_
  refine wr_ci1 (k' := 5) rfl rfl rfl rfl rfl (ct_whole (ap_la l3) (ap_len l3) h1) (fun r h4 q => ?_)
  obtain ⟨rfl, l4, x4, w4⟩ := q
  dsimp only [Option.toList, List.nil_append]
  have c4 : h4[a]? = some _ := (x4 a (by omega)).trans ((ap_lt (by omega)).trans c3)
  refine wr_putR (ci := 8) (f := 2) (fs' := [_, _, _]) rfl rfl rfl c4 rfl rfl rfl (fun h5 e5 => ?_)
  have c5 : h5[a]? = some _ := (by rw [e5]; exact am_set_s c4)
  have l5 : h5.length = a + 5 := by rw [e5]; exact set_len l4
  have w5 : isW h5 (a + 1) (a + 1 + 1) cap 0 := w3.same (lo := a + 1) (hi := a + 2) (fun i i1 i2 => by rw [e5, am_set_n (by omega)]; exact (x4 i (by omega)).trans (ap_lt (by omega))) (by omega) (by omega)
  have v5 : isW h5 (a + 3) (a + 3 + 1) cap 0 := w4.same (lo := a + 3) (hi := a + 4) (fun i i1 i2 => by rw [e5, am_set_n (by omega)]) (by omega) (by omega)
  have t5 : ∀ i, i < a → h5[i]? = h[i]? := fun i hi => by rw [e5, am_set_n (by omega)]; exact (x4 i (by omega)).trans ((ap_lt (by omega)).trans (t3 i hi))
  clear e5
  obtain ⟨g6, n6, c6, c7, -⟩ := id v5
  refine wr_aload_n rfl rfl rfl ?_
  refine wr_get (ci := 8) (f := 2) rfl rfl rfl (by assumption) rfl ?_
  refine wr_lconst (z := 1) rfl rfl rfl ?_
  have big : (1000000000 : Int) ^ 1 ≤ 1000000000 ^ cap := bp_mono h1.1
  rw [show (1000000000 : Int) ^ 1 = 1000000000 by decide] at big
  refine wr_cv1 (k' := 10) (ci := 5) rfl rfl rfl rfl c6 rfl rfl (wp_put c6 c7 (by omega) (by decide) (by omega)) (fun r h7 q => ?_)
  obtain ⟨rfl, v7, f7⟩ := q
  dsimp only [Option.toList, List.nil_append]
  refine wr_vret rfl rfl ?_
  refine ⟨rfl, by rw [f7.1]; exact l5, fun i hi => (f7.2 i (by simp; omega)).trans (t5 i hi), ?_, w5.kept f7 (by simp) (by simp), v7⟩
  rw [f7.2 a (by simp; omega)]
  exact c5
end CT0
