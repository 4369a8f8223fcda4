/-! THE REFERENCE: WHAT ITS CALLS TELL -/
theorem qB.int {P : Nat} {x : Int} (h : (x.natAbs : Int) < 1000000000 ^ P) (hP : 1 ≤ P) : qB P (x : Rat) := by
  unfold qB
  rw [Rat.num_intCast, Rat.den_intCast]
  exact ⟨h, Int.lt_of_lt_of_le (by decide) (bp_mono hP)⟩
theorem sdH.qO {n : Nat} {off lev : Nat → Int} {sg : Int} {s : Sq} {eo el : Rat} (H : sdH n off lev sg s eo el) (i : Nat) (hi : i ≤ s.N) : qB 3 (OuQ s eo i) := by
  unfold OuQ
  split
  · rename_i c; exact H.q3 c.1
  · have := H.ok.2.2.1 i hi
    have := H.ok.1
    refine qB.int ?_ (by decide)
    rw [show (1000000000 : Int) ^ 3 = 1000000000000000000000000000 by decide]
    omega
section RRB
variable {X : Nat × (Nat → Int32)} {h0 h h' : am_H} {o o' : Nat → Int} {A A' : Nat → Nat → Int} {F F' : Nat → Rat} {z z' : PS}
theorem VS.cornB (V : VS z) : 0 ≤ cornN z ∧ cornN z ≤ 25 ∧ (z.wk = 1 → 1 ≤ cornN z ∧ cornN z = z.L.N + 1 + z.R.N) ∧ (z.wk = 0 → cornN z = 0) := by
  unfold cornN
  by_cases c : z.wk = 1
  · rw [if_pos c]
    obtain ⟨-, H1, H2⟩ := V.sec c
    have := H1.ok.1
    have := H2.ok.1
    omega
  · rw [if_neg c]
    have := V.wkb
    omega
theorem VS.cornQ (V : VS z) (c : z.wk = 1) {k : Int} (hk : 0 ≤ k ∧ k < cornN z) : qB 3 (cornO z k) := by
  obtain ⟨-, H1, H2⟩ := V.sec c
  have cb := (V.cornB.2.2.1 c).2
  unfold cornO
  split
  · exact (H1.qO _ (by omega)).neg
  · exact H2.qO _ (by omega)
theorem rr_isCorner {d : Nat} {k : Int} (w : FW h0 h o F A) (r : RC z o F A) (V : VS z) (hk : -2147483648 ≤ k ∧ k ≤ 2147483647) : am_c X (d + 1) 194 [.ref 164, .int (iI k)] h (fun r h' => r = some (.int (iI (b2 (0 ≤ k ∧ k < cornN z)))) ∧ h' = h) := by
  have cO := w.cO
  have e23 := r.1
  have cb := V.cornB
  unfold b2
  refine am_c.of (Nat.le_of_ble_eq_true rfl) ?_
  show am_w _ _ _ (_, [_, _], _, _) _
  by_cases c : 0 ≤ k ∧ k < cornN z
  ·
    rw [if_pos c]
    refine wr_iload_n rfl rfl rfl ?_
    refine wr_if_lt rfl rfl rfl (by omega) (fun c1 => by exfalso; omega) (fun c1 => ?_)
    refine wr_iload_n rfl rfl rfl ?_
    refine wr_aload_n rfl rfl rfl ?_
    refine wr_get (ci := 12) (f := 23) rfl rfl rfl (by assumption) rfl ?_
    rw [e23]
    refine wr_icmp_ge rfl rfl rfl (by omega) (by omega) (fun c9 => by exfalso; omega) (fun c9 => ?_)
    refine wr_iconst rfl rfl ?_
    refine wr_goto rfl rfl ?_
    refine wr_zret rfl rfl (by decide) ?_
    exact ⟨rfl, rfl⟩
  ·
    rw [if_neg c]
    by_cases c1 : k < 0
    ·
      refine wr_iload_n rfl rfl rfl ?_
      refine wr_if_lt rfl rfl rfl (by omega) (fun c1 => ?_) (fun c1 => by exfalso; omega)
      refine wr_iconst rfl rfl ?_
      refine wr_zret rfl rfl (by decide) ?_
      exact ⟨rfl, rfl⟩
    ·
      refine wr_iload_n rfl rfl rfl ?_
      refine wr_if_lt rfl rfl rfl (by omega) (fun c1 => by exfalso; omega) (fun c1 => ?_)
      refine wr_iload_n rfl rfl rfl ?_
      refine wr_aload_n rfl rfl rfl ?_
      refine wr_get (ci := 12) (f := 23) rfl rfl rfl (by assumption) rfl ?_
      rw [e23]
      refine wr_icmp_ge rfl rfl rfl (by omega) (by omega) (fun c9 => ?_) (fun c9 => by exfalso; omega)
      refine wr_iconst rfl rfl ?_
      refine wr_zret rfl rfl (by decide) ?_
      exact ⟨rfl, rfl⟩
theorem rr_bad {d : Nat} {p : Int} (hp : -2147483648 ≤ p ∧ p ≤ 2147483647) : am_c X (d + 1) 195 [.int (iI p)] h (fun r h' => r = some (.long (lI (missP p))) ∧ h' = h) := by
  unfold missP
  refine am_c.of (Nat.le_of_ble_eq_true rfl) ?_
  show am_w _ _ _ (_, [_], _, _) _
  by_cases c : p = -1
  ·
    rw [if_pos c]
    refine wr_iload_n rfl rfl rfl ?_
    refine wr_iconst rfl rfl ?_
    refine wr_icmp_ne rfl rfl rfl (by omega) (by omega) (fun c2 => by exfalso; omega) (fun c2 => ?_)
    refine wr_ldc2 (z := -2) rfl rfl rfl (by decide) ?_
    refine wr_goto rfl rfl ?_
    refine wr_lret rfl rfl ?_
    exact ⟨rfl, rfl⟩
  ·
    rw [if_neg c]
    refine wr_iload_n rfl rfl rfl ?_
    refine wr_iconst rfl rfl ?_
    refine wr_icmp_ne rfl rfl rfl (by omega) (by omega) (fun c2 => ?_) (fun c2 => by exfalso; omega)
    refine wr_ldc2 (z := -1) rfl rfl rfl (by decide) ?_
    refine wr_lret rfl rfl ?_
    exact ⟨rfl, rfl⟩
theorem rr_condition {d : Nat} {k : Int} (C : RR h z) (V : VS z) (hk : -2147483648 ≤ k ∧ k ≤ 2147483647) : am_c X (d + 1) 201 [.ref 164, .int (iI k)] h (fun r h' => r = some (.int (iI (if 0 ≤ k ∧ k < z.ch then z.tk k.toNat else -1))) ∧ h' = h) := by
  obtain ⟨o, F, A, w, r⟩ := C
  obtain ⟨e23, c0, cb, sc⟩ := r.c
  have cn := V.cornB
  have wk := V.wkb
  have cO := w.cO
  have cA := w.arr (p := 180) (n := 24) (by decide) (by decide)
  refine am_c.of (Nat.le_of_ble_eq_true rfl) ?_
  show am_w _ _ _ (_, [_, _], _, _) _
  by_cases c : 0 ≤ k ∧ k < z.ch
  · rw [if_pos c]
    have w1 : z.wk = 1 := by
      rcases wk with q | q
      · have := c0 q; omega
      · exact q
    obtain ⟨⟨e25, e27, -⟩, tk, -⟩ := sc w1
    have := cn.2.2.1 w1
    have tv := tk k.toNat (by omega)
    rw [e27] at cb
    refine wr_iload_n rfl rfl rfl ?_
    refine wr_if_lt rfl rfl rfl (by omega) (fun c1 => by exfalso; omega) (fun c1 => ?_)
    refine wr_iload_n rfl rfl rfl ?_
    refine wr_aload_n rfl rfl rfl ?_
    refine wr_get (ci := 12) (f := 27) rfl rfl rfl (by assumption) rfl ?_
    rw [e27]
    refine wr_icmp_ge rfl rfl rfl (by omega) (by omega) (fun c9 => by exfalso; omega) (fun c9 => ?_)
    refine wr_aload_n rfl rfl rfl ?_
    refine wr_get (ci := 12) (f := 23) rfl rfl rfl (by assumption) rfl ?_
    rw [e23]
    refine wr_if_le rfl rfl rfl (by omega) (fun c16 => by exfalso; omega) (fun c16 => ?_)
    refine wr_aload_n rfl rfl rfl ?_
    refine wr_get (ci := 12) (f := 28) rfl rfl rfl (by assumption) rfl ?_
    refine wr_iload_n rfl rfl rfl ?_
    refine wr_iald rfl rfl (by assumption) (by omega) (by omega) ?_
    rw [tv]
    refine wr_goto rfl rfl ?_
    refine wr_iret rfl rfl ?_
    exact ⟨rfl, rfl⟩
  · rw [if_neg c]
    by_cases c1 : k < 0
    ·
      refine wr_iload_n rfl rfl rfl ?_
      refine wr_if_lt rfl rfl rfl (by omega) (fun c1 => ?_) (fun c1 => by exfalso; omega)
      refine wr_iconst rfl rfl ?_
      refine wr_iret rfl rfl ?_
      exact ⟨rfl, rfl⟩
    · rcases wk with q | q
      · have z0 := cn.2.2.2 q
        by_cases c2 : k < o 27
        ·
          refine wr_iload_n rfl rfl rfl ?_
          refine wr_if_lt rfl rfl rfl (by omega) (fun c1 => by exfalso; omega) (fun c1 => ?_)
          refine wr_iload_n rfl rfl rfl ?_
          refine wr_aload_n rfl rfl rfl ?_
          refine wr_get (ci := 12) (f := 27) rfl rfl rfl (by assumption) rfl ?_
          skip
          refine wr_icmp_ge rfl rfl rfl (by omega) (by omega) (fun c9 => by exfalso; omega) (fun c9 => ?_)
          refine wr_aload_n rfl rfl rfl ?_
          refine wr_get (ci := 12) (f := 23) rfl rfl rfl (by assumption) rfl ?_
          rw [e23]
          refine wr_if_le rfl rfl rfl (by omega) (fun c16 => ?_) (fun c16 => by exfalso; omega)
          refine wr_iconst rfl rfl ?_
          refine wr_iret rfl rfl ?_
          exact ⟨rfl, rfl⟩
        ·
          refine wr_iload_n rfl rfl rfl ?_
          refine wr_if_lt rfl rfl rfl (by omega) (fun c1 => by exfalso; omega) (fun c1 => ?_)
          refine wr_iload_n rfl rfl rfl ?_
          refine wr_aload_n rfl rfl rfl ?_
          refine wr_get (ci := 12) (f := 27) rfl rfl rfl (by assumption) rfl ?_
          skip
          refine wr_icmp_ge rfl rfl rfl (by omega) (by omega) (fun c9 => ?_) (fun c9 => by exfalso; omega)
          refine wr_iconst rfl rfl ?_
          refine wr_iret rfl rfl ?_
          exact ⟨rfl, rfl⟩
      · obtain ⟨⟨e25, e27, -⟩, tk, -⟩ := sc q
        rw [e27] at cb
        refine wr_iload_n rfl rfl rfl ?_
        refine wr_if_lt rfl rfl rfl (by omega) (fun c1 => by exfalso; omega) (fun c1 => ?_)
        refine wr_iload_n rfl rfl rfl ?_
        refine wr_aload_n rfl rfl rfl ?_
        refine wr_get (ci := 12) (f := 27) rfl rfl rfl (by assumption) rfl ?_
        rw [e27]
        refine wr_icmp_ge rfl rfl rfl (by omega) (by omega) (fun c9 => ?_) (fun c9 => by exfalso; omega)
        refine wr_iconst rfl rfl ?_
        refine wr_iret rfl rfl ?_
        exact ⟨rfl, rfl⟩
theorem rr_code {d : Nat} {k : Int} (C : RR h z) (V : VS z) (hk : -2147483648 ≤ k ∧ k ≤ 2147483647) : am_c X (d + 2) 198 [.ref 164, .int (iI k)] h (fun r h' => r = some (.int (iI (if 0 ≤ k ∧ k < cornN z then (if k < z.L.N then z.L.cd (z.L.N - k).toNat else z.R.cd (k - z.L.N).toNat) else -1))) ∧ h' = h) := by
  obtain ⟨o, F, A, w, r⟩ := C
  obtain ⟨e23, c0, cb, sc⟩ := r.c
  have cn := V.cornB
  have wk := V.wkb
  have cO := w.cO
  have cA := w.arr (p := 178) (n := 26) (by decide) (by decide)
  have hb1 := b2_cs (p := 0 ≤ k ∧ k < cornN z)
  refine am_c.of (Nat.le_of_ble_eq_true rfl) ?_
  show am_w _ _ _ (_, [_, _], _, _) _
  refine wr_aload_n rfl rfl rfl ?_
  refine wr_iload_n rfl rfl rfl ?_
  refine wr_cv1 (k' := 194) (ci := 12) rfl rfl rfl rfl (by assumption) rfl rfl (rr_isCorner w r.c V hk) (fun r h2 q => ?_)
  obtain ⟨rfl, rfl⟩ := q
  by_cases c : 0 ≤ k ∧ k < cornN z
  · rw [if_pos c]
    have w1 : z.wk = 1 := by
      rcases wk with q | q
      · have := cn.2.2.2 q; omega
      · exact q
    obtain ⟨-, -, cs, -⟩ := sc w1
    have cv := (cs k.toNat (by omega)).1
    rw [show ((k.toNat : Nat) : Int) = k by omega] at cv
    refine wr_if_eq rfl rfl rfl (by omega) (fun c5 => by exfalso; omega) (fun c5 => ?_)
    refine wr_aload_n rfl rfl rfl ?_
    refine wr_get (ci := 12) (f := 24) rfl rfl rfl (by assumption) rfl ?_
    refine wr_iload_n rfl rfl rfl ?_
    refine wr_iald rfl rfl (by assumption) (by omega) (by omega) ?_
    rw [cv]
    refine wr_goto rfl rfl ?_
    refine wr_iret rfl rfl ?_
    exact ⟨rfl, rfl⟩
  ·
    rw [if_neg c]
    refine wr_if_eq rfl rfl rfl (by omega) (fun c5 => ?_) (fun c5 => by exfalso; omega)
    refine wr_iconst rfl rfl ?_
    refine wr_iret rfl rfl ?_
    exact ⟨rfl, rfl⟩
theorem rr_ended {d : Nat} {k : Int} (C : RR h z) (V : VS z) (hk : -2147483648 ≤ k ∧ k ≤ 2147483647) : am_c X (d + 1) 199 [.ref 164, .int (iI k)] h (fun r h' => r = some (.int (iI (b2 (z.wk = 1 ∧ ((k = -1 ∧ z.L.e = 1) ∨ (k = 1 ∧ z.R.e = 1)))))) ∧ h' = h) := by
  obtain ⟨o, F, A, w, r⟩ := C
  obtain ⟨e23, c0, cb, sc⟩ := r.c
  have cn := V.cornB
  have wk := V.wkb
  have cO := w.cO
  have cA := (w.setE (A 179)).1
  have hb1 := b2_cs (p := z.wk = 1 ∧ ((k = -1 ∧ z.L.e = 1) ∨ (k = 1 ∧ z.R.e = 1)))
  generalize b2 (z.wk = 1 ∧ ((k = -1 ∧ z.L.e = 1) ∨ (k = 1 ∧ z.R.e = 1))) = B at hb1 ⊢
  refine am_c.of (Nat.le_of_ble_eq_true rfl) ?_
  show am_w _ _ _ (_, [_, _], _, _) _
  rcases wk with q | q
  · have := cn.2.2.2 q
    obtain rfl : B = 0 := by omega
    refine wr_aload_n rfl rfl rfl ?_
    refine wr_get (ci := 12) (f := 23) rfl rfl rfl (by assumption) rfl ?_
    rw [e23]
    refine wr_if_le rfl rfl rfl (by omega) (fun c4 => ?_) (fun c4 => by exfalso; omega)
    refine wr_iconst rfl rfl ?_
    refine wr_zret rfl rfl (by decide) ?_
    exact ⟨rfl, rfl⟩
  · have := cn.2.2.1 q
    obtain ⟨-, -, -, ⟨eL, eR⟩, -⟩ := sc q
    obtain ⟨-, H1, H2⟩ := V.sec q
    have b1 := H1.ok.2.1
    have b2 := H2.ok.2.1
    by_cases k1 : k = -1
    · subst k1
      have ev : A 179 (Int.toNat (-1 + 1)) = z.L.e := eL
      by_cases e : z.L.e = 1
      ·
        obtain rfl : B = 1 := by omega
        refine wr_aload_n rfl rfl rfl ?_
        refine wr_get (ci := 12) (f := 23) rfl rfl rfl (by assumption) rfl ?_
        rw [e23]
        refine wr_if_le rfl rfl rfl (by omega) (fun c4 => by exfalso; omega) (fun c4 => ?_)
        refine wr_iload_n rfl rfl rfl ?_
        refine wr_iconst rfl rfl ?_
        refine wr_icmp_eq rfl rfl rfl (by omega) (by omega) (fun c9 => ?_) (fun c9 => by exfalso; omega)
        refine wr_aload_n rfl rfl rfl ?_
        refine wr_get (ci := 12) (f := 26) rfl rfl rfl (by assumption) rfl ?_
        refine wr_iload_n rfl rfl rfl ?_
        refine wr_iconst rfl rfl ?_
        refine wr_iadd rfl rfl ?_
        refine wr_zald rfl rfl (by assumption) (by omega) (by omega) ?_
        rw [ev]
        refine wr_if_eq rfl rfl rfl (by omega) (fun c25 => by exfalso; omega) (fun c25 => ?_)
        refine wr_iconst rfl rfl ?_
        refine wr_goto rfl rfl ?_
        refine wr_zret rfl rfl (by decide) ?_
        exact ⟨rfl, rfl⟩
      ·
        obtain rfl : B = 0 := by omega
        refine wr_aload_n rfl rfl rfl ?_
        refine wr_get (ci := 12) (f := 23) rfl rfl rfl (by assumption) rfl ?_
        rw [e23]
        refine wr_if_le rfl rfl rfl (by omega) (fun c4 => by exfalso; omega) (fun c4 => ?_)
        refine wr_iload_n rfl rfl rfl ?_
        refine wr_iconst rfl rfl ?_
        refine wr_icmp_eq rfl rfl rfl (by omega) (by omega) (fun c9 => ?_) (fun c9 => by exfalso; omega)
        refine wr_aload_n rfl rfl rfl ?_
        refine wr_get (ci := 12) (f := 26) rfl rfl rfl (by assumption) rfl ?_
        refine wr_iload_n rfl rfl rfl ?_
        refine wr_iconst rfl rfl ?_
        refine wr_iadd rfl rfl ?_
        refine wr_zald rfl rfl (by assumption) (by omega) (by omega) ?_
        rw [ev]
        refine wr_if_eq rfl rfl rfl (by omega) (fun c25 => ?_) (fun c25 => by exfalso; omega)
        refine wr_iconst rfl rfl ?_
        refine wr_zret rfl rfl (by decide) ?_
        exact ⟨rfl, rfl⟩
    by_cases k2 : k = 1
    · subst k2
      have ev : A 179 (Int.toNat (1 + 1)) = z.R.e := eR
      by_cases e : z.R.e = 1
      ·
        obtain rfl : B = 1 := by omega
        refine wr_aload_n rfl rfl rfl ?_
        refine wr_get (ci := 12) (f := 23) rfl rfl rfl (by assumption) rfl ?_
        rw [e23]
        refine wr_if_le rfl rfl rfl (by omega) (fun c4 => by exfalso; omega) (fun c4 => ?_)
        refine wr_iload_n rfl rfl rfl ?_
        refine wr_iconst rfl rfl ?_
        refine wr_icmp_eq rfl rfl rfl (by omega) (by omega) (fun c9 => by exfalso; omega) (fun c9 => ?_)
        refine wr_iload_n rfl rfl rfl ?_
        refine wr_iconst rfl rfl ?_
        refine wr_icmp_ne rfl rfl rfl (by omega) (by omega) (fun c14 => by exfalso; omega) (fun c14 => ?_)
        refine wr_aload_n rfl rfl rfl ?_
        refine wr_get (ci := 12) (f := 26) rfl rfl rfl (by assumption) rfl ?_
        refine wr_iload_n rfl rfl rfl ?_
        refine wr_iconst rfl rfl ?_
        refine wr_iadd rfl rfl ?_
        refine wr_zald rfl rfl (by assumption) (by omega) (by omega) ?_
        rw [ev]
        refine wr_if_eq rfl rfl rfl (by omega) (fun c25 => by exfalso; omega) (fun c25 => ?_)
        refine wr_iconst rfl rfl ?_
        refine wr_goto rfl rfl ?_
        refine wr_zret rfl rfl (by decide) ?_
        exact ⟨rfl, rfl⟩
      ·
        obtain rfl : B = 0 := by omega
        refine wr_aload_n rfl rfl rfl ?_
        refine wr_get (ci := 12) (f := 23) rfl rfl rfl (by assumption) rfl ?_
        rw [e23]
        refine wr_if_le rfl rfl rfl (by omega) (fun c4 => by exfalso; omega) (fun c4 => ?_)
        refine wr_iload_n rfl rfl rfl ?_
        refine wr_iconst rfl rfl ?_
        refine wr_icmp_eq rfl rfl rfl (by omega) (by omega) (fun c9 => by exfalso; omega) (fun c9 => ?_)
        refine wr_iload_n rfl rfl rfl ?_
        refine wr_iconst rfl rfl ?_
        refine wr_icmp_ne rfl rfl rfl (by omega) (by omega) (fun c14 => by exfalso; omega) (fun c14 => ?_)
        refine wr_aload_n rfl rfl rfl ?_
        refine wr_get (ci := 12) (f := 26) rfl rfl rfl (by assumption) rfl ?_
        refine wr_iload_n rfl rfl rfl ?_
        refine wr_iconst rfl rfl ?_
        refine wr_iadd rfl rfl ?_
        refine wr_zald rfl rfl (by assumption) (by omega) (by omega) ?_
        rw [ev]
        refine wr_if_eq rfl rfl rfl (by omega) (fun c25 => ?_) (fun c25 => by exfalso; omega)
        refine wr_iconst rfl rfl ?_
        refine wr_zret rfl rfl (by decide) ?_
        exact ⟨rfl, rfl⟩
    ·
      obtain rfl : B = 0 := by omega
      refine wr_aload_n rfl rfl rfl ?_
      refine wr_get (ci := 12) (f := 23) rfl rfl rfl (by assumption) rfl ?_
      rw [e23]
      refine wr_if_le rfl rfl rfl (by omega) (fun c4 => by exfalso; omega) (fun c4 => ?_)
      refine wr_iload_n rfl rfl rfl ?_
      refine wr_iconst rfl rfl ?_
      refine wr_icmp_eq rfl rfl rfl (by omega) (by omega) (fun c9 => by exfalso; omega) (fun c9 => ?_)
      refine wr_iload_n rfl rfl rfl ?_
      refine wr_iconst rfl rfl ?_
      refine wr_icmp_ne rfl rfl rfl (by omega) (by omega) (fun c14 => ?_) (fun c14 => by exfalso; omega)
      refine wr_iconst rfl rfl ?_
      refine wr_zret rfl rfl (by decide) ?_
      exact ⟨rfl, rfl⟩
theorem rr_count {d : Nat} {k : Int} (C : RR h z) (V : VS z) (hk : -2147483648 ≤ k ∧ k ≤ 2147483647) : am_c X (d + 1) 207 [.ref 164, .int (iI k)] h (fun r h' => r = some (.int (iI (countP z k))) ∧ h' = h) := by
  obtain ⟨o, F, A, w, r⟩ := C
  obtain ⟨e23, c0, cb, sc⟩ := r.c
  have cn := V.cornB
  have wk := V.wkb
  have cO := w.cO
  have e4 := r.t.1
  have e12 := r.m.1
  have e19 := r.g.1
  have e37 := r.k.1
  unfold countP
  refine am_c.of (Nat.le_of_ble_eq_true rfl) ?_
  show am_w _ _ _ (_, [_, _], _, _) _
  by_cases k0 : k = 0
  ·
    rw [if_pos k0]
    refine wr_iload_n rfl rfl rfl ?_
    refine sw_207_1 (by omega) (fun c1 => ?_) (fun c1 => by exfalso; omega) (fun c1 => by exfalso; omega) (fun c1 => by exfalso; omega) (fun c1 => by exfalso; omega) (fun c1 => by exfalso; omega) (fun c1_0 c1_1 c1_2 c1_3 c1_4 c1_5 => by exfalso; omega)
    refine wr_aload_n rfl rfl rfl ?_
    refine wr_get (ci := 12) (f := 12) rfl rfl rfl (by assumption) rfl ?_
    rw [e12]
    refine wr_iret rfl rfl ?_
    exact ⟨rfl, rfl⟩
  by_cases k1 : k = 1
  ·
    rw [if_neg k0, if_pos k1]
    refine wr_iload_n rfl rfl rfl ?_
    refine sw_207_1 (by omega) (fun c1 => by exfalso; omega) (fun c1 => ?_) (fun c1 => by exfalso; omega) (fun c1 => by exfalso; omega) (fun c1 => by exfalso; omega) (fun c1 => by exfalso; omega) (fun c1_0 c1_1 c1_2 c1_3 c1_4 c1_5 => by exfalso; omega)
    refine wr_aload_n rfl rfl rfl ?_
    refine wr_get (ci := 12) (f := 19) rfl rfl rfl (by assumption) rfl ?_
    rw [e19]
    refine wr_iret rfl rfl ?_
    exact ⟨rfl, rfl⟩
  by_cases k2 : k = 2
  ·
    rw [if_neg k0, if_neg k1, if_pos k2]
    refine wr_iload_n rfl rfl rfl ?_
    refine sw_207_1 (by omega) (fun c1 => by exfalso; omega) (fun c1 => by exfalso; omega) (fun c1 => ?_) (fun c1 => by exfalso; omega) (fun c1 => by exfalso; omega) (fun c1 => by exfalso; omega) (fun c1_0 c1_1 c1_2 c1_3 c1_4 c1_5 => by exfalso; omega)
    refine wr_aload_n rfl rfl rfl ?_
    refine wr_get (ci := 12) (f := 23) rfl rfl rfl (by assumption) rfl ?_
    rw [e23]
    refine wr_iret rfl rfl ?_
    exact ⟨rfl, rfl⟩
  by_cases k3 : k = 3
  ·
    rw [if_neg k0, if_neg k1, if_neg k2, if_pos k3]
    refine wr_iload_n rfl rfl rfl ?_
    refine sw_207_1 (by omega) (fun c1 => by exfalso; omega) (fun c1 => by exfalso; omega) (fun c1 => by exfalso; omega) (fun c1 => ?_) (fun c1 => by exfalso; omega) (fun c1 => by exfalso; omega) (fun c1_0 c1_1 c1_2 c1_3 c1_4 c1_5 => by exfalso; omega)
    refine wr_aload_n rfl rfl rfl ?_
    refine wr_get (ci := 12) (f := 37) rfl rfl rfl (by assumption) rfl ?_
    rw [e37]
    refine wr_iret rfl rfl ?_
    exact ⟨rfl, rfl⟩
  by_cases k4 : k = 4
  ·
    rw [if_neg k0, if_neg k1, if_neg k2, if_neg k3, if_pos k4]
    refine wr_iload_n rfl rfl rfl ?_
    refine sw_207_1 (by omega) (fun c1 => by exfalso; omega) (fun c1 => by exfalso; omega) (fun c1 => by exfalso; omega) (fun c1 => by exfalso; omega) (fun c1 => ?_) (fun c1 => by exfalso; omega) (fun c1_0 c1_1 c1_2 c1_3 c1_4 c1_5 => by exfalso; omega)
    refine wr_aload_n rfl rfl rfl ?_
    refine wr_get (ci := 12) (f := 4) rfl rfl rfl (by assumption) rfl ?_
    rw [e4]
    refine wr_iret rfl rfl ?_
    exact ⟨rfl, rfl⟩
  by_cases k5 : k = 5
  ·
    rw [if_neg k0, if_neg k1, if_neg k2, if_neg k3, if_neg k4, if_pos k5]
    rcases wk with q | q
    ·
      have := cn.2.2.2 q
      refine wr_iload_n rfl rfl rfl ?_
      refine sw_207_1 (by omega) (fun c1 => by exfalso; omega) (fun c1 => by exfalso; omega) (fun c1 => by exfalso; omega) (fun c1 => by exfalso; omega) (fun c1 => by exfalso; omega) (fun c1 => ?_) (fun c1_0 c1_1 c1_2 c1_3 c1_4 c1_5 => by exfalso; omega)
      refine wr_aload_n rfl rfl rfl ?_
      refine wr_get (ci := 12) (f := 23) rfl rfl rfl (by assumption) rfl ?_
      rw [e23]
      refine wr_if_le rfl rfl rfl (by omega) (fun c69 => ?_) (fun c69 => by exfalso; omega)
      refine wr_iconst rfl rfl ?_
      refine wr_iret rfl rfl ?_
      exact ⟨by rw [c0 q]; rfl, rfl⟩
    ·
      have := cn.2.2.1 q
      have e27 := (sc q).1.2.1
      refine wr_iload_n rfl rfl rfl ?_
      refine sw_207_1 (by omega) (fun c1 => by exfalso; omega) (fun c1 => by exfalso; omega) (fun c1 => by exfalso; omega) (fun c1 => by exfalso; omega) (fun c1 => by exfalso; omega) (fun c1 => ?_) (fun c1_0 c1_1 c1_2 c1_3 c1_4 c1_5 => by exfalso; omega)
      refine wr_aload_n rfl rfl rfl ?_
      refine wr_get (ci := 12) (f := 23) rfl rfl rfl (by assumption) rfl ?_
      rw [e23]
      refine wr_if_le rfl rfl rfl (by omega) (fun c69 => by exfalso; omega) (fun c69 => ?_)
      refine wr_aload_n rfl rfl rfl ?_
      refine wr_get (ci := 12) (f := 27) rfl rfl rfl (by assumption) rfl ?_
      rw [e27]
      refine wr_goto rfl rfl ?_
      refine wr_iret rfl rfl ?_
      exact ⟨rfl, rfl⟩
  ·
    rw [if_neg k0, if_neg k1, if_neg k2, if_neg k3, if_neg k4, if_neg k5]
    refine wr_iload_n rfl rfl rfl ?_
    refine sw_207_1 (by omega) (fun c1 => by exfalso; omega) (fun c1 => by exfalso; omega) (fun c1 => by exfalso; omega) (fun c1 => by exfalso; omega) (fun c1 => by exfalso; omega) (fun c1 => by exfalso; omega) (fun c1_0 c1_1 c1_2 c1_3 c1_4 c1_5 => ?_)
    refine wr_iconst rfl rfl ?_
    refine wr_iret rfl rfl ?_
    exact ⟨rfl, rfl⟩
theorem rr_corner {d : Nat} {k ax part : Int} (C : RR h z) (V : VS z) (hk : -2147483648 ≤ k ∧ k ≤ 2147483647) (hax : -2147483648 ≤ ax ∧ ax ≤ 2147483647) (hp : -2147483648 ≤ part ∧ part ≤ 2147483647) : am_c X (d + 3) 193 [.ref 164, .int (iI k), .int (iI ax), .int (iI part)] h (fun r h' => r = some (.long (lI (if (0 ≤ k ∧ k < cornN z) ∧ 0 ≤ ax ∧ ax ≤ 1 then tellP (if ax = 0 then cornO z k else cornL z k) 1 part else missP part))) ∧ h' = h) := by
  obtain ⟨o, F, A, w, r⟩ := C
  obtain ⟨e23, c0, cb, sc⟩ := r.c
  have cn := V.cornB
  have wk := V.wkb
  have cO := w.cO
  have hb1 := b2_cs (p := 0 ≤ k ∧ k < cornN z)
  refine am_c.of (Nat.le_of_ble_eq_true rfl) ?_
  show am_w _ _ _ (_, [_, _, _, _], _, _) _
  refine wr_aload_n rfl rfl rfl ?_
  refine wr_iload_n rfl rfl rfl ?_
  refine wr_cv1 (k' := 194) (ci := 12) rfl rfl rfl rfl (by assumption) rfl rfl (rr_isCorner w r.c V hk) (fun r h2 q => ?_)
  obtain ⟨rfl, rfl⟩ := q
  by_cases c : 0 ≤ k ∧ k < cornN z
  · have w1 : z.wk = 1 := by
      rcases wk with q | q
      · have := cn.2.2.2 q; omega
      · exact q
    obtain ⟨-, -, cs, -⟩ := sc w1
    obtain ⟨j, rfl⟩ := Int.eq_ofNat_of_zero_le c.1
    obtain ⟨-, f1, f2⟩ := cs j c.2
    by_cases a0 : ax = 0
    ·
      rw [if_pos ⟨c, by omega⟩, if_pos a0]
      refine wr_if_eq rfl rfl rfl (by omega) (fun c5 => by exfalso; omega) (fun c5 => ?_)
      refine wr_iload_n rfl rfl rfl ?_
      refine wr_if_lt rfl rfl rfl (by omega) (fun c9 => by exfalso; omega) (fun c9 => ?_)
      refine wr_iload_n rfl rfl rfl ?_
      refine wr_iconst rfl rfl ?_
      refine wr_icmp_le rfl rfl rfl (by omega) (by omega) (fun c14 => ?_) (fun c14 => by exfalso; omega)
      refine wr_aload_n rfl rfl rfl ?_
      refine wr_iload_n rfl rfl rfl ?_
      refine wr_if_ne rfl rfl rfl (by omega) (fun c26 => by exfalso; omega) (fun c26 => ?_)
      refine wr_iconst rfl rfl ?_
      refine wr_iload_n rfl rfl rfl ?_
      refine wr_iadd rfl rfl ?_
      refine wr_goto rfl rfl ?_
      refine wr_iload_n rfl rfl rfl ?_
      rw [show 0 + (j : Int) = j by omega]
      refine wr_cv2 (k' := 196) (ci := 12) rfl rfl rfl rfl (by assumption) rfl rfl (fw_tell w (by omega) hp) (fun r h2 q => ?_)
      obtain ⟨rfl, rfl⟩ := q
      refine wr_lret rfl rfl ?_
      exact ⟨by rw [f1], rfl⟩
    by_cases a1 : ax = 1
    ·
      rw [if_pos ⟨c, by omega⟩, if_neg a0]
      refine wr_if_eq rfl rfl rfl (by omega) (fun c5 => by exfalso; omega) (fun c5 => ?_)
      refine wr_iload_n rfl rfl rfl ?_
      refine wr_if_lt rfl rfl rfl (by omega) (fun c9 => by exfalso; omega) (fun c9 => ?_)
      refine wr_iload_n rfl rfl rfl ?_
      refine wr_iconst rfl rfl ?_
      refine wr_icmp_le rfl rfl rfl (by omega) (by omega) (fun c14 => ?_) (fun c14 => by exfalso; omega)
      refine wr_aload_n rfl rfl rfl ?_
      refine wr_iload_n rfl rfl rfl ?_
      refine wr_if_ne rfl rfl rfl (by omega) (fun c26 => ?_) (fun c26 => by exfalso; omega)
      refine wr_bipush rfl rfl (by decide) ?_
      refine wr_iload_n rfl rfl rfl ?_
      refine wr_iadd rfl rfl ?_
      refine wr_iload_n rfl rfl rfl ?_
      rw [show 26 + (j : Int) = ((26 + j : Nat) : Int) by omega]
      refine wr_cv2 (k' := 196) (ci := 12) rfl rfl rfl rfl (by assumption) rfl rfl (fw_tell w (by omega) hp) (fun r h2 q => ?_)
      obtain ⟨rfl, rfl⟩ := q
      refine wr_lret rfl rfl ?_
      exact ⟨by rw [f2], rfl⟩
    · rw [if_neg (by omega)]
      by_cases a2 : ax < 0
      ·
        refine wr_if_eq rfl rfl rfl (by omega) (fun c5 => by exfalso; omega) (fun c5 => ?_)
        refine wr_iload_n rfl rfl rfl ?_
        refine wr_if_lt rfl rfl rfl (by omega) (fun c9 => ?_) (fun c9 => by exfalso; omega)
        refine wr_iload_n rfl rfl rfl ?_
        refine wr_cs1 (k' := 195) rfl rfl rfl rfl rfl (rr_bad hp) (fun r h2 q => ?_)
        obtain ⟨rfl, rfl⟩ := q
        refine wr_goto rfl rfl ?_
        refine wr_lret rfl rfl ?_
        exact ⟨rfl, rfl⟩
      ·
        refine wr_if_eq rfl rfl rfl (by omega) (fun c5 => by exfalso; omega) (fun c5 => ?_)
        refine wr_iload_n rfl rfl rfl ?_
        refine wr_if_lt rfl rfl rfl (by omega) (fun c9 => by exfalso; omega) (fun c9 => ?_)
        refine wr_iload_n rfl rfl rfl ?_
        refine wr_iconst rfl rfl ?_
        refine wr_icmp_le rfl rfl rfl (by omega) (by omega) (fun c14 => by exfalso; omega) (fun c14 => ?_)
        refine wr_iload_n rfl rfl rfl ?_
        refine wr_cs1 (k' := 195) rfl rfl rfl rfl rfl (rr_bad hp) (fun r h2 q => ?_)
        obtain ⟨rfl, rfl⟩ := q
        refine wr_goto rfl rfl ?_
        refine wr_lret rfl rfl ?_
        exact ⟨rfl, rfl⟩
  ·
    rw [if_neg (fun q => c q.1)]
    refine wr_if_eq rfl rfl rfl (by omega) (fun c5 => ?_) (fun c5 => by exfalso; omega)
    refine wr_iload_n rfl rfl rfl ?_
    refine wr_cs1 (k' := 195) rfl rfl rfl rfl rfl (rr_bad hp) (fun r h2 q => ?_)
    obtain ⟨rfl, rfl⟩ := q
    refine wr_goto rfl rfl ?_
    refine wr_lret rfl rfl ?_
    exact ⟨rfl, rfl⟩
theorem rr_area {d : Nat} {x part : Int} (C : RR h z) (V : VS z) (hx : x = 0 ∨ x = 1) (hp : -2147483648 ≤ part ∧ part ≤ 2147483647) : am_c X (d + 3) 202 [.ref 164, .int (iI x), .int (iI part)] h (fun r h' => r = some (.long (lI (if z.wk = 1 then tellP (if x = 1 then areaC z else areaF z) 1 part else missP part))) ∧ h' = h) := by
  obtain ⟨o, F, A, w, r⟩ := C
  obtain ⟨e23, c0, cb, sc⟩ := r.c
  have cn := V.cornB
  have wk := V.wkb
  have cO := w.cO
  refine am_c.of (Nat.le_of_ble_eq_true rfl) ?_
  show am_w _ _ _ (_, [_, _, _], _, _) _
  by_cases w1 : z.wk = 1
  · have := cn.2.2.1 w1
    obtain ⟨f1, f2⟩ := (sc w1).2.2.2.2.1
    rw [if_pos w1]
    by_cases x1 : x = 1
    ·
      rw [if_pos x1]
      refine wr_aload_n rfl rfl rfl ?_
      refine wr_get (ci := 12) (f := 23) rfl rfl rfl (by assumption) rfl ?_
      rw [e23]
      refine wr_if_ne rfl rfl rfl (by omega) (fun c4 => ?_) (fun c4 => by exfalso; omega)
      refine wr_aload_n rfl rfl rfl ?_
      refine wr_iload_n rfl rfl rfl ?_
      refine wr_if_eq rfl rfl rfl (by omega) (fun c16 => by exfalso; omega) (fun c16 => ?_)
      refine wr_bipush rfl rfl (by decide) ?_
      refine wr_goto rfl rfl ?_
      refine wr_iload_n rfl rfl rfl ?_
      refine wr_cv2 (k' := 196) (ci := 12) rfl rfl rfl rfl (by assumption) rfl rfl (fw_tell (f := 52) w (by decide) hp) (fun r h2 q => ?_)
      obtain ⟨rfl, rfl⟩ := q
      refine wr_lret rfl rfl ?_
      exact ⟨by rw [f1], rfl⟩
    ·
      rw [if_neg x1]
      refine wr_aload_n rfl rfl rfl ?_
      refine wr_get (ci := 12) (f := 23) rfl rfl rfl (by assumption) rfl ?_
      rw [e23]
      refine wr_if_ne rfl rfl rfl (by omega) (fun c4 => ?_) (fun c4 => by exfalso; omega)
      refine wr_aload_n rfl rfl rfl ?_
      refine wr_iload_n rfl rfl rfl ?_
      refine wr_if_eq rfl rfl rfl (by omega) (fun c16 => ?_) (fun c16 => by exfalso; omega)
      refine wr_bipush rfl rfl (by decide) ?_
      refine wr_iload_n rfl rfl rfl ?_
      refine wr_cv2 (k' := 196) (ci := 12) rfl rfl rfl rfl (by assumption) rfl rfl (fw_tell (f := 53) w (by decide) hp) (fun r h2 q => ?_)
      obtain ⟨rfl, rfl⟩ := q
      refine wr_lret rfl rfl ?_
      exact ⟨by rw [f2], rfl⟩
  ·
    rw [if_neg w1]
    have := cn.2.2.2 (by omega)
    refine wr_aload_n rfl rfl rfl ?_
    refine wr_get (ci := 12) (f := 23) rfl rfl rfl (by assumption) rfl ?_
    rw [e23]
    refine wr_if_ne rfl rfl rfl (by omega) (fun c4 => by exfalso; omega) (fun c4 => ?_)
    refine wr_iload_n rfl rfl rfl ?_
    refine wr_cs1 (k' := 195) rfl rfl rfl rfl rfl (rr_bad hp) (fun r h2 q => ?_)
    obtain ⟨rfl, rfl⟩ := q
    refine wr_goto rfl rfl ?_
    refine wr_lret rfl rfl ?_
    exact ⟨rfl, rfl⟩
theorem RR.of (r : RS z o F A) (V : VS z) (w : FW h h' o F' A) (e : ∀ k, k < 94 → F' k = F k) : RR h' z ∧ frI [(164, 181)] h h' := ⟨⟨o, F', A, w.base.1, r.keep V.ksb (fun _ _ => rfl) (fun _ _ => rfl) e⟩, w.base.2⟩
theorem rr_passed {d : Nat} {k : Int} (C : RR h z) (V : VS z) (hk : -2147483648 ≤ k ∧ k ≤ 2147483647) : am_c X (d + 6) 200 [.ref 164, .int (iI k)] h (fun r h' => r = some (.int (iI (passV z k))) ∧ RR h' z ∧ frI [(164, 181)] h h') := by
  have C0 := C
  obtain ⟨o, F, A, w, r⟩ := C
  obtain ⟨e23, c0, cb, sc⟩ := r.c
  have cn := V.cornB
  have wk := V.wkb
  have cO := w.cO
  have cA := w.arr (p := 177) (n := 3) (by decide) (by decide)
  obtain ⟨-, -, l0, l2⟩ := r.x
  have la := V.la
  unfold passV
  refine am_c.of (Nat.le_of_ble_eq_true rfl) ?_
  show am_w _ _ _ (_, [_, _, _, _], _, _) _
  by_cases w1 : z.wk = 1
  · obtain ⟨cn1, cn2⟩ := cn.2.2.1 w1
    obtain ⟨-, H1, H2⟩ := V.sec w1
    have cs := (sc w1).2.2.1
    have u1 : OuQ z.L z.eL 0 = 0 ∨ 0 < z.L.N := by
      by_cases c : 0 < z.L.N
      · exact Or.inr c
      · refine Or.inl ?_
        unfold OuQ
        rw [if_neg (fun q => c (H1.fin q.1).1), H1.o0]
        rfl
    by_cases k1 : k = -1
    · subst k1
      rw [if_pos ⟨w1, rfl⟩]
      have ev : A 177 (Int.toNat (-1 + 1)) = z.ll := l0
      have f0 := (cs 0 (by omega)).2.1
      have co : F 0 = -(OuQ z.L z.eL z.L.N) := by
        rw [f0]
        unfold cornO
        split
        · rfl
        · rename_i c
          have n0 : z.L.N = 0 := by omega
          rcases u1 with u1 | u1
          · rw [n0, u1]
            show OuQ z.R z.eR 0 = -0
            unfold OuQ
            rw [if_neg (fun q => by have := (H2.fin q.1).1; omega), H2.o0]
            rfl
          · omega
      refine wr_aload_n rfl rfl rfl ?_
      refine wr_get (ci := 12) (f := 23) rfl rfl rfl (by assumption) rfl ?_
      rw [e23]
      refine wr_if_eq rfl rfl rfl (by omega) (fun c4 => by exfalso; omega) (fun c4 => ?_)
      refine wr_iload_n rfl rfl rfl ?_
      refine wr_iconst rfl rfl ?_
      refine wr_icmp_eq rfl rfl rfl (by omega) (by omega) (fun c9 => ?_) (fun c9 => by exfalso; omega)
      refine wr_iload_n rfl rfl rfl ?_
      refine wr_if_ge rfl rfl rfl (by omega) (fun c20 => by exfalso; omega) (fun c20 => ?_)
      refine wr_iconst rfl rfl ?_
      refine wr_goto rfl rfl ?_
      refine wr_istore_n (ls' := [_, _, _, _]) rfl rfl (Nat.le_of_ble_eq_true rfl) rfl ?_
      refine wr_aload_n rfl rfl rfl ?_
      refine wr_bipush rfl rfl (by decide) ?_
      refine wr_iload_n rfl rfl rfl ?_
      refine wr_i2l rfl rfl (by omega) ?_
      refine wr_aload_n rfl rfl rfl ?_
      refine wr_get (ci := 12) (f := 22) rfl rfl rfl (by assumption) rfl ?_
      refine wr_iload_n rfl rfl rfl ?_
      refine wr_iconst rfl rfl ?_
      refine wr_iadd rfl rfl ?_
      refine wr_iald rfl rfl (by assumption) (by omega) (by omega) ?_
      rw [ev]
      refine wr_i2l rfl rfl (by omega) ?_
      refine wr_lmul rfl rfl ?_
      refine wr_lconst (z := 1) rfl rfl rfl ?_
      refine wr_cv3 (k' := 140) (ci := 12) rfl rfl rfl rfl (by assumption) rfl rfl (fw_set (f := 94) (v := 1) w (by decide) (by omega) (by decide) (by decide)) (fun r h2 q => ?_)
      obtain ⟨rfl, w⟩ := q
      have cO := w.cO
      refine wr_aload_n rfl rfl rfl ?_
      refine wr_iconst rfl rfl ?_
      refine wr_iload_n rfl rfl rfl ?_
      refine wr_iadd rfl rfl ?_
      refine wr_bipush rfl rfl (by decide) ?_
      have qa : qB 3 (updR F 94 (Rat.divInt (-1 * z.ll) 1) 0) := by rw [updR_n (by decide), f0]; exact V.cornQ w1 (by omega)
      have qb : qB 3 (updR F 94 (Rat.divInt (-1 * z.ll) 1) 94) := by rw [updR_s]; exact qB.long (by omega) (by decide)
      refine wr_cv2 (k' := 186) (ci := 12) rfl rfl rfl rfl (by assumption) rfl rfl (fw_compare (a := 0) (b := 94) w (by decide) (by decide) qa qb (by decide)) (fun r h2 q => ?_)
      obtain ⟨⟨c, rfl, cb, c1, c2⟩, w⟩ := q
      rw [updR_n (by decide), updR_s, co, div1, show (-1 * z.ll) = -z.ll by omega, Rat.intCast_neg, Rat.neg_lt_neg_iff] at c1
      have fin := RR.of r V w (fun k hk => updR_n (by omega))
      have hb := b2_cs (p := (z.ll : Rat) < OuQ z.L z.eL z.L.N)
      generalize b2 ((z.ll : Rat) < OuQ z.L z.eL z.L.N) = B at hb ⊢
      by_cases cc : c < 0
      ·
        obtain rfl : B = 1 := hb.elim (fun q => q.1) (fun q => absurd (c1.mp cc) q.2)
        refine wr_istore_n (ls' := [_, _, _, _]) rfl rfl (Nat.le_of_ble_eq_true rfl) rfl ?_
        refine wr_iload_n rfl rfl rfl ?_
        refine wr_if_ge rfl rfl rfl (by omega) (fun c64 => by exfalso; omega) (fun c64 => ?_)
        refine wr_iload_n rfl rfl rfl ?_
        refine wr_if_ge rfl rfl rfl (by omega) (fun c68 => by exfalso; omega) (fun c68 => ?_)
        refine wr_iconst rfl rfl ?_
        refine wr_goto rfl rfl ?_
        refine wr_zret rfl rfl (by decide) ?_
        exact ⟨rfl, fin⟩
      ·
        obtain rfl : B = 0 := hb.elim (fun q => absurd (c1.mpr q.2) cc) (fun q => q.1)
        refine wr_istore_n (ls' := [_, _, _, _]) rfl rfl (Nat.le_of_ble_eq_true rfl) rfl ?_
        refine wr_iload_n rfl rfl rfl ?_
        refine wr_if_ge rfl rfl rfl (by omega) (fun c64 => by exfalso; omega) (fun c64 => ?_)
        refine wr_iload_n rfl rfl rfl ?_
        refine wr_if_ge rfl rfl rfl (by omega) (fun c68 => ?_) (fun c68 => by exfalso; omega)
        refine wr_iconst rfl rfl ?_
        refine wr_goto rfl rfl ?_
        refine wr_zret rfl rfl (by decide) ?_
        exact ⟨rfl, fin⟩
    by_cases k2 : k = 1
    · subst k2
      rw [if_neg (by omega), if_pos ⟨w1, rfl⟩]
      have ev : A 177 (Int.toNat (1 + 1)) = z.lr := l2
      obtain ⟨m, em⟩ : ∃ m : Nat, m = z.L.N + z.R.N := ⟨_, rfl⟩
      have fm := (cs m (by omega)).2.1
      have co : F m = OuQ z.R z.eR z.R.N := by
        rw [fm]
        unfold cornO
        rw [if_neg (by omega), show ((m : Int) - z.L.N).toNat = z.R.N by omega]
      refine wr_aload_n rfl rfl rfl ?_
      refine wr_get (ci := 12) (f := 23) rfl rfl rfl (by assumption) rfl ?_
      rw [e23]
      refine wr_if_eq rfl rfl rfl (by omega) (fun c4 => by exfalso; omega) (fun c4 => ?_)
      refine wr_iload_n rfl rfl rfl ?_
      refine wr_iconst rfl rfl ?_
      refine wr_icmp_eq rfl rfl rfl (by omega) (by omega) (fun c9 => by exfalso; omega) (fun c9 => ?_)
      refine wr_iload_n rfl rfl rfl ?_
      refine wr_iconst rfl rfl ?_
      refine wr_icmp_eq rfl rfl rfl (by omega) (by omega) (fun c14 => ?_) (fun c14 => by exfalso; omega)
      refine wr_iload_n rfl rfl rfl ?_
      refine wr_if_ge rfl rfl rfl (by omega) (fun c20 => ?_) (fun c20 => by exfalso; omega)
      refine wr_aload_n rfl rfl rfl ?_
      refine wr_get (ci := 12) (f := 23) rfl rfl rfl (by assumption) rfl ?_
      rw [e23]
      refine wr_iconst rfl rfl ?_
      refine wr_isub rfl rfl ?_
      refine wr_istore_n (ls' := [_, _, _, _]) rfl rfl (Nat.le_of_ble_eq_true rfl) rfl ?_
      refine wr_aload_n rfl rfl rfl ?_
      refine wr_bipush rfl rfl (by decide) ?_
      refine wr_iload_n rfl rfl rfl ?_
      refine wr_i2l rfl rfl (by omega) ?_
      refine wr_aload_n rfl rfl rfl ?_
      refine wr_get (ci := 12) (f := 22) rfl rfl rfl (by assumption) rfl ?_
      refine wr_iload_n rfl rfl rfl ?_
      refine wr_iconst rfl rfl ?_
      refine wr_iadd rfl rfl ?_
      refine wr_iald rfl rfl (by assumption) (by omega) (by omega) ?_
      rw [ev]
      refine wr_i2l rfl rfl (by omega) ?_
      refine wr_lmul rfl rfl ?_
      refine wr_lconst (z := 1) rfl rfl rfl ?_
      refine wr_cv3 (k' := 140) (ci := 12) rfl rfl rfl rfl (by assumption) rfl rfl (fw_set (f := 94) (v := 1) w (by decide) (by omega) (by decide) (by decide)) (fun r h2 q => ?_)
      obtain ⟨rfl, w⟩ := q
      have cO := w.cO
      refine wr_aload_n rfl rfl rfl ?_
      refine wr_iconst rfl rfl ?_
      refine wr_iload_n rfl rfl rfl ?_
      refine wr_iadd rfl rfl ?_
      refine wr_bipush rfl rfl (by decide) ?_
      rw [show 0 + (cornN z - 1) = (m : Int) by omega]
      have qa : qB 3 (updR F 94 (Rat.divInt (1 * z.lr) 1) m) := by rw [updR_n (by omega), fm]; exact V.cornQ w1 (by omega)
      have qb : qB 3 (updR F 94 (Rat.divInt (1 * z.lr) 1) 94) := by rw [updR_s]; exact qB.long (by omega) (by decide)
      refine wr_cv2 (k' := 186) (ci := 12) rfl rfl rfl rfl (by assumption) rfl rfl (fw_compare (a := m) (b := 94) w (by omega) (by decide) qa qb (by decide)) (fun r h2 q => ?_)
      obtain ⟨⟨c, rfl, cb, c1, c2⟩, w⟩ := q
      rw [updR_s, updR_n (show m ≠ 94 by omega), co, div1, show (1 * z.lr) = z.lr by omega] at c2
      have fin := RR.of r V w (fun k hk => updR_n (by omega))
      have hb := b2_cs (p := (z.lr : Rat) < OuQ z.R z.eR z.R.N)
      generalize b2 ((z.lr : Rat) < OuQ z.R z.eR z.R.N) = B at hb ⊢
      by_cases cc : 0 < c
      ·
        obtain rfl : B = 1 := hb.elim (fun q => q.1) (fun q => absurd (c2.mp cc) q.2)
        refine wr_istore_n (ls' := [_, _, _, _]) rfl rfl (Nat.le_of_ble_eq_true rfl) rfl ?_
        refine wr_iload_n rfl rfl rfl ?_
        refine wr_if_ge rfl rfl rfl (by omega) (fun c64 => ?_) (fun c64 => by exfalso; omega)
        refine wr_iload_n rfl rfl rfl ?_
        refine wr_if_le rfl rfl rfl (by omega) (fun c80 => by exfalso; omega) (fun c80 => ?_)
        refine wr_iconst rfl rfl ?_
        refine wr_goto rfl rfl ?_
        refine wr_zret rfl rfl (by decide) ?_
        exact ⟨rfl, fin⟩
      ·
        obtain rfl : B = 0 := hb.elim (fun q => absurd (c2.mpr q.2) cc) (fun q => q.1)
        refine wr_istore_n (ls' := [_, _, _, _]) rfl rfl (Nat.le_of_ble_eq_true rfl) rfl ?_
        refine wr_iload_n rfl rfl rfl ?_
        refine wr_if_ge rfl rfl rfl (by omega) (fun c64 => ?_) (fun c64 => by exfalso; omega)
        refine wr_iload_n rfl rfl rfl ?_
        refine wr_if_le rfl rfl rfl (by omega) (fun c80 => ?_) (fun c80 => by exfalso; omega)
        refine wr_iconst rfl rfl ?_
        refine wr_zret rfl rfl (by decide) ?_
        exact ⟨rfl, fin⟩
    ·
      rw [if_neg (by omega), if_neg (by omega)]
      refine wr_aload_n rfl rfl rfl ?_
      refine wr_get (ci := 12) (f := 23) rfl rfl rfl (by assumption) rfl ?_
      rw [e23]
      refine wr_if_eq rfl rfl rfl (by omega) (fun c4 => by exfalso; omega) (fun c4 => ?_)
      refine wr_iload_n rfl rfl rfl ?_
      refine wr_iconst rfl rfl ?_
      refine wr_icmp_eq rfl rfl rfl (by omega) (by omega) (fun c9 => by exfalso; omega) (fun c9 => ?_)
      refine wr_iload_n rfl rfl rfl ?_
      refine wr_iconst rfl rfl ?_
      refine wr_icmp_eq rfl rfl rfl (by omega) (by omega) (fun c14 => by exfalso; omega) (fun c14 => ?_)
      refine wr_iconst rfl rfl ?_
      refine wr_zret rfl rfl (by decide) ?_
      exact ⟨rfl, C0, frI_rf _ _⟩
  ·
    rw [if_neg (by omega), if_neg (by omega)]
    have := cn.2.2.2 (by omega)
    refine wr_aload_n rfl rfl rfl ?_
    refine wr_get (ci := 12) (f := 23) rfl rfl rfl (by assumption) rfl ?_
    rw [e23]
    refine wr_if_eq rfl rfl rfl (by omega) (fun c4 => ?_) (fun c4 => by exfalso; omega)
    refine wr_iconst rfl rfl ?_
    refine wr_zret rfl rfl (by decide) ?_
    exact ⟨rfl, C0, frI_rf _ _⟩
end RRB
