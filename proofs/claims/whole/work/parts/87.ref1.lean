/-! THE REFERENCE'S NUMBERS: compare, add -/
theorem nok_of {g : Nat → Int} {n : Nat} (h : ∀ i, i < n → 0 ≤ g i ∧ g i < 1000000000) (hv : 0 < n → 1000000000 ^ (n - 1) ≤ nv g n) : nok g n := by
  refine ⟨h, fun hn z => ?_⟩
  have a := hv hn
  obtain ⟨m, rfl⟩ : ∃ m, n = m + 1 := ⟨n - 1, by omega⟩
  rw [Nat.add_sub_cancel] at a z
  have b := (nv_nonneg (g := g) (n := m) (fun i hi => h i (by omega))).2
  have e : nv g (m + 1) = nv g m + g m * 1000000000 ^ m := rfl
  rw [e, z] at a
  omega
section RF1
variable {X : Nat × (Nat → Int32)} {h0 h h' : am_H} {o l s V : Nat → Int} {A : Nat → Nat → Int}
theorem RW.nn (w : RW h0 h o V A) {n : Nat} (hn : n < 260) : 0 ≤ V n := by
  obtain ⟨l, s, w, R⟩ := w
  obtain ⟨k, -, -, k3, k4⟩ := R n hn
  rw [← k4]
  exact (nv_nonneg k3.1).1
theorem mw_compare {d a b : Nat} (w : RW h0 h o V A) (ha : a < 260) (hb : b < 260) : am_c X (d + 1) 149 [.ref 164, .int (iI a), .int (iI b)] h (fun r h' => r = some (.int (iI (cmpI (V a) (V b)))) ∧ h' = h) := by
  obtain ⟨l, s, w, R⟩ := w
  obtain ⟨k, k1, k2, k3, k4⟩ := R a ha
  obtain ⟨m, m1, m2, m3, m4⟩ := R b hb
  rw [← k4, ← m4]
  have cO := w.ob
  have cL := w.li
  have cS := w.sz
  have L : m = k → ∀ i : Nat, i ≤ k → (∀ j, i ≤ j → j < k → blk l a j = blk l b j) → am_w X d 149 (45, [.ref 164, .int (iI a), .int (iI b), .int (iI ((i : Int) - 1))], [], h) (fun r h' => r = some (.int (iI (cmpI (nv (blk l a) k) (nv (blk l b) m)))) ∧ h' = h) := by
    intro mk i
    subst mk
    induction i with
    | zero =>
      intro hi he
      have h1 : nv (blk l a) m = nv (blk l b) m := by
        have := nv_split (g := blk l a) (g' := blk l b) (i := 0) (n := m) (by omega) he
        have h2 : nv (blk l a) 0 = 0 := rfl
        have h3 : nv (blk l b) 0 = 0 := rfl
        omega
      have h2 : cmpI (nv (blk l a) m) (nv (blk l b) m) = 0 := by have := cmpI_cases (nv (blk l a) m) (nv (blk l b) m); omega
      rw [h2]
      refine wr_iload_n rfl rfl rfl ?_
      refine wr_if_lt rfl rfl rfl (by omega) (fun c46 => ?_) (fun c46 => by exfalso; omega)
      refine wr_iload_n rfl rfl rfl ?_
      refine wr_if_ge rfl rfl rfl (by omega) (fun c83 => by exfalso; omega) (fun c83 => ?_)
      refine wr_iconst rfl rfl ?_
      refine wr_goto rfl rfl ?_
      refine wr_iret rfl rfl ?_
      exact ⟨rfl, rfl⟩
    | succ i ih =>
      intro hi he
      have d1 := k3.1 i (by omega)
      have d2 := m3.1 i (by omega)
      have va : l (260 * a + i) = blk l a i := rfl
      have vb : l (260 * b + i) = blk l b i := rfl
      have ixa : (260 * (a : Int) + (i : Int)) = ((260 * a + i : Nat) : Int) := by omega
      have ixb : (260 * (b : Int) + (i : Int)) = ((260 * b + i : Nat) : Int) := by omega
      rw [show ((i + 1 : Nat) : Int) - 1 = i by omega]
      by_cases c : blk l a i = blk l b i
      ·
        refine wr_iload_n rfl rfl rfl ?_
        refine wr_if_lt rfl rfl rfl (by omega) (fun c46 => by exfalso; omega) (fun c46 => ?_)
        refine wr_aload_n rfl rfl rfl ?_
        refine wr_get (ci := 12) (f := 0) rfl rfl rfl (by assumption) rfl ?_
        refine wr_sipush rfl rfl (by decide) ?_
        refine wr_iload_n rfl rfl rfl ?_
        refine wr_imul rfl rfl ?_
        refine wr_iload_n rfl rfl rfl ?_
        refine wr_iadd rfl rfl ?_
        rw [ixa]
        refine wr_iald rfl rfl (by assumption) (by omega) (by omega) ?_
        rw [Int.toNat_natCast, va]
        refine wr_aload_n rfl rfl rfl ?_
        refine wr_get (ci := 12) (f := 0) rfl rfl rfl (by assumption) rfl ?_
        refine wr_sipush rfl rfl (by decide) ?_
        refine wr_iload_n rfl rfl rfl ?_
        refine wr_imul rfl rfl ?_
        refine wr_iload_n rfl rfl rfl ?_
        refine wr_iadd rfl rfl ?_
        rw [ixb]
        refine wr_iald rfl rfl (by assumption) (by omega) (by omega) ?_
        rw [Int.toNat_natCast, vb]
        refine wr_icmp_ne rfl rfl rfl (by omega) (by omega) (fun c73 => by exfalso; omega) (fun c73 => ?_)
        refine wr_iinc (ls' := [_, _, _, _]) rfl rfl rfl rfl ?_
        refine wr_goto rfl rfl ?_
        refine ih (by omega) (fun j h1 h2 => ?_)
        by_cases e : j = i
        · subst e; exact c
        · exact he j (by omega) h2
      · by_cases c2 : blk l a i < blk l b i
        · have h1 := nv_gt (g := blk l b) (g' := blk l a) m3 k3 (i := i) (by omega) (fun j a b => (he j (by omega) b).symm) (by omega)
          have h2 : cmpI (nv (blk l a) m) (nv (blk l b) m) = -1 := by have := cmpI_cases (nv (blk l a) m) (nv (blk l b) m); omega
          rw [h2]
          refine wr_iload_n rfl rfl rfl ?_
          refine wr_if_lt rfl rfl rfl (by omega) (fun c46 => by exfalso; omega) (fun c46 => ?_)
          refine wr_aload_n rfl rfl rfl ?_
          refine wr_get (ci := 12) (f := 0) rfl rfl rfl (by assumption) rfl ?_
          refine wr_sipush rfl rfl (by decide) ?_
          refine wr_iload_n rfl rfl rfl ?_
          refine wr_imul rfl rfl ?_
          refine wr_iload_n rfl rfl rfl ?_
          refine wr_iadd rfl rfl ?_
          rw [ixa]
          refine wr_iald rfl rfl (by assumption) (by omega) (by omega) ?_
          rw [Int.toNat_natCast, va]
          refine wr_aload_n rfl rfl rfl ?_
          refine wr_get (ci := 12) (f := 0) rfl rfl rfl (by assumption) rfl ?_
          refine wr_sipush rfl rfl (by decide) ?_
          refine wr_iload_n rfl rfl rfl ?_
          refine wr_imul rfl rfl ?_
          refine wr_iload_n rfl rfl rfl ?_
          refine wr_iadd rfl rfl ?_
          rw [ixb]
          refine wr_iald rfl rfl (by assumption) (by omega) (by omega) ?_
          rw [Int.toNat_natCast, vb]
          refine wr_icmp_ne rfl rfl rfl (by omega) (by omega) (fun c73 => ?_) (fun c73 => by exfalso; omega)
          refine wr_iload_n rfl rfl rfl ?_
          refine wr_if_ge rfl rfl rfl (by omega) (fun c83 => ?_) (fun c83 => by exfalso; omega)
          refine wr_aload_n rfl rfl rfl ?_
          refine wr_get (ci := 12) (f := 0) rfl rfl rfl (by assumption) rfl ?_
          refine wr_sipush rfl rfl (by decide) ?_
          refine wr_iload_n rfl rfl rfl ?_
          refine wr_imul rfl rfl ?_
          refine wr_iload_n rfl rfl rfl ?_
          refine wr_iadd rfl rfl ?_
          rw [ixa]
          refine wr_iald rfl rfl (by assumption) (by omega) (by omega) ?_
          rw [Int.toNat_natCast, va]
          refine wr_aload_n rfl rfl rfl ?_
          refine wr_get (ci := 12) (f := 0) rfl rfl rfl (by assumption) rfl ?_
          refine wr_sipush rfl rfl (by decide) ?_
          refine wr_iload_n rfl rfl rfl ?_
          refine wr_imul rfl rfl ?_
          refine wr_iload_n rfl rfl rfl ?_
          refine wr_iadd rfl rfl ?_
          rw [ixb]
          refine wr_iald rfl rfl (by assumption) (by omega) (by omega) ?_
          rw [Int.toNat_natCast, vb]
          refine wr_icmp_ge rfl rfl rfl (by omega) (by omega) (fun c114 => by exfalso; omega) (fun c114 => ?_)
          refine wr_iconst rfl rfl ?_
          refine wr_goto rfl rfl ?_
          refine wr_iret rfl rfl ?_
          exact ⟨rfl, rfl⟩
        · have h1 := nv_gt (g := blk l a) (g' := blk l b) k3 m3 (i := i) (by omega) (fun j a b => he j (by omega) b) (by omega)
          have h2 : cmpI (nv (blk l a) m) (nv (blk l b) m) = 1 := by have := cmpI_cases (nv (blk l a) m) (nv (blk l b) m); omega
          rw [h2]
          refine wr_iload_n rfl rfl rfl ?_
          refine wr_if_lt rfl rfl rfl (by omega) (fun c46 => by exfalso; omega) (fun c46 => ?_)
          refine wr_aload_n rfl rfl rfl ?_
          refine wr_get (ci := 12) (f := 0) rfl rfl rfl (by assumption) rfl ?_
          refine wr_sipush rfl rfl (by decide) ?_
          refine wr_iload_n rfl rfl rfl ?_
          refine wr_imul rfl rfl ?_
          refine wr_iload_n rfl rfl rfl ?_
          refine wr_iadd rfl rfl ?_
          rw [ixa]
          refine wr_iald rfl rfl (by assumption) (by omega) (by omega) ?_
          rw [Int.toNat_natCast, va]
          refine wr_aload_n rfl rfl rfl ?_
          refine wr_get (ci := 12) (f := 0) rfl rfl rfl (by assumption) rfl ?_
          refine wr_sipush rfl rfl (by decide) ?_
          refine wr_iload_n rfl rfl rfl ?_
          refine wr_imul rfl rfl ?_
          refine wr_iload_n rfl rfl rfl ?_
          refine wr_iadd rfl rfl ?_
          rw [ixb]
          refine wr_iald rfl rfl (by assumption) (by omega) (by omega) ?_
          rw [Int.toNat_natCast, vb]
          refine wr_icmp_ne rfl rfl rfl (by omega) (by omega) (fun c73 => ?_) (fun c73 => by exfalso; omega)
          refine wr_iload_n rfl rfl rfl ?_
          refine wr_if_ge rfl rfl rfl (by omega) (fun c83 => ?_) (fun c83 => by exfalso; omega)
          refine wr_aload_n rfl rfl rfl ?_
          refine wr_get (ci := 12) (f := 0) rfl rfl rfl (by assumption) rfl ?_
          refine wr_sipush rfl rfl (by decide) ?_
          refine wr_iload_n rfl rfl rfl ?_
          refine wr_imul rfl rfl ?_
          refine wr_iload_n rfl rfl rfl ?_
          refine wr_iadd rfl rfl ?_
          rw [ixa]
          refine wr_iald rfl rfl (by assumption) (by omega) (by omega) ?_
          rw [Int.toNat_natCast, va]
          refine wr_aload_n rfl rfl rfl ?_
          refine wr_get (ci := 12) (f := 0) rfl rfl rfl (by assumption) rfl ?_
          refine wr_sipush rfl rfl (by decide) ?_
          refine wr_iload_n rfl rfl rfl ?_
          refine wr_imul rfl rfl ?_
          refine wr_iload_n rfl rfl rfl ?_
          refine wr_iadd rfl rfl ?_
          rw [ixb]
          refine wr_iald rfl rfl (by assumption) (by omega) (by omega) ?_
          rw [Int.toNat_natCast, vb]
          refine wr_icmp_ge rfl rfl rfl (by omega) (by omega) (fun c114 => ?_) (fun c114 => by exfalso; omega)
          refine wr_iconst rfl rfl ?_
          refine wr_iret rfl rfl ?_
          exact ⟨rfl, rfl⟩
  refine am_c.of (Nat.le_of_ble_eq_true rfl) ?_
  show am_w _ _ _ (_, [_, _, _, _], _, _) _
  by_cases c : k = m
  ·
    refine wr_aload_n rfl rfl rfl ?_
    refine wr_get (ci := 12) (f := 1) rfl rfl rfl (by assumption) rfl ?_
    refine wr_iload_n rfl rfl rfl ?_
    refine wr_iald rfl rfl (by assumption) (by omega) (by omega) ?_
    rw [Int.toNat_natCast, k1]
    refine wr_aload_n rfl rfl rfl ?_
    refine wr_get (ci := 12) (f := 1) rfl rfl rfl (by assumption) rfl ?_
    refine wr_iload_n rfl rfl rfl ?_
    refine wr_iald rfl rfl (by assumption) (by omega) (by omega) ?_
    rw [Int.toNat_natCast, m1]
    refine wr_icmp_eq rfl rfl rfl (by omega) (by omega) (fun c12 => ?_) (fun c12 => by exfalso; omega)
    refine wr_aload_n rfl rfl rfl ?_
    refine wr_get (ci := 12) (f := 1) rfl rfl rfl (by assumption) rfl ?_
    refine wr_iload_n rfl rfl rfl ?_
    refine wr_iald rfl rfl (by assumption) (by omega) (by omega) ?_
    rw [Int.toNat_natCast, k1]
    refine wr_iconst rfl rfl ?_
    refine wr_isub rfl rfl ?_
    refine wr_istore_n (ls' := [_, _, _, _]) rfl rfl (Nat.le_of_ble_eq_true rfl) rfl ?_
    exact L c.symm k (Nat.le_refl _) (fun j a b => by omega)
  · by_cases c2 : k < m
    · have h1 := nv_short (g := blk l b) (g' := blk l a) m3 k3 c2
      have h2 : cmpI (nv (blk l a) k) (nv (blk l b) m) = -1 := by have := cmpI_cases (nv (blk l a) k) (nv (blk l b) m); omega
      rw [h2]
      refine wr_aload_n rfl rfl rfl ?_
      refine wr_get (ci := 12) (f := 1) rfl rfl rfl (by assumption) rfl ?_
      refine wr_iload_n rfl rfl rfl ?_
      refine wr_iald rfl rfl (by assumption) (by omega) (by omega) ?_
      rw [Int.toNat_natCast, k1]
      refine wr_aload_n rfl rfl rfl ?_
      refine wr_get (ci := 12) (f := 1) rfl rfl rfl (by assumption) rfl ?_
      refine wr_iload_n rfl rfl rfl ?_
      refine wr_iald rfl rfl (by assumption) (by omega) (by omega) ?_
      rw [Int.toNat_natCast, m1]
      refine wr_icmp_eq rfl rfl rfl (by omega) (by omega) (fun c12 => by exfalso; omega) (fun c12 => ?_)
      refine wr_aload_n rfl rfl rfl ?_
      refine wr_get (ci := 12) (f := 1) rfl rfl rfl (by assumption) rfl ?_
      refine wr_iload_n rfl rfl rfl ?_
      refine wr_iald rfl rfl (by assumption) (by omega) (by omega) ?_
      rw [Int.toNat_natCast, k1]
      refine wr_aload_n rfl rfl rfl ?_
      refine wr_get (ci := 12) (f := 1) rfl rfl rfl (by assumption) rfl ?_
      refine wr_iload_n rfl rfl rfl ?_
      refine wr_iald rfl rfl (by assumption) (by omega) (by omega) ?_
      rw [Int.toNat_natCast, m1]
      refine wr_icmp_ge rfl rfl rfl (by omega) (by omega) (fun c27 => by exfalso; omega) (fun c27 => ?_)
      refine wr_iconst rfl rfl ?_
      refine wr_goto rfl rfl ?_
      refine wr_iret rfl rfl ?_
      exact ⟨rfl, rfl⟩
    · have h1 := nv_short (g := blk l a) (g' := blk l b) k3 m3 (by omega)
      have h2 : cmpI (nv (blk l a) k) (nv (blk l b) m) = 1 := by have := cmpI_cases (nv (blk l a) k) (nv (blk l b) m); omega
      rw [h2]
      refine wr_aload_n rfl rfl rfl ?_
      refine wr_get (ci := 12) (f := 1) rfl rfl rfl (by assumption) rfl ?_
      refine wr_iload_n rfl rfl rfl ?_
      refine wr_iald rfl rfl (by assumption) (by omega) (by omega) ?_
      rw [Int.toNat_natCast, k1]
      refine wr_aload_n rfl rfl rfl ?_
      refine wr_get (ci := 12) (f := 1) rfl rfl rfl (by assumption) rfl ?_
      refine wr_iload_n rfl rfl rfl ?_
      refine wr_iald rfl rfl (by assumption) (by omega) (by omega) ?_
      rw [Int.toNat_natCast, m1]
      refine wr_icmp_eq rfl rfl rfl (by omega) (by omega) (fun c12 => by exfalso; omega) (fun c12 => ?_)
      refine wr_aload_n rfl rfl rfl ?_
      refine wr_get (ci := 12) (f := 1) rfl rfl rfl (by assumption) rfl ?_
      refine wr_iload_n rfl rfl rfl ?_
      refine wr_iald rfl rfl (by assumption) (by omega) (by omega) ?_
      rw [Int.toNat_natCast, k1]
      refine wr_aload_n rfl rfl rfl ?_
      refine wr_get (ci := 12) (f := 1) rfl rfl rfl (by assumption) rfl ?_
      refine wr_iload_n rfl rfl rfl ?_
      refine wr_iald rfl rfl (by assumption) (by omega) (by omega) ?_
      rw [Int.toNat_natCast, m1]
      refine wr_icmp_ge rfl rfl rfl (by omega) (by omega) (fun c27 => ?_) (fun c27 => by exfalso; omega)
      refine wr_iconst rfl rfl ?_
      refine wr_iret rfl rfl ?_
      exact ⟨rfl, rfl⟩
theorem mw_add {d t a b : Nat} (w : RW h0 h o V A) (ht : t < 260) (ha : a < 260) (hb : b < 260) (fit : V a + V b < 1000000000 ^ 260) : am_c X (d + 1) 151 [.ref 164, .int (iI t), .int (iI a), .int (iI b)] h (fun r h' => r = none ∧ RW h0 h' o (updI V t (V a + V b)) A) := by
  obtain ⟨l, s, w, R⟩ := w
  obtain ⟨k, k1, k2, k3, k4⟩ := R a ha
  obtain ⟨m, m1, m2, m3, m4⟩ := R b hb
  have na := nv_nonneg k3.1
  have nb := nv_nonneg m3.1
  obtain ⟨N, eN⟩ : ∃ N : Nat, N = max k m := ⟨_, rfl⟩
  have low : 0 < N → 1000000000 ^ (N - 1) ≤ V a + V b := fun q => by
    by_cases c : k ≤ m
    · have := nv_low m3 (by omega)
      rw [show N = m by omega]; omega
    · have := nv_low k3 (by omega)
      rw [show N = k by omega]; omega
  have cap : ∀ i : Nat, 1000000000 ^ i ≤ V a + V b → i < 260 := fun i q => Decidable.byContradiction fun c => by
    have := bp_mono (m := 260) (n := i) (by omega)
    omega
  have L : ∀ (c i : Nat) (l1 : Nat → Int) (h1 : am_H) (cy : Int) (x8 : Value), i + c = N + 1 → (cy = 0 ∨ cy = 1) → (i = N + 1 → cy = 0 ∧ 1000000000 ^ N ≤ V a + V b) → (∀ j, j < i → 0 ≤ blk l1 t j ∧ blk l1 t j < 1000000000) → nv (blk l1 t) i + cy * 1000000000 ^ i = nv (ext (blk l a) k) i + nv (ext (blk l b) m) i → (∀ j, i ≤ j → j < 260 → l1 (260 * a + j) = l (260 * a + j) ∧ l1 (260 * b + j) = l (260 * b + j)) → agr t l s l1 s → MW h0 h1 o l1 s A → am_w X d 151 (38, [.ref 164, .int (iI t), .int (iI a), .int (iI b), .int (iI N), .long (lI cy), am_U, .int (iI i), x8, am_U], [], h1) (fun r h' => r = none ∧ RW h0 h' o (updI V t (V a + V b)) A) := by
    intro c
    induction c with
    | zero =>
      intro i l1 h1 cy x8 hi hcy hlast hd hv hk ag w
      obtain ⟨hc0, hB⟩ := hlast (by omega)
      subst hc0
      have iN := cap N hB
      have cO := w.ob
      have cL := w.li
      have cS := w.sz
      refine wr_iload rfl rfl rfl ?_
      refine wr_iload rfl rfl rfl ?_
      refine wr_icmp_lt rfl rfl rfl (by omega) (by omega) (fun c42 => by exfalso; omega) (fun c42 => ?_)
      refine wr_lload rfl rfl rfl ?_
      refine wr_lconst (z := 0) rfl rfl rfl ?_
      refine wr_l_le rfl rfl rfl rfl rfl (by omega) (by omega) (fun c48 => ?_) (fun c48 => by exfalso; omega)
      refine wr_aload_n rfl rfl rfl ?_
      refine wr_get (ci := 12) (f := 1) rfl rfl rfl (by assumption) rfl ?_
      refine wr_iload_n rfl rfl rfl ?_
      refine wr_iload rfl rfl rfl ?_
      refine wr_iast rfl rfl (by assumption) (by omega) (by omega) (fun h1 e1 => ?_)
      rw [Int.toNat_natCast] at e1
      have w := e1 ▸ w.setS (updI s t (i : Int))
      refine wr_vret rfl rfl ?_
      have val : nv (blk l1 t) i = V a + V b := by rw [nv_ext (by omega), nv_ext (by omega), k4, m4] at hv; omega
      refine ⟨rfl, l1, _, w, R.set ag.size ⟨i, updI_s _ _ _, by omega, nok_of hd (fun _ => ?_), val⟩⟩
      rw [val, show i - 1 = N by omega]; exact hB
    | succ c ih =>
      intro i l1 h1 cy x8 hi hcy hlast hd hv hk ag w
      have fin : i = N → cy = 0 → am_w X d 151 (38, [.ref 164, .int (iI t), .int (iI a), .int (iI b), .int (iI N), .long (lI cy), am_U, .int (iI i), x8, am_U], [], h1) (fun r h' => r = none ∧ RW h0 h' o (updI V t (V a + V b)) A) := by
        intro iN hc0
        subst hc0
        have cO := w.ob
        have cL := w.li
        have cS := w.sz
        refine wr_iload rfl rfl rfl ?_
        refine wr_iload rfl rfl rfl ?_
        refine wr_icmp_lt rfl rfl rfl (by omega) (by omega) (fun c42 => by exfalso; omega) (fun c42 => ?_)
        refine wr_lload rfl rfl rfl ?_
        refine wr_lconst (z := 0) rfl rfl rfl ?_
        refine wr_l_le rfl rfl rfl rfl rfl (by omega) (by omega) (fun c48 => ?_) (fun c48 => by exfalso; omega)
        refine wr_aload_n rfl rfl rfl ?_
        refine wr_get (ci := 12) (f := 1) rfl rfl rfl (by assumption) rfl ?_
        refine wr_iload_n rfl rfl rfl ?_
        refine wr_iload rfl rfl rfl ?_
        refine wr_iast rfl rfl (by assumption) (by omega) (by omega) (fun h1 e1 => ?_)
        rw [Int.toNat_natCast] at e1
        have w := e1 ▸ w.setS (updI s t (i : Int))
        refine wr_vret rfl rfl ?_
        have val : nv (blk l1 t) i = V a + V b := by rw [nv_ext (by omega), nv_ext (by omega), k4, m4] at hv; omega
        refine ⟨rfl, l1, _, w, R.set ag.size ⟨i, updI_s _ _ _, by omega, nok_of hd (fun q => ?_), val⟩⟩
        rw [val, iN]; exact low (by omega)
      by_cases stop : i = N ∧ cy = 0
      · exact fin stop.1 stop.2
      have i260 : i < 260 := by
        by_cases q : i < N
        · omega
        · refine cap i ?_
          have e1 : i = N := by omega
          have e2 : cy = 1 := by omega
          rw [e2, nv_ext (by omega), nv_ext (by omega), k4, m4] at hv
          have := (nv_nonneg hd).1
          omega
      have ea := ext_in k3 i
      have eb := ext_in m3 i
      have ixa : (260 * (a : Int) + (i : Int)) = ((260 * a + i : Nat) : Int) := by omega
      have ixb : (260 * (b : Int) + (i : Int)) = ((260 * b + i : Nat) : Int) := by omega
      have ixt : (260 * (t : Int) + (i : Int)) = ((260 * t + i : Nat) : Int) := by omega
      have hki := hk i (Nat.le_refl _) i260
      have eA : i < k → l1 (260 * a + i) = ext (blk l a) k i := fun q => by rw [ext_lt q]; exact hki.1
      have eB : i < m → l1 (260 * b + i) = ext (blk l b) m i := fun q => by rw [ext_lt q]; exact hki.2
      have eA0 : ¬ i < k → ext (blk l a) k i = 0 := fun q => ext_ge (by omega)
      have eB0 : ¬ i < m → ext (blk l b) m i = 0 := fun q => ext_ge (by omega)
      obtain ⟨S, eS⟩ : ∃ S, S = cy + ext (blk l a) k i + ext (blk l b) m i := ⟨_, rfl⟩
      have Sb : 0 ≤ S ∧ S < 2000000000 := by omega
      have sd : S = 1000000000 * (S / 1000000000) + S % 1000000000 := (Int.mul_ediv_add_emod S 1000000000).symm
      have cO := w.ob
      have cL := w.li
      have cS := w.sz
      have J : am_w X d 151 (124, [.ref 164, .int (iI t), .int (iI a), .int (iI b), .int (iI N), .long (lI cy), am_U, .int (iI i), .long (lI S), am_U], [], h1) (fun r h' => r = none ∧ RW h0 h' o (updI V t (V a + V b)) A) := by
        refine wr_aload_n rfl rfl rfl ?_
        refine wr_get (ci := 12) (f := 0) rfl rfl rfl (by assumption) rfl ?_
        refine wr_sipush rfl rfl (by decide) ?_
        refine wr_iload_n rfl rfl rfl ?_
        refine wr_imul rfl rfl ?_
        refine wr_iload rfl rfl rfl ?_
        refine wr_iadd rfl rfl ?_
        rw [ixt]
        refine wr_lload rfl rfl rfl ?_
        refine wr_ldc2 (z := 1000000000) rfl rfl rfl (by decide) ?_
        refine wr_lremN rfl rfl (by omega) (by omega) (by omega) (by omega) ?_
        refine wr_l2i rfl rfl ?_
        refine wr_iast rfl rfl (by assumption) (by omega) (by omega) (fun h1 e1 => ?_)
        rw [Int.toNat_natCast] at e1
        have w := e1 ▸ w.setL (updI l1 (260 * t + i) (S % 1000000000))
        clear e1
        refine wr_lload rfl rfl rfl ?_
        refine wr_ldc2 (z := 1000000000) rfl rfl rfl (by decide) ?_
        refine wr_ldivN rfl rfl (by omega) (by omega) (by omega) (by omega) ?_
        refine wr_lstore (ls' := [_, _, _, _, _, _, _, _, _, _]) rfl rfl (Nat.le_of_ble_eq_true rfl) rfl ?_
        refine wr_iinc (ls' := [_, _, _, _, _, _, _, _, _, _]) rfl rfl rfl rfl ?_
        refine wr_goto rfl rfl ?_
        rw [show (i : Int) + 1 = ((i + 1 : Nat) : Int) by omega]
        have nvS : nv (blk (updI l1 (260 * t + i) (S % 1000000000)) t) (i + 1) = nv (blk l1 t) i + S % 1000000000 * 1000000000 ^ i := by rw [blk_upd, nv_upd]
        have e1 : nv (ext (blk l a) k) (i + 1) = nv (ext (blk l a) k) i + ext (blk l a) k i * 1000000000 ^ i := rfl
        have e2 : nv (ext (blk l b) m) (i + 1) = nv (ext (blk l b) m) i + ext (blk l b) m i * 1000000000 ^ i := rfl
        have vstep : nv (blk (updI l1 (260 * t + i) (S % 1000000000)) t) (i + 1) + S / 1000000000 * 1000000000 ^ (i + 1) = nv (ext (blk l a) k) (i + 1) + nv (ext (blk l b) m) (i + 1) := by
          rw [nvS, e1, e2, Int.pow_succ]
          generalize (1000000000 : Int) ^ i = p at *
          generalize S / 1000000000 = q at *
          generalize S % 1000000000 = r at *
          generalize ext (blk l a) k i = x at *
          generalize ext (blk l b) m i = y at *
          clear nvS e1 e2 fin ih hlast low cap
          grind
        refine ih (i + 1) _ _ _ _ (by omega) (by omega) (fun q => ?_) ?_ vstep (fun j j1 j2 => ?_) (ag.limb i260) w
        · have iN : i = N := by omega
          have cy1 : cy = 1 := by omega
          have z1 := eA0 (by omega)
          have z2 := eB0 (by omega)
          refine ⟨by rw [eS, z1, z2, cy1]; decide, ?_⟩
          rw [cy1, nv_ext (by omega), nv_ext (by omega), k4, m4, iN] at hv
          have := (nv_nonneg hd).1
          rw [iN] at this
          omega
        · rw [blk_upd]
          exact dig_step hd (by omega)
        · rw [updI_n (by omega), updI_n (by omega)]
          exact hk j (by omega) j2
      have J88 : ∀ y : Int, y = cy + ext (blk l a) k i → am_w X d 151 (88, [.ref 164, .int (iI t), .int (iI a), .int (iI b), .int (iI N), .long (lI cy), am_U, .int (iI i), .long (lI cy), am_U], [.long (lI y)], h1) (fun r h' => r = none ∧ RW h0 h' o (updI V t (V a + V b)) A) := by
        intro y ey
        by_cases q : i < m
        ·
          refine wr_lstore (ls' := [_, _, _, _, _, _, _, _, _, _]) rfl rfl (Nat.le_of_ble_eq_true rfl) rfl ?_
          refine wr_lload rfl rfl rfl ?_
          refine wr_iload rfl rfl rfl ?_
          refine wr_aload_n rfl rfl rfl ?_
          refine wr_get (ci := 12) (f := 1) rfl rfl rfl (by assumption) rfl ?_
          refine wr_iload_n rfl rfl rfl ?_
          refine wr_iald rfl rfl (by assumption) (by omega) (by omega) ?_
          rw [Int.toNat_natCast, m1]
          refine wr_icmp_ge rfl rfl rfl (by omega) (by omega) (fun c100 => by exfalso; omega) (fun c100 => ?_)
          refine wr_aload_n rfl rfl rfl ?_
          refine wr_get (ci := 12) (f := 0) rfl rfl rfl (by assumption) rfl ?_
          refine wr_sipush rfl rfl (by decide) ?_
          refine wr_iload_n rfl rfl rfl ?_
          refine wr_imul rfl rfl ?_
          refine wr_iload rfl rfl rfl ?_
          refine wr_iadd rfl rfl ?_
          rw [ixb]
          refine wr_iald rfl rfl (by assumption) (by omega) (by omega) ?_
          rw [Int.toNat_natCast, eB q]
          refine wr_i2l rfl rfl (by omega) ?_
          refine wr_goto rfl rfl ?_
          refine wr_ladd rfl rfl ?_
          refine wr_lstore (ls' := [_, _, _, _, _, _, _, _, _, _]) rfl rfl (Nat.le_of_ble_eq_true rfl) rfl ?_
          rw [show y + ext (blk l b) m i = S by omega]
          exact J
        ·
          refine wr_lstore (ls' := [_, _, _, _, _, _, _, _, _, _]) rfl rfl (Nat.le_of_ble_eq_true rfl) rfl ?_
          refine wr_lload rfl rfl rfl ?_
          refine wr_iload rfl rfl rfl ?_
          refine wr_aload_n rfl rfl rfl ?_
          refine wr_get (ci := 12) (f := 1) rfl rfl rfl (by assumption) rfl ?_
          refine wr_iload_n rfl rfl rfl ?_
          refine wr_iald rfl rfl (by assumption) (by omega) (by omega) ?_
          rw [Int.toNat_natCast, m1]
          refine wr_icmp_ge rfl rfl rfl (by omega) (by omega) (fun c100 => ?_) (fun c100 => by exfalso; omega)
          refine wr_lconst (z := 0) rfl rfl rfl ?_
          refine wr_ladd rfl rfl ?_
          refine wr_lstore (ls' := [_, _, _, _, _, _, _, _, _, _]) rfl rfl (Nat.le_of_ble_eq_true rfl) rfl ?_
          rw [show y + 0 = S by have := eB0 q; omega]
          exact J
      have J52 : am_w X d 151 (52, [.ref 164, .int (iI t), .int (iI a), .int (iI b), .int (iI N), .long (lI cy), am_U, .int (iI i), x8, am_U], [], h1) (fun r h' => r = none ∧ RW h0 h' o (updI V t (V a + V b)) A) := by
        by_cases q : i < k
        ·
          refine wr_lload rfl rfl rfl ?_
          refine wr_lstore (ls' := [_, _, _, _, _, _, _, _, _, _]) rfl rfl (Nat.le_of_ble_eq_true rfl) rfl ?_
          refine wr_lload rfl rfl rfl ?_
          refine wr_iload rfl rfl rfl ?_
          refine wr_aload_n rfl rfl rfl ?_
          refine wr_get (ci := 12) (f := 1) rfl rfl rfl (by assumption) rfl ?_
          refine wr_iload_n rfl rfl rfl ?_
          refine wr_iald rfl rfl (by assumption) (by omega) (by omega) ?_
          rw [Int.toNat_natCast, k1]
          refine wr_icmp_ge rfl rfl rfl (by omega) (by omega) (fun c66 => by exfalso; omega) (fun c66 => ?_)
          refine wr_aload_n rfl rfl rfl ?_
          refine wr_get (ci := 12) (f := 0) rfl rfl rfl (by assumption) rfl ?_
          refine wr_sipush rfl rfl (by decide) ?_
          refine wr_iload_n rfl rfl rfl ?_
          refine wr_imul rfl rfl ?_
          refine wr_iload rfl rfl rfl ?_
          refine wr_iadd rfl rfl ?_
          rw [ixa]
          refine wr_iald rfl rfl (by assumption) (by omega) (by omega) ?_
          rw [Int.toNat_natCast, eA q]
          refine wr_i2l rfl rfl (by omega) ?_
          refine wr_goto rfl rfl ?_
          refine wr_ladd rfl rfl ?_
          exact J88 _ rfl
        ·
          refine wr_lload rfl rfl rfl ?_
          refine wr_lstore (ls' := [_, _, _, _, _, _, _, _, _, _]) rfl rfl (Nat.le_of_ble_eq_true rfl) rfl ?_
          refine wr_lload rfl rfl rfl ?_
          refine wr_iload rfl rfl rfl ?_
          refine wr_aload_n rfl rfl rfl ?_
          refine wr_get (ci := 12) (f := 1) rfl rfl rfl (by assumption) rfl ?_
          refine wr_iload_n rfl rfl rfl ?_
          refine wr_iald rfl rfl (by assumption) (by omega) (by omega) ?_
          rw [Int.toNat_natCast, k1]
          refine wr_icmp_ge rfl rfl rfl (by omega) (by omega) (fun c66 => ?_) (fun c66 => by exfalso; omega)
          refine wr_lconst (z := 0) rfl rfl rfl ?_
          refine wr_ladd rfl rfl ?_
          exact J88 _ (by have := eA0 q; omega)
      by_cases q : i < N
      ·
        refine wr_iload rfl rfl rfl ?_
        refine wr_iload rfl rfl rfl ?_
        refine wr_icmp_lt rfl rfl rfl (by omega) (by omega) (fun c42 => ?_) (fun c42 => by exfalso; omega)
        exact J52
      ·
        refine wr_iload rfl rfl rfl ?_
        refine wr_iload rfl rfl rfl ?_
        refine wr_icmp_lt rfl rfl rfl (by omega) (by omega) (fun c42 => by exfalso; omega) (fun c42 => ?_)
        refine wr_lload rfl rfl rfl ?_
        refine wr_lconst (z := 0) rfl rfl rfl ?_
        refine wr_l_le rfl rfl rfl rfl rfl (by omega) (by omega) (fun c48 => by exfalso; omega) (fun c48 => ?_)
        exact J52
  have cO := w.ob
  have cL := w.li
  have cS := w.sz
  refine am_c.of (Nat.le_of_ble_eq_true rfl) ?_
  show am_w _ _ _ (_, [_, _, _, _, _, _, _, _, _, _], _, _) _
  have ST : am_w X d 151 (30, [.ref 164, .int (iI t), .int (iI a), .int (iI b), am_U, am_U, am_U, am_U, am_U, am_U], [.int (iI N)], h) (fun r h' => r = none ∧ RW h0 h' o (updI V t (V a + V b)) A) := by
    refine wr_istore (ls' := [_, _, _, _, _, _, _, _, _, _]) rfl rfl (Nat.le_of_ble_eq_true rfl) rfl ?_
    refine wr_lconst (z := 0) rfl rfl rfl ?_
    refine wr_lstore (ls' := [_, _, _, _, _, _, _, _, _, _]) rfl rfl (Nat.le_of_ble_eq_true rfl) rfl ?_
    refine wr_iconst rfl rfl ?_
    refine wr_istore (ls' := [_, _, _, _, _, _, _, _, _, _]) rfl rfl (Nat.le_of_ble_eq_true rfl) rfl ?_
    exact L (N + 1) 0 l h 0 _ (by omega) (Or.inl rfl) (fun q => by omega) (fun j hj => by omega) rfl (fun j _ _ => ⟨rfl, rfl⟩) (agr_rf _ _ _) w
  by_cases c : k ≤ m
  ·
    refine wr_aload_n rfl rfl rfl ?_
    refine wr_get (ci := 12) (f := 1) rfl rfl rfl (by assumption) rfl ?_
    refine wr_iload_n rfl rfl rfl ?_
    refine wr_iald rfl rfl (by assumption) (by omega) (by omega) ?_
    rw [Int.toNat_natCast, k1]
    refine wr_aload_n rfl rfl rfl ?_
    refine wr_get (ci := 12) (f := 1) rfl rfl rfl (by assumption) rfl ?_
    refine wr_iload_n rfl rfl rfl ?_
    refine wr_iald rfl rfl (by assumption) (by omega) (by omega) ?_
    rw [Int.toNat_natCast, m1]
    refine wr_icmp_le rfl rfl rfl (by omega) (by omega) (fun c12 => ?_) (fun c12 => by exfalso; omega)
    refine wr_aload_n rfl rfl rfl ?_
    refine wr_get (ci := 12) (f := 1) rfl rfl rfl (by assumption) rfl ?_
    refine wr_iload_n rfl rfl rfl ?_
    refine wr_iald rfl rfl (by assumption) (by omega) (by omega) ?_
    rw [Int.toNat_natCast, m1]
    rw [show (m : Int) = N by omega]
    exact ST
  ·
    refine wr_aload_n rfl rfl rfl ?_
    refine wr_get (ci := 12) (f := 1) rfl rfl rfl (by assumption) rfl ?_
    refine wr_iload_n rfl rfl rfl ?_
    refine wr_iald rfl rfl (by assumption) (by omega) (by omega) ?_
    rw [Int.toNat_natCast, k1]
    refine wr_aload_n rfl rfl rfl ?_
    refine wr_get (ci := 12) (f := 1) rfl rfl rfl (by assumption) rfl ?_
    refine wr_iload_n rfl rfl rfl ?_
    refine wr_iald rfl rfl (by assumption) (by omega) (by omega) ?_
    rw [Int.toNat_natCast, m1]
    refine wr_icmp_le rfl rfl rfl (by omega) (by omega) (fun c12 => by exfalso; omega) (fun c12 => ?_)
    refine wr_aload_n rfl rfl rfl ?_
    refine wr_get (ci := 12) (f := 1) rfl rfl rfl (by assumption) rfl ?_
    refine wr_iload_n rfl rfl rfl ?_
    refine wr_iald rfl rfl (by assumption) (by omega) (by omega) ?_
    rw [Int.toNat_natCast, k1]
    refine wr_goto rfl rfl ?_
    rw [show (k : Int) = N by omega]
    exact ST
end RF1
