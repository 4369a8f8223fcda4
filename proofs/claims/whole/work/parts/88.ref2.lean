/-! THE REFERENCE'S NUMBERS: trim, take, odd, halve, multiply -/
section RF2
variable {X : Nat × (Nat → Int32)} {h0 h h' : am_H} {o l s V : Nat → Int} {A : Nat → Nat → Int}
theorem mw_trim {d n : Nat} (hn : n < 260) (R : regs l s V) : ∀ (k : Nat) (l1 s1 : Nat → Int) (h : am_H), MW h0 h o l1 s1 A → s1 n = k → k ≤ 260 → (∀ i, i < k → 0 ≤ blk l1 n i ∧ blk l1 n i < 1000000000) → agr n l s l1 s1 → am_w X d 148 (0, [.ref 164, .int (iI n)], [], h) (fun r h' => r = none ∧ RW h0 h' o (updI V n (nv (blk l1 n) k)) A) := by
  intro k
  induction k with
  | zero =>
    intro l1 s1 h w sk hk hd ag
    have cO := w.ob
    have cL := w.li
    have cS := w.sz
    refine wr_aload_n rfl rfl rfl ?_
    refine wr_get (ci := 12) (f := 1) rfl rfl rfl (by assumption) rfl ?_
    refine wr_iload_n rfl rfl rfl ?_
    refine wr_iald rfl rfl (by assumption) (by omega) (by omega) ?_
    rw [Int.toNat_natCast, sk]
    refine wr_if_le rfl rfl rfl (by omega) (fun c6 => ?_) (fun c6 => by exfalso; omega)
    refine wr_vret rfl rfl ?_
    exact ⟨rfl, l1, s1, w, R.set ag ⟨0, sk, hk, ⟨hd, fun q => absurd q (by omega)⟩, rfl⟩⟩
  | succ k ih =>
    intro l1 s1 h w sk hk hd ag
    have dk := hd k (by omega)
    have vk : l1 (260 * n + k) = blk l1 n k := rfl
    have ix : (260 * (n : Int) + ((k + 1 : Nat) : Int) - 1) = ((260 * n + k : Nat) : Int) := by omega
    have cO := w.ob
    have cL := w.li
    have cS := w.sz
    by_cases z : blk l1 n k = 0
    ·
      refine wr_aload_n rfl rfl rfl ?_
      refine wr_get (ci := 12) (f := 1) rfl rfl rfl (by assumption) rfl ?_
      refine wr_iload_n rfl rfl rfl ?_
      refine wr_iald rfl rfl (by assumption) (by omega) (by omega) ?_
      rw [Int.toNat_natCast, sk]
      refine wr_if_le rfl rfl rfl (by omega) (fun c6 => by exfalso; omega) (fun c6 => ?_)
      refine wr_aload_n rfl rfl rfl ?_
      refine wr_get (ci := 12) (f := 0) rfl rfl rfl (by assumption) rfl ?_
      refine wr_sipush rfl rfl (by decide) ?_
      refine wr_iload_n rfl rfl rfl ?_
      refine wr_imul rfl rfl ?_
      refine wr_aload_n rfl rfl rfl ?_
      refine wr_get (ci := 12) (f := 1) rfl rfl rfl (by assumption) rfl ?_
      refine wr_iload_n rfl rfl rfl ?_
      refine wr_iald rfl rfl (by assumption) (by omega) (by omega) ?_
      rw [Int.toNat_natCast, sk]
      refine wr_iadd rfl rfl ?_
      refine wr_iconst rfl rfl ?_
      refine wr_isub rfl rfl ?_
      rw [ix]
      refine wr_iald rfl rfl (by assumption) (by omega) (by omega) ?_
      rw [Int.toNat_natCast, vk]
      refine wr_if_ne rfl rfl rfl (by omega) (fun c28 => by exfalso; omega) (fun c28 => ?_)
      refine wr_aload_n rfl rfl rfl ?_
      refine wr_get (ci := 12) (f := 1) rfl rfl rfl (by assumption) rfl ?_
      refine wr_iload_n rfl rfl rfl ?_
      refine wr_dup2_ri rfl rfl ?_
      refine wr_iald rfl rfl (by assumption) (by omega) (by omega) ?_
      rw [Int.toNat_natCast, sk]
      refine wr_iconst rfl rfl ?_
      refine wr_isub rfl rfl ?_
      refine wr_iast rfl rfl (by assumption) (by omega) (by omega) (fun h1 e1 => ?_)
      rw [Int.toNat_natCast] at e1
      have w := e1 ▸ w.setS (updI s1 n (((k + 1 : Nat) : Int) - 1))
      refine wr_goto rfl rfl ?_
      have r := ih _ _ _ w (by rw [updI_s]; omega) (by omega) (fun i hi => hd i (by omega)) ag.size
      have e : nv (blk l1 n) (k + 1) = nv (blk l1 n) k := by
        show nv (blk l1 n) k + blk l1 n k * _ = _
        rw [z]; omega
      rw [e]
      exact r
    ·
      refine wr_aload_n rfl rfl rfl ?_
      refine wr_get (ci := 12) (f := 1) rfl rfl rfl (by assumption) rfl ?_
      refine wr_iload_n rfl rfl rfl ?_
      refine wr_iald rfl rfl (by assumption) (by omega) (by omega) ?_
      rw [Int.toNat_natCast, sk]
      refine wr_if_le rfl rfl rfl (by omega) (fun c6 => by exfalso; omega) (fun c6 => ?_)
      refine wr_aload_n rfl rfl rfl ?_
      refine wr_get (ci := 12) (f := 0) rfl rfl rfl (by assumption) rfl ?_
      refine wr_sipush rfl rfl (by decide) ?_
      refine wr_iload_n rfl rfl rfl ?_
      refine wr_imul rfl rfl ?_
      refine wr_aload_n rfl rfl rfl ?_
      refine wr_get (ci := 12) (f := 1) rfl rfl rfl (by assumption) rfl ?_
      refine wr_iload_n rfl rfl rfl ?_
      refine wr_iald rfl rfl (by assumption) (by omega) (by omega) ?_
      rw [Int.toNat_natCast, sk]
      refine wr_iadd rfl rfl ?_
      refine wr_iconst rfl rfl ?_
      refine wr_isub rfl rfl ?_
      rw [ix]
      refine wr_iald rfl rfl (by assumption) (by omega) (by omega) ?_
      rw [Int.toNat_natCast, vk]
      refine wr_if_ne rfl rfl rfl (by omega) (fun c28 => ?_) (fun c28 => by exfalso; omega)
      refine wr_vret rfl rfl ?_
      exact ⟨rfl, l1, s1, w, R.set ag ⟨k + 1, sk, hk, ⟨hd, fun q => z⟩, rfl⟩⟩
theorem mw_trimC {d n k : Nat} {l1 s1 : Nat → Int} {v : Int} (hn : n < 260) (R : regs l s V) (w : MW h0 h o l1 s1 A) (sk : s1 n = k) (hk : k ≤ 260) (hd : ∀ i, i < k → 0 ≤ blk l1 n i ∧ blk l1 n i < 1000000000) (ag : agr n l s l1 s1) (hv : nv (blk l1 n) k = v) : am_c X (d + 1) 148 [.ref 164, .int (iI n)] h (fun r h' => r = none ∧ RW h0 h' o (updI V n v) A) := by
  refine am_c.of (Nat.le_of_ble_eq_true rfl) ?_
  show am_w _ _ _ (_, [_, _], _, _) _
  rw [← hv]
  exact mw_trim hn R k l1 s1 h w sk hk hd ag
theorem mw_take {d t a b : Nat} (w : RW h0 h o V A) (ht : t < 260) (ha : a < 260) (hb : b < 260) (le : V b ≤ V a) : am_c X (d + 2) 150 [.ref 164, .int (iI t), .int (iI a), .int (iI b)] h (fun r h' => r = none ∧ RW h0 h' o (updI V t (V a - V b)) A) := by
  obtain ⟨l, s, w, R⟩ := w
  obtain ⟨k, k1, k2, k3, k4⟩ := R a ha
  obtain ⟨m, m1, m2, m3, m4⟩ := R b hb
  have mk : m ≤ k := Decidable.byContradiction fun q => by
    have := nv_short m3 k3 (by omega)
    omega
  have L : ∀ (c i : Nat) (l1 : Nat → Int) (h1 : am_H) (u : Int) (x8 : Value), i + c = k → (u = 0 ∨ u = 1) → (∀ j, j < i → 0 ≤ blk l1 t j ∧ blk l1 t j < 1000000000) → nv (blk l1 t) i - u * 1000000000 ^ i = nv (blk l a) i - nv (ext (blk l b) m) i → (∀ j, i ≤ j → j < 260 → l1 (260 * a + j) = l (260 * a + j) ∧ l1 (260 * b + j) = l (260 * b + j)) → agr t l s l1 s → MW h0 h1 o l1 s A → am_w X (d + 1) 150 (14, [.ref 164, .int (iI t), .int (iI a), .int (iI b), .long (lI u), am_U, .int (iI k), .int (iI i), x8, am_U], [], h1) (fun r h' => r = none ∧ RW h0 h' o (updI V t (V a - V b)) A) := by
    intro c
    induction c with
    | zero =>
      intro i l1 h1 u x8 hi hu hd hv hk ag w
      obtain rfl : i = k := by omega
      have val : nv (blk l1 t) i = V a - V b := by
        rw [nv_ext mk, k4, m4] at hv
        have q := nv_nonneg hd
        rcases hu with z | z
        · rw [z] at hv; omega
        · rw [z] at hv; omega
      have cO := w.ob
      have cL := w.li
      have cS := w.sz
      refine wr_iload rfl rfl rfl ?_
      refine wr_iload rfl rfl rfl ?_
      refine wr_icmp_ge rfl rfl rfl (by omega) (by omega) (fun c18 => ?_) (fun c18 => by exfalso; omega)
      refine wr_aload_n rfl rfl rfl ?_
      refine wr_get (ci := 12) (f := 1) rfl rfl rfl (by assumption) rfl ?_
      refine wr_iload_n rfl rfl rfl ?_
      refine wr_iload rfl rfl rfl ?_
      refine wr_iast rfl rfl (by assumption) (by omega) (by omega) (fun h1 e1 => ?_)
      rw [Int.toNat_natCast] at e1
      have w := e1 ▸ w.setS (updI s t (i : Int))
      clear e1 cS cO
      have cO := w.ob
      refine wr_aload_n rfl rfl rfl ?_
      refine wr_iload_n rfl rfl rfl ?_
      refine wr_cv1 (k' := 148) (ci := 12) rfl rfl rfl rfl (by assumption) rfl rfl (mw_trimC ht R w (updI_s _ _ _) k2 hd ag.size val) (fun r h2 q => ?_)
      obtain ⟨rfl, w⟩ := q
      refine wr_vret rfl rfl ?_
      exact ⟨rfl, w⟩
    | succ c ih =>
      intro i l1 h1 u x8 hi hu hd hv hk ag w
      have ea := k3.1 i (by omega)
      have eb := ext_in m3 i
      have ixa : (260 * (a : Int) + (i : Int)) = ((260 * a + i : Nat) : Int) := by omega
      have ixb : (260 * (b : Int) + (i : Int)) = ((260 * b + i : Nat) : Int) := by omega
      have ixt : (260 * (t : Int) + (i : Int)) = ((260 * t + i : Nat) : Int) := by omega
      have hki := hk i (Nat.le_refl _) (by omega)
      have eA : l1 (260 * a + i) = blk l a i := hki.1
      have eB : i < m → l1 (260 * b + i) = ext (blk l b) m i := fun q => by rw [ext_lt q]; exact hki.2
      have eB0 : ¬ i < m → ext (blk l b) m i = 0 := fun q => ext_ge (by omega)
      obtain ⟨S, eS⟩ : ∃ S, S = blk l a i - u - ext (blk l b) m i := ⟨_, rfl⟩
      have Sb : -1000000000 ≤ S ∧ S < 1000000000 := by omega
      have cO := w.ob
      have cL := w.li
      have cS := w.sz
      have F : ∀ (u1 D : Int), (u1 = 0 ∨ u1 = 1) → D = S + u1 * 1000000000 → 0 ≤ D ∧ D < 1000000000 → am_w X (d + 1) 150 (118, [.ref 164, .int (iI t), .int (iI a), .int (iI b), .long (lI u1), am_U, .int (iI k), .int (iI i), .long (lI S), am_U], [.long (lI D), .int (iI (260 * t + i)), .ref 165], h1) (fun r h' => r = none ∧ RW h0 h' o (updI V t (V a - V b)) A) := by
        intro u1 D hu1 eD hD
        rw [ixt]
        refine wr_l2i rfl rfl ?_
        refine wr_iast rfl rfl (by assumption) (by omega) (by omega) (fun h1 e1 => ?_)
        rw [Int.toNat_natCast] at e1
        have w := e1 ▸ w.setL (updI l1 (260 * t + i) D)
        clear e1
        refine wr_iinc (ls' := [_, _, _, _, _, _, _, _, _, _]) rfl rfl rfl rfl ?_
        refine wr_goto rfl rfl ?_
        rw [show (i : Int) + 1 = ((i + 1 : Nat) : Int) by omega]
        have nvS : nv (blk (updI l1 (260 * t + i) D) t) (i + 1) = nv (blk l1 t) i + D * 1000000000 ^ i := by rw [blk_upd, nv_upd]
        have e1 : nv (blk l a) (i + 1) = nv (blk l a) i + blk l a i * 1000000000 ^ i := rfl
        have e2 : nv (ext (blk l b) m) (i + 1) = nv (ext (blk l b) m) i + ext (blk l b) m i * 1000000000 ^ i := rfl
        have vstep : nv (blk (updI l1 (260 * t + i) D) t) (i + 1) - u1 * 1000000000 ^ (i + 1) = nv (blk l a) (i + 1) - nv (ext (blk l b) m) (i + 1) := by
          rw [nvS, e1, e2, Int.pow_succ]
          generalize (1000000000 : Int) ^ i = p at hv ⊢
          generalize ext (blk l b) m i = y at eS ⊢
          generalize blk l a i = x at eS ⊢
          generalize nv (blk l1 t) i = n1 at hv ⊢
          generalize nv (blk l a) i = n2 at hv ⊢
          generalize nv (ext (blk l b) m) i = n3 at hv ⊢
          clear nvS e1 e2 ih hk eB eB0 hu hu1
          subst eD eS
          grind
        refine ih (i + 1) _ _ _ _ (by omega) hu1 ?_ vstep (fun j j1 j2 => ?_) (ag.limb (by omega)) w
        · rw [blk_upd]
          exact dig_step hd hD
        · rw [updI_n (by omega), updI_n (by omega)]
          exact hk j (by omega) j2
      have J : am_w X (d + 1) 150 (74, [.ref 164, .int (iI t), .int (iI a), .int (iI b), .long (lI u), am_U, .int (iI k), .int (iI i), .long (lI S), am_U], [], h1) (fun r h' => r = none ∧ RW h0 h' o (updI V t (V a - V b)) A) := by
        by_cases q : S < 0
        ·
          refine wr_lload rfl rfl rfl ?_
          refine wr_lconst (z := 0) rfl rfl rfl ?_
          refine wr_l_ge rfl rfl rfl rfl rfl (by omega) (by omega) (fun c77 => by exfalso; omega) (fun c77 => ?_)
          refine wr_lconst (z := 1) rfl rfl rfl ?_
          refine wr_goto rfl rfl ?_
          refine wr_lstore (ls' := [_, _, _, _, _, _, _, _, _, _]) rfl rfl (Nat.le_of_ble_eq_true rfl) rfl ?_
          refine wr_aload_n rfl rfl rfl ?_
          refine wr_get (ci := 12) (f := 0) rfl rfl rfl (by assumption) rfl ?_
          refine wr_sipush rfl rfl (by decide) ?_
          refine wr_iload_n rfl rfl rfl ?_
          refine wr_imul rfl rfl ?_
          refine wr_iload rfl rfl rfl ?_
          refine wr_iadd rfl rfl ?_
          refine wr_lload rfl rfl rfl ?_
          refine wr_lconst (z := 0) rfl rfl rfl ?_
          refine wr_l_ge rfl rfl rfl rfl rfl (by omega) (by omega) (fun c103 => by exfalso; omega) (fun c103 => ?_)
          refine wr_lload rfl rfl rfl ?_
          refine wr_ldc2 (z := 1000000000) rfl rfl rfl (by decide) ?_
          refine wr_ladd rfl rfl ?_
          refine wr_goto rfl rfl ?_
          exact F 1 (S + 1000000000) (Or.inr rfl) (by omega) (by omega)
        ·
          refine wr_lload rfl rfl rfl ?_
          refine wr_lconst (z := 0) rfl rfl rfl ?_
          refine wr_l_ge rfl rfl rfl rfl rfl (by omega) (by omega) (fun c77 => ?_) (fun c77 => by exfalso; omega)
          refine wr_lconst (z := 0) rfl rfl rfl ?_
          refine wr_lstore (ls' := [_, _, _, _, _, _, _, _, _, _]) rfl rfl (Nat.le_of_ble_eq_true rfl) rfl ?_
          refine wr_aload_n rfl rfl rfl ?_
          refine wr_get (ci := 12) (f := 0) rfl rfl rfl (by assumption) rfl ?_
          refine wr_sipush rfl rfl (by decide) ?_
          refine wr_iload_n rfl rfl rfl ?_
          refine wr_imul rfl rfl ?_
          refine wr_iload rfl rfl rfl ?_
          refine wr_iadd rfl rfl ?_
          refine wr_lload rfl rfl rfl ?_
          refine wr_lconst (z := 0) rfl rfl rfl ?_
          refine wr_l_ge rfl rfl rfl rfl rfl (by omega) (by omega) (fun c103 => ?_) (fun c103 => by exfalso; omega)
          refine wr_lload rfl rfl rfl ?_
          exact F 0 S (Or.inl rfl) (by omega) (by omega)
      by_cases q : i < m
      ·
        refine wr_iload rfl rfl rfl ?_
        refine wr_iload rfl rfl rfl ?_
        refine wr_icmp_ge rfl rfl rfl (by omega) (by omega) (fun c18 => by exfalso; omega) (fun c18 => ?_)
        refine wr_aload_n rfl rfl rfl ?_
        refine wr_get (ci := 12) (f := 0) rfl rfl rfl (by assumption) rfl ?_
        refine wr_sipush rfl rfl (by decide) ?_
        refine wr_iload_n rfl rfl rfl ?_
        refine wr_imul rfl rfl ?_
        refine wr_iload rfl rfl rfl ?_
        refine wr_iadd rfl rfl ?_
        rw [ixa]
        refine wr_iald rfl rfl (by assumption) (by omega) (by omega) ?_
        rw [Int.toNat_natCast, eA]
        refine wr_i2l rfl rfl (by omega) ?_
        refine wr_lload rfl rfl rfl ?_
        refine wr_lsub rfl rfl ?_
        refine wr_lstore (ls' := [_, _, _, _, _, _, _, _, _, _]) rfl rfl (Nat.le_of_ble_eq_true rfl) rfl ?_
        refine wr_lload rfl rfl rfl ?_
        refine wr_iload rfl rfl rfl ?_
        refine wr_aload_n rfl rfl rfl ?_
        refine wr_get (ci := 12) (f := 1) rfl rfl rfl (by assumption) rfl ?_
        refine wr_iload_n rfl rfl rfl ?_
        refine wr_iald rfl rfl (by assumption) (by omega) (by omega) ?_
        rw [Int.toNat_natCast, m1]
        refine wr_icmp_ge rfl rfl rfl (by omega) (by omega) (fun c50 => by exfalso; omega) (fun c50 => ?_)
        refine wr_aload_n rfl rfl rfl ?_
        refine wr_get (ci := 12) (f := 0) rfl rfl rfl (by assumption) rfl ?_
        refine wr_sipush rfl rfl (by decide) ?_
        refine wr_iload_n rfl rfl rfl ?_
        refine wr_imul rfl rfl ?_
        refine wr_iload rfl rfl rfl ?_
        refine wr_iadd rfl rfl ?_
        rw [ixb]
        refine wr_iald rfl rfl (by assumption) (by omega) (by omega) ?_
        rw [Int.toNat_natCast, eB q]
        refine wr_i2l rfl rfl (by omega) ?_
        refine wr_goto rfl rfl ?_
        refine wr_lsub rfl rfl ?_
        refine wr_lstore (ls' := [_, _, _, _, _, _, _, _, _, _]) rfl rfl (Nat.le_of_ble_eq_true rfl) rfl ?_
        rw [← eS]
        exact J
      ·
        refine wr_iload rfl rfl rfl ?_
        refine wr_iload rfl rfl rfl ?_
        refine wr_icmp_ge rfl rfl rfl (by omega) (by omega) (fun c18 => by exfalso; omega) (fun c18 => ?_)
        refine wr_aload_n rfl rfl rfl ?_
        refine wr_get (ci := 12) (f := 0) rfl rfl rfl (by assumption) rfl ?_
        refine wr_sipush rfl rfl (by decide) ?_
        refine wr_iload_n rfl rfl rfl ?_
        refine wr_imul rfl rfl ?_
        refine wr_iload rfl rfl rfl ?_
        refine wr_iadd rfl rfl ?_
        rw [ixa]
        refine wr_iald rfl rfl (by assumption) (by omega) (by omega) ?_
        rw [Int.toNat_natCast, eA]
        refine wr_i2l rfl rfl (by omega) ?_
        refine wr_lload rfl rfl rfl ?_
        refine wr_lsub rfl rfl ?_
        refine wr_lstore (ls' := [_, _, _, _, _, _, _, _, _, _]) rfl rfl (Nat.le_of_ble_eq_true rfl) rfl ?_
        refine wr_lload rfl rfl rfl ?_
        refine wr_iload rfl rfl rfl ?_
        refine wr_aload_n rfl rfl rfl ?_
        refine wr_get (ci := 12) (f := 1) rfl rfl rfl (by assumption) rfl ?_
        refine wr_iload_n rfl rfl rfl ?_
        refine wr_iald rfl rfl (by assumption) (by omega) (by omega) ?_
        rw [Int.toNat_natCast, m1]
        refine wr_icmp_ge rfl rfl rfl (by omega) (by omega) (fun c50 => ?_) (fun c50 => by exfalso; omega)
        refine wr_lconst (z := 0) rfl rfl rfl ?_
        refine wr_lsub rfl rfl ?_
        refine wr_lstore (ls' := [_, _, _, _, _, _, _, _, _, _]) rfl rfl (Nat.le_of_ble_eq_true rfl) rfl ?_
        rw [show blk l a i - u - 0 = S by have := eB0 q; omega]
        exact J
  have cO := w.ob
  have cL := w.li
  have cS := w.sz
  refine am_c.of (Nat.le_of_ble_eq_true rfl) ?_
  show am_w _ _ _ (_, [_, _, _, _, _, _, _, _, _, _], _, _) _
  refine wr_lconst (z := 0) rfl rfl rfl ?_
  refine wr_lstore (ls' := [_, _, _, _, _, _, _, _, _, _]) rfl rfl (Nat.le_of_ble_eq_true rfl) rfl ?_
  refine wr_aload_n rfl rfl rfl ?_
  refine wr_get (ci := 12) (f := 1) rfl rfl rfl (by assumption) rfl ?_
  refine wr_iload_n rfl rfl rfl ?_
  refine wr_iald rfl rfl (by assumption) (by omega) (by omega) ?_
  rw [Int.toNat_natCast, k1]
  refine wr_istore (ls' := [_, _, _, _, _, _, _, _, _, _]) rfl rfl (Nat.le_of_ble_eq_true rfl) rfl ?_
  refine wr_iconst rfl rfl ?_
  refine wr_istore (ls' := [_, _, _, _, _, _, _, _, _, _]) rfl rfl (Nat.le_of_ble_eq_true rfl) rfl ?_
  exact L k 0 l h 0 _ (by omega) (Or.inl rfl) (fun j hj => by omega) rfl (fun j _ _ => ⟨rfl, rfl⟩) (agr_rf _ _ _) w
theorem nv_odd {g : Nat → Int} {k : Nat} (hk : 0 < k) : nv g k % 2 = g 0 % 2 := by
  obtain ⟨m, rfl⟩ : ∃ m, k = 1 + m := ⟨k - 1, by omega⟩
  rw [nv_shift]
  have e : nv g 1 = 0 + g 0 * 1 := rfl
  rw [e, show (1000000000 : Int) ^ 1 = 1000000000 by decide]
  omega
theorem mw_odd {d n : Nat} (w : RW h0 h o V A) (hn : n < 260) : am_c X (d + 1) 146 [.ref 164, .int (iI n)] h (fun r h' => r = some (.int (iI (V n % 2))) ∧ h' = h) := by
  obtain ⟨l, s, w, R⟩ := w
  obtain ⟨k, k1, k2, k3, k4⟩ := R n hn
  rw [← k4]
  have cO := w.ob
  have cL := w.li
  have cS := w.sz
  refine am_c.of (Nat.le_of_ble_eq_true rfl) ?_
  show am_w _ _ _ (_, [_, _], _, _) _
  by_cases z : k = 0
  · subst z
    refine wr_aload_n rfl rfl rfl ?_
    refine wr_get (ci := 12) (f := 1) rfl rfl rfl (by assumption) rfl ?_
    refine wr_iload_n rfl rfl rfl ?_
    refine wr_iald rfl rfl (by assumption) (by omega) (by omega) ?_
    rw [Int.toNat_natCast, k1]
    refine wr_if_le rfl rfl rfl (by omega) (fun c6 => ?_) (fun c6 => by exfalso; omega)
    refine wr_iconst rfl rfl ?_
    refine wr_zret rfl rfl (by decide) ?_
    exact ⟨rfl, rfl⟩
  · have ix : 260 * (n : Int) = ((260 * n + 0 : Nat) : Int) := by omega
    have dk := k3.1 0 (by omega)
    have vk : l (260 * n + 0) = blk l n 0 := rfl
    rw [nv_odd (by omega)]
    by_cases c : blk l n 0 % 2 = 1
    ·
      rw [c]
      refine wr_aload_n rfl rfl rfl ?_
      refine wr_get (ci := 12) (f := 1) rfl rfl rfl (by assumption) rfl ?_
      refine wr_iload_n rfl rfl rfl ?_
      refine wr_iald rfl rfl (by assumption) (by omega) (by omega) ?_
      rw [Int.toNat_natCast, k1]
      refine wr_if_le rfl rfl rfl (by omega) (fun c6 => by exfalso; omega) (fun c6 => ?_)
      refine wr_aload_n rfl rfl rfl ?_
      refine wr_get (ci := 12) (f := 0) rfl rfl rfl (by assumption) rfl ?_
      refine wr_sipush rfl rfl (by decide) ?_
      refine wr_iload_n rfl rfl rfl ?_
      refine wr_imul rfl rfl ?_
      rw [ix]
      refine wr_iald rfl rfl (by assumption) (by omega) (by omega) ?_
      rw [Int.toNat_natCast, vk]
      refine wr_iconst rfl rfl ?_
      refine wr_iremN rfl rfl (by omega) (by omega) (by omega) (by omega) ?_
      refine wr_iconst rfl rfl ?_
      refine wr_icmp_ne rfl rfl rfl (by omega) (by omega) (fun c22 => by exfalso; omega) (fun c22 => ?_)
      refine wr_iconst rfl rfl ?_
      refine wr_goto rfl rfl ?_
      refine wr_zret rfl rfl (by decide) ?_
      exact ⟨rfl, rfl⟩
    ·
      rw [show blk l n 0 % 2 = 0 by omega]
      refine wr_aload_n rfl rfl rfl ?_
      refine wr_get (ci := 12) (f := 1) rfl rfl rfl (by assumption) rfl ?_
      refine wr_iload_n rfl rfl rfl ?_
      refine wr_iald rfl rfl (by assumption) (by omega) (by omega) ?_
      rw [Int.toNat_natCast, k1]
      refine wr_if_le rfl rfl rfl (by omega) (fun c6 => by exfalso; omega) (fun c6 => ?_)
      refine wr_aload_n rfl rfl rfl ?_
      refine wr_get (ci := 12) (f := 0) rfl rfl rfl (by assumption) rfl ?_
      refine wr_sipush rfl rfl (by decide) ?_
      refine wr_iload_n rfl rfl rfl ?_
      refine wr_imul rfl rfl ?_
      rw [ix]
      refine wr_iald rfl rfl (by assumption) (by omega) (by omega) ?_
      rw [Int.toNat_natCast, vk]
      refine wr_iconst rfl rfl ?_
      refine wr_iremN rfl rfl (by omega) (by omega) (by omega) (by omega) ?_
      refine wr_iconst rfl rfl ?_
      refine wr_icmp_ne rfl rfl rfl (by omega) (by omega) (fun c22 => ?_) (fun c22 => by exfalso; omega)
      refine wr_iconst rfl rfl ?_
      refine wr_zret rfl rfl (by decide) ?_
      exact ⟨rfl, rfl⟩
theorem mw_halve {d n : Nat} (w : RW h0 h o V A) (hn : n < 260) : am_c X (d + 2) 147 [.ref 164, .int (iI n)] h (fun r h' => r = none ∧ RW h0 h' o (updI V n (V n / 2)) A) := by
  obtain ⟨l, s, w, R⟩ := w
  obtain ⟨k, k1, k2, k3, k4⟩ := R n hn
  have L : ∀ (i : Nat) (l1 : Nat → Int) (h1 : am_H) (u : Int) (x5 : Value), i ≤ k → (u = 0 ∨ u = 1) → (∀ j, j < k → 0 ≤ blk l1 n j ∧ blk l1 n j < 1000000000) → 2 * nh (blk l1 n) k i + u = nh (blk l n) k i → (∀ j, j < i → blk l1 n j = blk l n j) → agr n l s l1 s → MW h0 h1 o l1 s A → am_w X (d + 1) 147 (12, [.ref 164, .int (iI n), .long (lI u), am_U, .int (iI ((i : Int) - 1)), x5, am_U], [], h1) (fun r h' => r = none ∧ RW h0 h' o (updI V n (V n / 2)) A) := by
    intro i
    induction i with
    | zero =>
      intro l1 h1 u x5 hi hu hd hv hs ag w
      have val : nv (blk l1 n) k = V n / 2 := by
        rw [nh_0, nh_0, k4] at hv
        omega
      have cO := w.ob
      have cL := w.li
      have cS := w.sz
      refine wr_iload rfl rfl rfl ?_
      refine wr_if_lt rfl rfl rfl (by omega) (fun c14 => ?_) (fun c14 => by exfalso; omega)
      refine wr_aload_n rfl rfl rfl ?_
      refine wr_iload_n rfl rfl rfl ?_
      refine wr_cv1 (k' := 148) (ci := 12) rfl rfl rfl rfl (by assumption) rfl rfl (mw_trimC hn R w k1 k2 hd ag val) (fun r h2 q => ?_)
      obtain ⟨rfl, w⟩ := q
      refine wr_vret rfl rfl ?_
      exact ⟨rfl, w⟩
    | succ i ih =>
      intro l1 h1 u x5 hi hu hd hv hs ag w
      have di := hd i (by omega)
      have ix : (260 * (n : Int) + (i : Int)) = ((260 * n + i : Nat) : Int) := by omega
      have vi : l1 (260 * n + i) = blk l1 n i := rfl
      obtain ⟨S, eS⟩ : ∃ S, S = u * 1000000000 + blk l1 n i := ⟨_, rfl⟩
      have Sb : 0 ≤ S ∧ S < 2000000000 := by omega
      rw [show ((i + 1 : Nat) : Int) - 1 = i by omega]
      have cO := w.ob
      have cL := w.li
      have cS := w.sz
      refine wr_iload rfl rfl rfl ?_
      refine wr_if_lt rfl rfl rfl (by omega) (fun c14 => by exfalso; omega) (fun c14 => ?_)
      refine wr_lload_n rfl rfl rfl ?_
      refine wr_ldc2 (z := 1000000000) rfl rfl rfl (by decide) ?_
      refine wr_lmul rfl rfl ?_
      refine wr_aload_n rfl rfl rfl ?_
      refine wr_get (ci := 12) (f := 0) rfl rfl rfl (by assumption) rfl ?_
      refine wr_sipush rfl rfl (by decide) ?_
      refine wr_iload_n rfl rfl rfl ?_
      refine wr_imul rfl rfl ?_
      refine wr_iload rfl rfl rfl ?_
      refine wr_iadd rfl rfl ?_
      rw [ix]
      refine wr_iald rfl rfl (by assumption) (by omega) (by omega) ?_
      rw [Int.toNat_natCast, vi]
      refine wr_i2l rfl rfl (by omega) ?_
      refine wr_ladd rfl rfl ?_
      rw [← eS]
      refine wr_lstore (ls' := [_, _, _, _, _, _, _]) rfl rfl (Nat.le_of_ble_eq_true rfl) rfl ?_
      refine wr_aload_n rfl rfl rfl ?_
      refine wr_get (ci := 12) (f := 0) rfl rfl rfl (by assumption) rfl ?_
      refine wr_sipush rfl rfl (by decide) ?_
      refine wr_iload_n rfl rfl rfl ?_
      refine wr_imul rfl rfl ?_
      refine wr_iload rfl rfl rfl ?_
      refine wr_iadd rfl rfl ?_
      rw [ix]
      refine wr_lload rfl rfl rfl ?_
      refine wr_ldc2 (z := 2) rfl rfl rfl (by decide) ?_
      refine wr_ldivN rfl rfl (by omega) (by omega) (by omega) (by omega) ?_
      refine wr_l2i rfl rfl ?_
      refine wr_iast rfl rfl (by assumption) (by omega) (by omega) (fun h1 e1 => ?_)
      rw [Int.toNat_natCast] at e1
      have w := e1 ▸ w.setL (updI l1 (260 * n + i) (S / 2))
      clear e1
      refine wr_lload rfl rfl rfl ?_
      refine wr_ldc2 (z := 2) rfl rfl rfl (by decide) ?_
      refine wr_lremN rfl rfl (by omega) (by omega) (by omega) (by omega) ?_
      refine wr_lstore_n (ls' := [_, _, _, _, _, _, _]) rfl rfl (Nat.le_of_ble_eq_true rfl) rfl ?_
      refine wr_iinc (ls' := [_, _, _, _, _, _, _]) rfl rfl rfl rfl ?_
      refine wr_goto rfl rfl ?_
      refine ih _ _ _ _ (by omega) (by omega) ?_ ?_ (fun j hj => ?_) (ag.limb (by omega)) w
      · rw [blk_upd]
        exact dig_at hd (by omega)
      · rw [blk_upd, nh_step (by omega), nh_step (g := blk l n) (by omega), updI_s, nh_congr (g := blk l1 n) (g' := updI (blk l1 n) i (S / 2)) (fun j a b => updI_n (by omega))]
        have := hs i (by omega)
        omega
      · rw [blk_upd, updI_n (by omega)]
        exact hs j (by omega)
  have cO := w.ob
  have cL := w.li
  have cS := w.sz
  refine am_c.of (Nat.le_of_ble_eq_true rfl) ?_
  show am_w _ _ _ (_, [_, _, _, _, _, _, _], _, _) _
  refine wr_lconst (z := 0) rfl rfl rfl ?_
  refine wr_lstore_n (ls' := [_, _, _, _, _, _, _]) rfl rfl (Nat.le_of_ble_eq_true rfl) rfl ?_
  refine wr_aload_n rfl rfl rfl ?_
  refine wr_get (ci := 12) (f := 1) rfl rfl rfl (by assumption) rfl ?_
  refine wr_iload_n rfl rfl rfl ?_
  refine wr_iald rfl rfl (by assumption) (by omega) (by omega) ?_
  rw [Int.toNat_natCast, k1]
  refine wr_iconst rfl rfl ?_
  refine wr_isub rfl rfl ?_
  refine wr_istore (ls' := [_, _, _, _, _, _, _]) rfl rfl (Nat.le_of_ble_eq_true rfl) rfl ?_
  exact L k l h 0 _ (Nat.le_refl _) (Or.inl rfl) k3.1 (by rw [nh_n]; decide) (fun j hj => rfl) (agr_rf _ _ _) w
theorem mul_step {n2 n3 p r n1 q1 q2 y1 y2 y3 cy : Int} (sd : y1 + y2 * y3 + cy = 1000000000 * q1 + q2) (hv : n2 + cy * (p * r) = n3 + y2 * n1 * p) : n2 + (q2 - y1) * (p * r) + q1 * (p * r * 1000000000) = n3 + y2 * (n1 + y3 * r) * p := by grind
theorem mw_mul {d t a b : Nat} (w : RW h0 h o V A) (ht : t < 260) (ha : a < 260) (hb : b < 260) (hta : t ≠ a) (htb : t ≠ b) (fit : V a * V b < 1000000000 ^ 259) : am_c X (d + 2) 177 [.ref 164, .int (iI t), .int (iI a), .int (iI b)] h (fun r h' => r = none ∧ RW h0 h' o (updI V t (V a * V b)) A) := by
  obtain ⟨l, s, w, R⟩ := w
  obtain ⟨k, k1, k2, k3, k4⟩ := R a ha
  obtain ⟨m, m1, m2, m3, m4⟩ := R b hb
  have na := nv_nonneg k3.1
  have nb := nv_nonneg m3.1
  have km : k + m ≤ 260 := by
    by_cases z1 : k = 0
    · omega
    by_cases z2 : m = 0
    · omega
    have f1 := nv_low k3 (by omega)
    have f2 := nv_low m3 (by omega)
    have f3 : (1000000000 : Int) ^ (k - 1) * 1000000000 ^ (m - 1) ≤ V a * V b := by
      rw [← k4, ← m4]
      exact Int.mul_le_mul f1 f2 (by have := bp_pos (m - 1); omega) na.1
    rw [← Int.pow_add] at f3
    refine Decidable.byContradiction fun c => ?_
    have := bp_mono (m := 259) (n := k - 1 + (m - 1)) (by omega)
    omega
  obtain ⟨N, eN⟩ : ∃ N : Nat, N = k + m := ⟨_, rfl⟩
  have src : ∀ {l1 : Nat → Int}, agr t l s l1 s → (∀ i, i < 260 → l1 (260 * a + i) = blk l a i) ∧ (∀ i, i < 260 → l1 (260 * b + i) = blk l b i) := fun ag => ⟨fun i q => (ag a ha (fun z => hta z.symm)).2 i q, fun i q => (ag b hb (fun z => htb z.symm)).2 i q⟩
  have E : ∀ (l1 : Nat → Int) (h1 : am_H) (x5 x6 x8 x10 x11 : Value), (∀ j, j < N → 0 ≤ blk l1 t j ∧ blk l1 t j < 1000000000) → nv (blk l1 t) N = V a * V b → agr t l s l1 s → MW h0 h1 o l1 s A → am_w X (d + 1) 177 (198, [.ref 164, .int (iI t), .int (iI a), .int (iI b), .int (iI N), x5, x6, am_U, x8, am_U, x10, x11, am_U], [], h1) (fun r h' => r = none ∧ RW h0 h' o (updI V t (V a * V b)) A) := by
    intro l1 h1 x5 x6 x8 x10 x11 hd val ag w
    have cO := w.ob
    have cL := w.li
    have cS := w.sz
    refine wr_aload_n rfl rfl rfl ?_
    refine wr_get (ci := 12) (f := 1) rfl rfl rfl (by assumption) rfl ?_
    refine wr_iload_n rfl rfl rfl ?_
    refine wr_iload rfl rfl rfl ?_
    refine wr_iast rfl rfl (by assumption) (by omega) (by omega) (fun h1 e1 => ?_)
    rw [Int.toNat_natCast] at e1
    have w := e1 ▸ w.setS (updI s t (N : Int))
    clear e1 cS cO
    have cO := w.ob
    refine wr_aload_n rfl rfl rfl ?_
    refine wr_iload_n rfl rfl rfl ?_
    refine wr_cv1 (k' := 148) (ci := 12) rfl rfl rfl rfl (by assumption) rfl rfl (mw_trimC ht R w (updI_s _ _ _) (by omega) hd ag.size val) (fun r h2 q => ?_)
    obtain ⟨rfl, w⟩ := q
    refine wr_vret rfl rfl ?_
    exact ⟨rfl, w⟩
  have O : ∀ (c i : Nat) (l1 : Nat → Int) (h1 : am_H) (x6 x8 x10 x11 : Value), i + c = k → (∀ j, j < N → 0 ≤ blk l1 t j ∧ blk l1 t j < 1000000000) → nv (blk l1 t) N = nv (blk l a) i * V b → (∀ j, i + m ≤ j → j < N → blk l1 t j = 0) → agr t l s l1 s → MW h0 h1 o l1 s A → am_w X (d + 1) 177 (48, [.ref 164, .int (iI t), .int (iI a), .int (iI b), .int (iI N), .int (iI i), x6, am_U, x8, am_U, x10, x11, am_U], [], h1) (fun r h' => r = none ∧ RW h0 h' o (updI V t (V a * V b)) A) := by
    intro c
    induction c with
    | zero =>
      intro i l1 h1 x6 x8 x10 x11 hi hd hv hz ag w
      obtain rfl : i = k := by omega
      rw [k4] at hv
      have cO := w.ob
      have cL := w.li
      have cS := w.sz
      refine wr_iload rfl rfl rfl ?_
      refine wr_aload_n rfl rfl rfl ?_
      refine wr_get (ci := 12) (f := 1) rfl rfl rfl (by assumption) rfl ?_
      refine wr_iload_n rfl rfl rfl ?_
      refine wr_iald rfl rfl (by assumption) (by omega) (by omega) ?_
      rw [Int.toNat_natCast, k1]
      refine wr_icmp_ge rfl rfl rfl (by omega) (by omega) (fun c56 => ?_) (fun c56 => by exfalso; omega)
      exact E l1 h1 _ _ _ _ _ hd hv ag w
    | succ c ih =>
      intro i l1 h1 x6 x8 x10 x11 hi hd hv hz ag w
      have ea := k3.1 i (by omega)
      have ixa : (260 * (a : Int) + (i : Int)) = ((260 * a + i : Nat) : Int) := by omega
      have sa := (src ag).1 i (by omega)
      have I : ∀ (c2 j : Nat) (l1 : Nat → Int) (h1 : am_H) (cy : Int) (x11 : Value), j + c2 = m → 0 ≤ cy → cy < 1000000000 → (∀ j, j < N → 0 ≤ blk l1 t j ∧ blk l1 t j < 1000000000) → nv (blk l1 t) N + cy * 1000000000 ^ (i + j) = nv (blk l a) i * V b + blk l a i * nv (blk l b) j * 1000000000 ^ i → (∀ j, i + m ≤ j → j < N → blk l1 t j = 0) → agr t l s l1 s → MW h0 h1 o l1 s A → am_w X (d + 1) 177 (81, [.ref 164, .int (iI t), .int (iI a), .int (iI b), .int (iI N), .int (iI i), .long (lI cy), am_U, .long (lI (blk l a i)), am_U, .int (iI j), x11, am_U], [], h1) (fun r h' => r = none ∧ RW h0 h' o (updI V t (V a * V b)) A) := by
        clear hd hv hz ag w sa x11 h1 l1
        intro c2
        induction c2 with
        | zero =>
          intro j l1 h1 cy x11 hj hc0 hc1 hd hv hz ag w
          obtain rfl : j = m := by omega
          have ixt : (260 * (t : Int) + (i : Int) + (j : Int)) = ((260 * t + (i + j) : Nat) : Int) := by omega
          have cO := w.ob
          have cL := w.li
          have cS := w.sz
          refine wr_iload rfl rfl rfl ?_
          refine wr_aload_n rfl rfl rfl ?_
          refine wr_get (ci := 12) (f := 1) rfl rfl rfl (by assumption) rfl ?_
          refine wr_iload_n rfl rfl rfl ?_
          refine wr_iald rfl rfl (by assumption) (by omega) (by omega) ?_
          rw [Int.toNat_natCast, m1]
          refine wr_icmp_ge rfl rfl rfl (by omega) (by omega) (fun c89 => ?_) (fun c89 => by exfalso; omega)
          refine wr_aload_n rfl rfl rfl ?_
          refine wr_get (ci := 12) (f := 0) rfl rfl rfl (by assumption) rfl ?_
          refine wr_sipush rfl rfl (by decide) ?_
          refine wr_iload_n rfl rfl rfl ?_
          refine wr_imul rfl rfl ?_
          refine wr_iload rfl rfl rfl ?_
          refine wr_iadd rfl rfl ?_
          refine wr_aload_n rfl rfl rfl ?_
          refine wr_get (ci := 12) (f := 1) rfl rfl rfl (by assumption) rfl ?_
          refine wr_iload_n rfl rfl rfl ?_
          refine wr_iald rfl rfl (by assumption) (by omega) (by omega) ?_
          rw [Int.toNat_natCast, m1]
          refine wr_iadd rfl rfl ?_
          rw [ixt]
          refine wr_lload rfl rfl rfl ?_
          refine wr_l2i rfl rfl ?_
          refine wr_iast rfl rfl (by assumption) (by omega) (by omega) (fun h1 e1 => ?_)
          rw [Int.toNat_natCast] at e1
          have w := e1 ▸ w.setL (updI l1 (260 * t + (i + j)) cy)
          clear e1
          refine wr_iinc (ls' := [_, _, _, _, _, _, _, _, _, _, _, _, _]) rfl rfl rfl rfl ?_
          refine wr_goto rfl rfl ?_
          rw [show (i : Int) + 1 = ((i + 1 : Nat) : Int) by omega]
          refine ih (i + 1) _ _ _ _ _ _ (by omega) ?_ ?_ (fun p q1 q2 => ?_) (ag.limb (by omega)) w
          · rw [blk_upd]
            exact dig_at hd ⟨hc0, hc1⟩
          · rw [blk_upd, nv_at (by omega), hz (i + j) (by omega) (by omega)]
            show _ = (nv (blk l a) i + blk l a i * 1000000000 ^ i) * V b
            rw [m4] at hv
            rw [Int.sub_zero, hv]
            grind
          · rw [blk_upd, updI_n (by omega)]
            exact hz p (by omega) q2
        | succ c2 ih2 =>
          intro j l1 h1 cy x11 hj hc0 hc1 hd hv hz ag w
          have eb := m3.1 j (by omega)
          have et := hd (i + j) (by omega)
          have ixb : (260 * (b : Int) + (j : Int)) = ((260 * b + j : Nat) : Int) := by omega
          have ixt : (260 * (t : Int) + (i : Int) + (j : Int)) = ((260 * t + (i + j) : Nat) : Int) := by omega
          have sb := (src ag).2 j (by omega)
          have st : l1 (260 * t + (i + j)) = blk l1 t (i + j) := rfl
          have xm : 0 ≤ blk l a i * blk l b j ∧ blk l a i * blk l b j ≤ 999999999 * 999999999 := by
            refine ⟨Int.mul_nonneg (by omega) (by omega), ?_⟩
            have y1 : blk l a i * blk l b j ≤ 999999999 * blk l b j := Int.mul_le_mul_of_nonneg_right (by omega) (by omega)
            omega
          obtain ⟨S, eS⟩ : ∃ S, S = blk l1 t (i + j) + blk l a i * blk l b j + cy := ⟨_, rfl⟩
          have Sb : 0 ≤ S ∧ S ≤ 999999999999999999 := by omega
          have sd : S = 1000000000 * (S / 1000000000) + S % 1000000000 := (Int.mul_ediv_add_emod S 1000000000).symm
          have cO := w.ob
          have cL := w.li
          have cS := w.sz
          refine wr_iload rfl rfl rfl ?_
          refine wr_aload_n rfl rfl rfl ?_
          refine wr_get (ci := 12) (f := 1) rfl rfl rfl (by assumption) rfl ?_
          refine wr_iload_n rfl rfl rfl ?_
          refine wr_iald rfl rfl (by assumption) (by omega) (by omega) ?_
          rw [Int.toNat_natCast, m1]
          refine wr_icmp_ge rfl rfl rfl (by omega) (by omega) (fun c89 => by exfalso; omega) (fun c89 => ?_)
          refine wr_aload_n rfl rfl rfl ?_
          refine wr_get (ci := 12) (f := 0) rfl rfl rfl (by assumption) rfl ?_
          refine wr_sipush rfl rfl (by decide) ?_
          refine wr_iload_n rfl rfl rfl ?_
          refine wr_imul rfl rfl ?_
          refine wr_iload rfl rfl rfl ?_
          refine wr_iadd rfl rfl ?_
          refine wr_iload rfl rfl rfl ?_
          refine wr_iadd rfl rfl ?_
          rw [ixt]
          refine wr_iald rfl rfl (by assumption) (by omega) (by omega) ?_
          rw [Int.toNat_natCast, st]
          refine wr_i2l rfl rfl (by omega) ?_
          refine wr_lload rfl rfl rfl ?_
          refine wr_aload_n rfl rfl rfl ?_
          refine wr_get (ci := 12) (f := 0) rfl rfl rfl (by assumption) rfl ?_
          refine wr_sipush rfl rfl (by decide) ?_
          refine wr_iload_n rfl rfl rfl ?_
          refine wr_imul rfl rfl ?_
          refine wr_iload rfl rfl rfl ?_
          refine wr_iadd rfl rfl ?_
          rw [ixb]
          refine wr_iald rfl rfl (by assumption) (by omega) (by omega) ?_
          rw [Int.toNat_natCast, sb]
          refine wr_i2l rfl rfl (by omega) ?_
          refine wr_lmul rfl rfl ?_
          refine wr_ladd rfl rfl ?_
          refine wr_lload rfl rfl rfl ?_
          refine wr_ladd rfl rfl ?_
          rw [← eS]
          refine wr_lstore (ls' := [_, _, _, _, _, _, _, _, _, _, _, _, _]) rfl rfl (Nat.le_of_ble_eq_true rfl) rfl ?_
          refine wr_aload_n rfl rfl rfl ?_
          refine wr_get (ci := 12) (f := 0) rfl rfl rfl (by assumption) rfl ?_
          refine wr_sipush rfl rfl (by decide) ?_
          refine wr_iload_n rfl rfl rfl ?_
          refine wr_imul rfl rfl ?_
          refine wr_iload rfl rfl rfl ?_
          refine wr_iadd rfl rfl ?_
          refine wr_iload rfl rfl rfl ?_
          refine wr_iadd rfl rfl ?_
          rw [ixt]
          refine wr_lload rfl rfl rfl ?_
          refine wr_ldc2 (z := 1000000000) rfl rfl rfl (by decide) ?_
          refine wr_lremN rfl rfl (by omega) (by omega) (by omega) (by omega) ?_
          refine wr_l2i rfl rfl ?_
          refine wr_iast rfl rfl (by assumption) (by omega) (by omega) (fun h1 e1 => ?_)
          rw [Int.toNat_natCast] at e1
          have w := e1 ▸ w.setL (updI l1 (260 * t + (i + j)) (S % 1000000000))
          clear e1
          refine wr_lload rfl rfl rfl ?_
          refine wr_ldc2 (z := 1000000000) rfl rfl rfl (by decide) ?_
          refine wr_ldivN rfl rfl (by omega) (by omega) (by omega) (by omega) ?_
          refine wr_lstore (ls' := [_, _, _, _, _, _, _, _, _, _, _, _, _]) rfl rfl (Nat.le_of_ble_eq_true rfl) rfl ?_
          refine wr_iinc (ls' := [_, _, _, _, _, _, _, _, _, _, _, _, _]) rfl rfl rfl rfl ?_
          refine wr_goto rfl rfl ?_
          rw [show (j : Int) + 1 = ((j + 1 : Nat) : Int) by omega]
          refine ih2 (j + 1) _ _ _ _ (by omega) (by omega) (by omega) ?_ ?_ (fun p q1 q2 => ?_) (ag.limb (by omega)) w
          · rw [blk_upd]
            exact dig_at hd (by omega)
          · rw [blk_upd, nv_at (by omega)]
            show _ = _ + blk l a i * (nv (blk l b) j + blk l b j * 1000000000 ^ j) * 1000000000 ^ i
            rw [show i + (j + 1) = (i + j) + 1 by omega, Int.pow_succ]
            rw [Int.pow_add] at hv ⊢
            exact mul_step (by rw [← eS]; exact sd) hv
          · rw [blk_upd, updI_n (by omega)]
            exact hz p q1 q2
      have cO := w.ob
      have cL := w.li
      have cS := w.sz
      refine wr_iload rfl rfl rfl ?_
      refine wr_aload_n rfl rfl rfl ?_
      refine wr_get (ci := 12) (f := 1) rfl rfl rfl (by assumption) rfl ?_
      refine wr_iload_n rfl rfl rfl ?_
      refine wr_iald rfl rfl (by assumption) (by omega) (by omega) ?_
      rw [Int.toNat_natCast, k1]
      refine wr_icmp_ge rfl rfl rfl (by omega) (by omega) (fun c56 => by exfalso; omega) (fun c56 => ?_)
      refine wr_lconst (z := 0) rfl rfl rfl ?_
      refine wr_lstore (ls' := [_, _, _, _, _, _, _, _, _, _, _, _, _]) rfl rfl (Nat.le_of_ble_eq_true rfl) rfl ?_
      refine wr_aload_n rfl rfl rfl ?_
      refine wr_get (ci := 12) (f := 0) rfl rfl rfl (by assumption) rfl ?_
      refine wr_sipush rfl rfl (by decide) ?_
      refine wr_iload_n rfl rfl rfl ?_
      refine wr_imul rfl rfl ?_
      refine wr_iload rfl rfl rfl ?_
      refine wr_iadd rfl rfl ?_
      rw [ixa]
      refine wr_iald rfl rfl (by assumption) (by omega) (by omega) ?_
      rw [Int.toNat_natCast, sa]
      refine wr_i2l rfl rfl (by omega) ?_
      refine wr_lstore (ls' := [_, _, _, _, _, _, _, _, _, _, _, _, _]) rfl rfl (Nat.le_of_ble_eq_true rfl) rfl ?_
      refine wr_iconst rfl rfl ?_
      refine wr_istore (ls' := [_, _, _, _, _, _, _, _, _, _, _, _, _]) rfl rfl (Nat.le_of_ble_eq_true rfl) rfl ?_
      exact I m 0 l1 h1 0 _ (by omega) (by omega) (by omega) hd (by rw [hv]; show _ + 0 * _ = _ + blk l a i * 0 * _; omega) hz ag w
  have Z : ∀ (c i : Nat) (l1 : Nat → Int) (h1 : am_H), i + c = N → (∀ j, j < i → blk l1 t j = 0) → agr t l s l1 s → MW h0 h1 o l1 s A → am_w X (d + 1) 177 (18, [.ref 164, .int (iI t), .int (iI a), .int (iI b), .int (iI N), .int (iI i), am_U, am_U, am_U, am_U, am_U, am_U, am_U], [], h1) (fun r h' => r = none ∧ RW h0 h' o (updI V t (V a * V b)) A) := by
    intro c
    induction c with
    | zero =>
      intro i l1 h1 hi hz ag w
      obtain rfl : i = N := by omega
      refine wr_iload rfl rfl rfl ?_
      refine wr_iload rfl rfl rfl ?_
      refine wr_icmp_ge rfl rfl rfl (by omega) (by omega) (fun c22 => ?_) (fun c22 => by exfalso; omega)
      refine wr_iconst rfl rfl ?_
      refine wr_istore (ls' := [_, _, _, _, _, _, _, _, _, _, _, _, _]) rfl rfl (Nat.le_of_ble_eq_true rfl) rfl ?_
      exact O k 0 l1 h1 _ _ _ _ (by omega) (fun j hj => by rw [hz j hj]; decide) (by rw [nv_zero hz]; show _ = 0 * _; omega) (fun j _ hj => hz j hj) ag w
    | succ c ih =>
      intro i l1 h1 hi hz ag w
      have ixt : (260 * (t : Int) + (i : Int)) = ((260 * t + i : Nat) : Int) := by omega
      have cO := w.ob
      have cL := w.li
      have cS := w.sz
      refine wr_iload rfl rfl rfl ?_
      refine wr_iload rfl rfl rfl ?_
      refine wr_icmp_ge rfl rfl rfl (by omega) (by omega) (fun c22 => by exfalso; omega) (fun c22 => ?_)
      refine wr_aload_n rfl rfl rfl ?_
      refine wr_get (ci := 12) (f := 0) rfl rfl rfl (by assumption) rfl ?_
      refine wr_sipush rfl rfl (by decide) ?_
      refine wr_iload_n rfl rfl rfl ?_
      refine wr_imul rfl rfl ?_
      refine wr_iload rfl rfl rfl ?_
      refine wr_iadd rfl rfl ?_
      rw [ixt]
      refine wr_iconst rfl rfl ?_
      refine wr_iast rfl rfl (by assumption) (by omega) (by omega) (fun h1 e1 => ?_)
      rw [Int.toNat_natCast] at e1
      have w := e1 ▸ w.setL (updI l1 (260 * t + i) 0)
      clear e1
      refine wr_iinc (ls' := [_, _, _, _, _, _, _, _, _, _, _, _, _]) rfl rfl rfl rfl ?_
      refine wr_goto rfl rfl ?_
      rw [show (i : Int) + 1 = ((i + 1 : Nat) : Int) by omega]
      refine ih (i + 1) _ _ (by omega) (fun j hj => ?_) (ag.limb (by omega)) w
      rw [blk_upd]
      by_cases e : j = i
      · subst e; rw [updI_s]
      · rw [updI_n e]; exact hz j (by omega)
  have cO := w.ob
  have cL := w.li
  have cS := w.sz
  refine am_c.of (Nat.le_of_ble_eq_true rfl) ?_
  show am_w _ _ _ (_, [_, _, _, _, _, _, _, _, _, _, _, _, _], _, _) _
  refine wr_aload_n rfl rfl rfl ?_
  refine wr_get (ci := 12) (f := 1) rfl rfl rfl (by assumption) rfl ?_
  refine wr_iload_n rfl rfl rfl ?_
  refine wr_iald rfl rfl (by assumption) (by omega) (by omega) ?_
  rw [Int.toNat_natCast, k1]
  refine wr_aload_n rfl rfl rfl ?_
  refine wr_get (ci := 12) (f := 1) rfl rfl rfl (by assumption) rfl ?_
  refine wr_iload_n rfl rfl rfl ?_
  refine wr_iald rfl rfl (by assumption) (by omega) (by omega) ?_
  rw [Int.toNat_natCast, m1]
  refine wr_iadd rfl rfl ?_
  refine wr_istore (ls' := [_, _, _, _, _, _, _, _, _, _, _, _, _]) rfl rfl (Nat.le_of_ble_eq_true rfl) rfl ?_
  refine wr_iconst rfl rfl ?_
  refine wr_istore (ls' := [_, _, _, _, _, _, _, _, _, _, _, _, _]) rfl rfl (Nat.le_of_ble_eq_true rfl) rfl ?_
  rw [show (k : Int) + m = (N : Int) by omega]
  exact Z N 0 l h (by omega) (fun j hj => by omega) (agr_rf _ _ _) w
end RF2
