/-! THE REFERENCE: KEEP AND VOLUME -/
theorem volS_congr {m m' K K' : Nat → Int} : ∀ n, (∀ k, k < n → m' k = m k ∧ K' k = K k) → volS m' K' n = volS m K n
  | 0, _ => rfl
  | 1, _ => rfl
  | n + 2, h => by
    rw [volS, volS, volS_congr (n + 1) (fun k hk => h k (by omega)), (h n (by omega)).1, (h n (by omega)).2, (h (n + 1) (by omega)).1, (h (n + 1) (by omega)).2]
theorem volS_B {m K : Nat → Int} : ∀ n, (∀ k, k < n → (0 ≤ m k ∧ m k ≤ 100000) ∧ 0 ≤ K k ∧ K k ≤ 3600000000000000000000000) → (∀ k, k + 1 < n → m k < m (k + 1)) → 0 ≤ volS m K n ∧ volS m K n ≤ n * 1000000000000000000000000000000000
  | 0, _, _ => ⟨Int.le_refl _, by show (0 : Int) ≤ _; omega⟩
  | 1, _, _ => ⟨Int.le_refl _, by show (0 : Int) ≤ _; omega⟩
  | n + 2, h, g => by
    have ih := volS_B (n + 1) (fun k hk => h k (by omega)) (fun k hk => g k (by omega))
    have h1 := h n (by omega)
    have h2 := h (n + 1) (by omega)
    have g1 := g n (by omega)
    rw [volS]
    have x0 : 0 ≤ (K n + K (n + 1)) * (500 * (m (n + 1) - m n)) := Int.mul_nonneg (by omega) (by omega)
    have x1 : (K n + K (n + 1)) * (500 * (m (n + 1) - m n)) ≤ 7200000000000000000000000 * 50000000 := Int.mul_le_mul (by omega) (by omega) (by omega) (by omega)
    generalize (K n + K (n + 1)) * (500 * (m (n + 1) - m n)) = y at *
    omega
section RRD
variable {X : Nat × (Nat → Int32)} {h0 h h' : am_H} {o o' : Nat → Int} {A A' : Nat → Nat → Int} {F F' : Nat → Rat} {z z' : PS}
theorem fw_whole {d f g : Nat} (w : FW h0 h o F A) (hf : f < 125) (hg : g < 125) (fit : ((F f).num.natAbs : Int) < 1000000000 ^ 259) : am_c X (d + 4) 205 [.ref 164, .int (iI f), .int (iI g)] h (fun r h' => r = none ∧ FW h0 h' o (updR F g ((flo (F f) : Int) : Rat)) A) := by
  obtain ⟨V, S, w, hF⟩ := w
  have cO := w.cO
  obtain ⟨a1, a2, a3⟩ := hF f hf
  have dp := (F f).den_pos
  have if0 : 2 * (f : Int) = ((2 * f : Nat) : Int) := by omega
  have if1 : ((2 * f : Nat) : Int) + 1 = ((2 * f + 1 : Nat) : Int) := by omega
  have ig0 : 2 * (g : Int) = ((2 * g : Nat) : Int) := by omega
  have ig1 : ((2 * g : Nat) : Int) + 1 = ((2 * g + 1 : Nat) : Int) := by omega
  refine am_c.of (Nat.le_of_ble_eq_true rfl) ?_
  show am_w _ _ _ (_, [_, _, _], _, _) _
  refine wr_aload_n rfl rfl rfl ?_
  refine wr_sipush rfl rfl (by decide) ?_
  refine wr_sipush rfl rfl (by decide) ?_
  refine wr_iconst rfl rfl ?_
  refine wr_iload_n rfl rfl rfl ?_
  refine wr_imul rfl rfl ?_
  rw [if0]
  refine wr_iconst rfl rfl ?_
  refine wr_iload_n rfl rfl rfl ?_
  refine wr_imul rfl rfl ?_
  rw [if0]
  refine wr_iconst rfl rfl ?_
  refine wr_iadd rfl rfl ?_
  rw [if1]
  refine wr_cv4 (k' := 152) (ci := 12) rfl rfl rfl rfl (by assumption) rfl rfl (mw_divide (a := 2 * f) (b := 2 * f + 1) w (by omega) (by omega) (by omega) (by omega) (by omega) (by rw [a1]; exact fit)) (fun r h2 q => ?_)
  obtain ⟨rfl, V2, w, s2, n2⟩ := q
  rw [a1, a2] at s2
  have fl : ((F f).num.natAbs : Int) / ((F f).den : Int) = flo (F f) := rfl
  rw [fl] at s2
  have cO := w.cO
  refine wr_aload_n rfl rfl rfl ?_
  refine wr_iconst rfl rfl ?_
  refine wr_iload_n rfl rfl rfl ?_
  refine wr_imul rfl rfl ?_
  rw [ig0]
  refine wr_sipush rfl rfl (by decide) ?_
  refine wr_cv2 (k' := 145) (ci := 12) rfl rfl rfl rfl (by assumption) rfl rfl (mw_copyNumber (a := 2 * g) (b := 253) w (by omega) (by decide) (by omega)) (fun r h2 q => ?_)
  obtain ⟨rfl, V3, w, s3, n3⟩ := rw_ex q
  rw [s2] at s3
  have cO := w.cO
  refine wr_aload_n rfl rfl rfl ?_
  refine wr_iconst rfl rfl ?_
  refine wr_iload_n rfl rfl rfl ?_
  refine wr_imul rfl rfl ?_
  rw [ig0]
  refine wr_iconst rfl rfl ?_
  refine wr_iadd rfl rfl ?_
  rw [ig1]
  refine wr_lconst (z := 1) rfl rfl rfl ?_
  refine wr_cv2 (k' := 142) (ci := 12) rfl rfl rfl rfl (by assumption) rfl rfl (mw_setNumber (n := 2 * g + 1) (v := 1) w (by omega) (by decide)) (fun r h2 q => ?_)
  obtain ⟨rfl, V4, w, s4, n4⟩ := rw_ex q
  have v253 : V4 253 = flo (F f) := by rw [n4 _ (by omega), n3 _ (by omega), s2]
  have fl0 : 0 ≤ flo (F f) := by rw [← v253]; exact w.nn (by decide)
  have cO := w.cO
  have cG := (w.setG S).1
  obtain ⟨s, cS, sz⟩ := w.size
  obtain ⟨k, k1, k2, k3⟩ := sz 253 (by decide)
  rw [v253] at k3
  have x1 : s (Int.toNat 253) = k := k1
  have J : ∀ σ : Int, σ = (flo (F f)).sign → am_w X (d + 3) 205 (59, [.ref 164, .int (iI f), .int (iI g)], [.int (iI σ), .int (iI g), .ref 167], h2) (fun r h' => r = none ∧ FW h0 h' o (updR F g ((flo (F f) : Int) : Rat)) A) := by
    intro σ hσ
    refine wr_iast rfl rfl (by assumption) (by omega) (by omega) (fun h1 e1 => ?_)
    rw [Int.toNat_natCast] at e1
    have w := e1 ▸ (w.setG (updI S g σ)).2
    refine wr_vret rfl rfl ?_
    refine ⟨rfl, V4, _, w, fun j hj => ?_⟩
    by_cases e : j = g
    · subst e
      rw [updR_s]
      refine ⟨?_, ?_, ?_⟩
      · rw [n4 _ (by omega), s3, Rat.num_intCast]; omega
      · rw [s4, Rat.den_intCast]; rfl
      · rw [updI_s, Rat.num_intCast, hσ]
    · rw [updR_n e]
      obtain ⟨a, b, c⟩ := hF j hj
      exact ⟨by rw [n4 _ (by omega), n3 _ (by omega), n2 _ (by omega) (by omega) (by omega) (by omega), a], by rw [n4 _ (by omega), n3 _ (by omega), n2 _ (by omega) (by omega) (by omega) (by omega), b], by rw [updI_n e, c]⟩
  have sg := sgn_in (flo (F f))
  by_cases k0 : k = 0
  ·
    refine wr_aload_n rfl rfl rfl ?_
    refine wr_get (ci := 12) (f := 2) rfl rfl rfl (by assumption) rfl ?_
    refine wr_iload_n rfl rfl rfl ?_
    refine wr_aload_n rfl rfl rfl ?_
    refine wr_get (ci := 12) (f := 1) rfl rfl rfl (by assumption) rfl ?_
    refine wr_sipush rfl rfl (by decide) ?_
    refine wr_iald rfl rfl (by assumption) (by omega) (by omega) ?_
    rw [x1]
    refine wr_if_ne rfl rfl rfl (by omega) (fun c51 => by exfalso; omega) (fun c51 => ?_)
    refine wr_iconst rfl rfl ?_
    refine wr_goto rfl rfl ?_
    exact J 0 (by omega)
  ·
    refine wr_aload_n rfl rfl rfl ?_
    refine wr_get (ci := 12) (f := 2) rfl rfl rfl (by assumption) rfl ?_
    refine wr_iload_n rfl rfl rfl ?_
    refine wr_aload_n rfl rfl rfl ?_
    refine wr_get (ci := 12) (f := 1) rfl rfl rfl (by assumption) rfl ?_
    refine wr_sipush rfl rfl (by decide) ?_
    refine wr_iald rfl rfl (by assumption) (by omega) (by omega) ?_
    rw [x1]
    refine wr_if_ne rfl rfl rfl (by omega) (fun c51 => ?_) (fun c51 => by exfalso; omega)
    refine wr_iconst rfl rfl ?_
    exact J 1 (by omega)
theorem rr_volume {d : Nat} {x part : Int} (C : RR h z) (V : VS z) (hx : x = 0 ∨ x = 1) (hp : -2147483648 ≤ part ∧ part ≤ 2147483647) : am_c X (d + 7) 206 [.ref 164, .int (iI x), .int (iI part)] h (fun r h' => r = some (.long (lI (tellP (if x = 1 then (z.vC : Rat) else z.vF) 1 part))) ∧ RR h' z ∧ frI [(164, 181)] h h') := by
  obtain ⟨o, F, A, w, r⟩ := C
  obtain ⟨e37, KC, KF, kk, mm, -, vC, vF⟩ := r.k
  have ks := V.ksb
  obtain ⟨K, eK, eV⟩ : ∃ K : Nat → Int, (∀ k, k < z.ks → F (54 + 2 * k + (if x = 1 then 0 else 1)) = (K k : Rat) ∧ 0 ≤ K k ∧ K k ≤ 3600000000000000000000000) ∧ (if x = 1 then (z.vC : Rat) else z.vF) = (volS (A 181) K z.ks : Int) := by
    by_cases x1 : x = 1
    · refine ⟨KC, fun k hk => ?_, ?_⟩
      · rw [if_pos x1]; exact ⟨(kk k hk).2.2.2.1, (kk k hk).2.1⟩
      · rw [if_pos x1, vC]
    · refine ⟨KF, fun k hk => ?_, ?_⟩
      · rw [if_neg x1, show 54 + 2 * k + 1 = 55 + 2 * k by omega]; exact ⟨(kk k hk).2.2.2.2, (kk k hk).2.2.1⟩
      · rw [if_neg x1, vF]
  rw [eV]
  have big4 : (1000000000 : Int) ^ 4 = 1000000000000000000000000000000000000 := by decide
  have vb : ∀ n, n ≤ z.ks → 0 ≤ volS (A 181) K n ∧ volS (A 181) K n ≤ n * 1000000000000000000000000000000000 := fun n hn => volS_B n (fun k hk => ⟨(kk k (by omega)).1, (eK k (by omega)).2⟩) (fun k hk => mm k (by omega))
  have cA := w.arr (p := 181) (n := 20) (by decide) (by decide)
  have L : ∀ (m k : Nat) (F1 : Nat → Rat) (h1 : am_H) (x4 : Value), z.ks ≤ k + 1 + m → (k + 1 ≤ z.ks ∨ k = 0) → FW h h1 o F1 A → (∀ j, j < 94 → F1 j = F j) → F1 94 = (volS (A 181) K (k + 1) : Int) → am_w X (d + 6) 206 (10, [.ref 164, .int (iI x), .int (iI part), .int (iI k), x4], [], h1) (fun r h' => r = some (.long (lI (tellP (volS (A 181) K z.ks : Int) 1 part))) ∧ RR h' z ∧ frI [(164, 181)] h h') := by
    intro m
    induction m with
    | zero =>
      intro k F1 h1 x4 hk hk2 w f1 f2
      have cO := w.cO
      refine wr_iload_n rfl rfl rfl ?_
      refine wr_iconst rfl rfl ?_
      refine wr_iadd rfl rfl ?_
      refine wr_aload_n rfl rfl rfl ?_
      refine wr_get (ci := 12) (f := 37) rfl rfl rfl (by assumption) rfl ?_
      rw [e37]
      refine wr_icmp_ge rfl rfl rfl (by omega) (by omega) (fun c17 => ?_) (fun c17 => by exfalso; omega)
      refine wr_aload_n rfl rfl rfl ?_
      refine wr_bipush rfl rfl (by decide) ?_
      refine wr_iload_n rfl rfl rfl ?_
      refine wr_cv2 (k' := 196) (ci := 12) rfl rfl rfl rfl (by assumption) rfl rfl (fw_tell (f := 94) w (by decide) hp) (fun r h2 q => ?_)
      obtain ⟨rfl, rfl⟩ := q
      refine wr_lret rfl rfl ?_
      refine ⟨?_, RR.of r V w f1⟩
      rw [f2]
      have e : volS (A 181) K (k + 1) = volS (A 181) K z.ks := by
        by_cases c : z.ks = 0
        · rw [c, show k = 0 by omega]; rfl
        · rw [show k + 1 = z.ks by omega]
      rw [e]
    | succ m ih =>
      intro k F1 h1 x4 hk hk2 w f1 f2
      have cO := w.cO
      by_cases c : z.ks ≤ k + 1
      ·
        refine wr_iload_n rfl rfl rfl ?_
        refine wr_iconst rfl rfl ?_
        refine wr_iadd rfl rfl ?_
        refine wr_aload_n rfl rfl rfl ?_
        refine wr_get (ci := 12) (f := 37) rfl rfl rfl (by assumption) rfl ?_
        rw [e37]
        refine wr_icmp_ge rfl rfl rfl (by omega) (by omega) (fun c17 => ?_) (fun c17 => by exfalso; omega)
        refine wr_aload_n rfl rfl rfl ?_
        refine wr_bipush rfl rfl (by decide) ?_
        refine wr_iload_n rfl rfl rfl ?_
        refine wr_cv2 (k' := 196) (ci := 12) rfl rfl rfl rfl (by assumption) rfl rfl (fw_tell (f := 94) w (by decide) hp) (fun r h2 q => ?_)
        obtain ⟨rfl, rfl⟩ := q
        refine wr_lret rfl rfl ?_
        refine ⟨?_, RR.of r V w f1⟩
        rw [f2]
        have e : volS (A 181) K (k + 1) = volS (A 181) K z.ks := by
          by_cases c : z.ks = 0
          · rw [c, show k = 0 by omega]; rfl
          · rw [show k + 1 = z.ks by omega]
        rw [e]
      · obtain ⟨g, eg⟩ : ∃ g : Nat, g = 54 + 2 * k + (if x = 1 then 0 else 1) := ⟨_, rfl⟩
        have gb : g < 92 := by rw [eg]; split <;> omega
        obtain ⟨a1, a2, a3⟩ := eK k (by omega)
        obtain ⟨b1, b2, b3⟩ := eK (k + 1) (by omega)
        rw [← eg] at a1
        rw [show 54 + 2 * (k + 1) + (if x = 1 then 0 else 1) = g + 2 by rw [eg]; omega] at b1
        have m1 := (kk k (by omega)).1
        have m2 := (kk (k + 1) (by omega)).1
        have mlt := mm k (by omega)
        have vb1 := vb (k + 1) (by omega)
        have vb2 := vb (k + 1 + 1) (by omega)
        have J : am_w X (d + 6) 206 (36, [.ref 164, .int (iI x), .int (iI part), .int (iI k), x4], [.int (iI g)], h1) (fun r h' => r = some (.long (lI (tellP (volS (A 181) K z.ks : Int) 1 part))) ∧ RR h' z ∧ frI [(164, 181)] h h') := by
          refine wr_istore (ls' := [_, _, _, _, _]) rfl rfl (Nat.le_of_ble_eq_true rfl) rfl ?_
          refine wr_aload_n rfl rfl rfl ?_
          refine wr_bipush rfl rfl (by decide) ?_
          refine wr_iload rfl rfl rfl ?_
          refine wr_iload rfl rfl rfl ?_
          refine wr_iconst rfl rfl ?_
          refine wr_iadd rfl rfl ?_
          rw [show (g : Int) + 2 = ((g + 2 : Nat) : Int) by omega]
          have p1 : F1 g = (K k : Rat) := by rw [f1 _ (by omega), a1]
          have p2 : F1 (g + 2) = (K (k + 1) : Rat) := by rw [f1 _ (by omega), b1]
          refine wr_cv3 (k' := 178) (ci := 12) rfl rfl rfl rfl (by assumption) rfl rfl (fw_add (P := 4) (R := 4) (f := 95) (a := g) (b := g + 2) w (by decide) (by omega) (by omega) (by rw [p1]; exact qB.int (by rw [big4]; omega) (by decide)) (by rw [p2]; exact qB.int (by rw [big4]; omega) (by decide)) (by decide)) (fun r h2 q => ?_)
          obtain ⟨rfl, w⟩ := q
          rw [p1, p2, ← Rat.intCast_add] at w
          have cO := w.cO
          have cA := w.arr (p := 181) (n := 20) (by decide) (by decide)
          refine wr_aload_n rfl rfl rfl ?_
          refine wr_bipush rfl rfl (by decide) ?_
          refine wr_ldc2 (z := 500) rfl rfl rfl (by decide) ?_
          refine wr_aload_n rfl rfl rfl ?_
          refine wr_get (ci := 12) (f := 38) rfl rfl rfl (by assumption) rfl ?_
          refine wr_iload_n rfl rfl rfl ?_
          refine wr_iconst rfl rfl ?_
          refine wr_iadd rfl rfl ?_
          rw [show (k : Int) + 1 = ((k + 1 : Nat) : Int) by omega]
          refine wr_iald rfl rfl (by assumption) (by omega) (by omega) ?_
          rw [Int.toNat_natCast]
          refine wr_aload_n rfl rfl rfl ?_
          refine wr_get (ci := 12) (f := 38) rfl rfl rfl (by assumption) rfl ?_
          refine wr_iload_n rfl rfl rfl ?_
          refine wr_iald rfl rfl (by assumption) (by omega) (by omega) ?_
          rw [Int.toNat_natCast]
          refine wr_isub rfl rfl ?_
          refine wr_i2l rfl rfl (by omega) ?_
          refine wr_lmul rfl rfl ?_
          refine wr_lconst (z := 1) rfl rfl rfl ?_
          refine wr_cv3 (k' := 140) (ci := 12) rfl rfl rfl rfl (by assumption) rfl rfl (fw_set (f := 96) (v := 1) w (by decide) (by omega) (by decide) (by decide)) (fun r h2 q => ?_)
          obtain ⟨rfl, w⟩ := q
          rw [div1] at w
          have cO := w.cO
          refine wr_aload_n rfl rfl rfl ?_
          refine wr_bipush rfl rfl (by decide) ?_
          refine wr_bipush rfl rfl (by decide) ?_
          refine wr_bipush rfl rfl (by decide) ?_
          refine wr_cv3 (k' := 176) (ci := 12) rfl rfl rfl rfl (by assumption) rfl rfl (fw_times (P := 4) (R := 4) (f := 95) (a := 95) (b := 96) w (by decide) (by decide) (by decide) (by rw [updR_n (by decide), updR_s]; exact qB.int (by rw [big4]; omega) (by decide)) (by rw [updR_s]; exact qB.int (by rw [big4]; omega) (by decide)) (by decide)) (fun r h2 q => ?_)
          obtain ⟨rfl, w⟩ := q
          rw [updR_s, updR_n (show (95 : Nat) ≠ 96 by decide), updR_s, ← Rat.intCast_mul] at w
          have cO := w.cO
          refine wr_aload_n rfl rfl rfl ?_
          refine wr_bipush rfl rfl (by decide) ?_
          refine wr_bipush rfl rfl (by decide) ?_
          refine wr_bipush rfl rfl (by decide) ?_
          have z94 : ∀ {q q' q'' : Rat}, updR (updR (updR F1 95 q) 96 q') 95 q'' 94 = (volS (A 181) K (k + 1) : Int) := fun {q q' q''} => by rw [updR_n (by decide), updR_n (by decide), updR_n (by decide), f2]
          have vs : volS (A 181) K (k + 1 + 1) = volS (A 181) K (k + 1) + (K k + K (k + 1)) * (500 * (A 181 (k + 1) - A 181 k)) := rfl
          refine wr_cv3 (k' := 178) (ci := 12) rfl rfl rfl rfl (by assumption) rfl rfl (fw_add (P := 4) (R := 4) (f := 94) (a := 94) (b := 95) w (by decide) (by decide) (by decide) (by rw [z94]; exact qB.int (by rw [big4]; omega) (by decide)) (by rw [updR_s]; exact qB.int (by rw [big4]; generalize (K k + K (k + 1)) * (500 * (A 181 (k + 1) - A 181 k)) = y at vs ⊢; omega) (by decide)) (by decide)) (fun r h2 q => ?_)
          obtain ⟨rfl, w⟩ := q
          rw [z94, updR_s, ← Rat.intCast_add, ← vs] at w
          refine wr_iinc (ls' := [_, _, _, _, _]) rfl rfl rfl rfl ?_
          refine wr_goto rfl rfl ?_
          rw [show (k : Int) + 1 = ((k + 1 : Nat) : Int) by omega]
          exact ih (k + 1) _ _ _ (by omega) (Or.inl (by omega)) w (fun j hj => by rw [updR_n (by omega), updR_n (by omega), updR_n (by omega), updR_n (by omega), f1 j hj]) (by rw [updR_s])
        rcases hx with x0 | x1
        ·
          refine wr_iload_n rfl rfl rfl ?_
          refine wr_iconst rfl rfl ?_
          refine wr_iadd rfl rfl ?_
          refine wr_aload_n rfl rfl rfl ?_
          refine wr_get (ci := 12) (f := 37) rfl rfl rfl (by assumption) rfl ?_
          rw [e37]
          refine wr_icmp_ge rfl rfl rfl (by omega) (by omega) (fun c17 => by exfalso; omega) (fun c17 => ?_)
          refine wr_bipush rfl rfl (by decide) ?_
          refine wr_iconst rfl rfl ?_
          refine wr_iload_n rfl rfl rfl ?_
          refine wr_imul rfl rfl ?_
          refine wr_iadd rfl rfl ?_
          refine wr_iload_n rfl rfl rfl ?_
          refine wr_if_eq rfl rfl rfl (by omega) (fun c27 => ?_) (fun c27 => by exfalso; omega)
          refine wr_iconst rfl rfl ?_
          refine wr_iadd rfl rfl ?_
          rw [show 54 + 2 * (k : Int) + 1 = (g : Int) by rw [eg, if_neg (by omega)]; omega]
          exact J
        ·
          refine wr_iload_n rfl rfl rfl ?_
          refine wr_iconst rfl rfl ?_
          refine wr_iadd rfl rfl ?_
          refine wr_aload_n rfl rfl rfl ?_
          refine wr_get (ci := 12) (f := 37) rfl rfl rfl (by assumption) rfl ?_
          rw [e37]
          refine wr_icmp_ge rfl rfl rfl (by omega) (by omega) (fun c17 => by exfalso; omega) (fun c17 => ?_)
          refine wr_bipush rfl rfl (by decide) ?_
          refine wr_iconst rfl rfl ?_
          refine wr_iload_n rfl rfl rfl ?_
          refine wr_imul rfl rfl ?_
          refine wr_iadd rfl rfl ?_
          refine wr_iload_n rfl rfl rfl ?_
          refine wr_if_eq rfl rfl rfl (by omega) (fun c27 => by exfalso; omega) (fun c27 => ?_)
          refine wr_iconst rfl rfl ?_
          refine wr_goto rfl rfl ?_
          refine wr_iadd rfl rfl ?_
          rw [show 54 + 2 * (k : Int) + 0 = (g : Int) by rw [eg, if_pos x1]; omega]
          exact J
  have cO := w.cO
  refine am_c.of (Nat.le_of_ble_eq_true rfl) ?_
  show am_w _ _ _ (_, [_, _, _, _, _], _, _) _
  refine wr_aload_n rfl rfl rfl ?_
  refine wr_bipush rfl rfl (by decide) ?_
  refine wr_lconst (z := 0) rfl rfl rfl ?_
  refine wr_lconst (z := 1) rfl rfl rfl ?_
  refine wr_cv3 (k' := 140) (ci := 12) rfl rfl rfl rfl (by assumption) rfl rfl (fw_set (f := 94) (u := 0) (v := 1) w (by decide) (by decide) (by decide) (by decide)) (fun r h2 q => ?_)
  obtain ⟨rfl, w⟩ := q
  refine wr_iconst rfl rfl ?_
  refine wr_istore_n (ls' := [_, _, _, _, _]) rfl rfl (Nat.le_of_ble_eq_true rfl) rfl ?_
  exact L z.ks 0 _ _ _ (by omega) (Or.inr rfl) w (fun j hj => updR_n (by omega)) (by rw [updR_s, div1]; rfl)
theorem rr_keep {d : Nat} {m : Int} (C : RR h z) (V : VS z) (hm : -2147483648 ≤ m ∧ m ≤ 2147483647) : am_c X (d + 5) 204 [.ref 164, .int (iI m)] h (fun r h' => (keepOk z m ∧ r = some (.int (iI (z.ks + 1))) ∧ RR h' (keepP z m) ∧ frI [(164, 181)] h h') ∨ (¬ keepOk z m ∧ r = some (.int (iI (-1))) ∧ RR h' z ∧ frI [(164, 181)] h h')) := by
  have C0 := C
  obtain ⟨o, F, A, w, r⟩ := C
  obtain ⟨e37, KC, KF, kk, mm, la, vC, vF⟩ := r.k
  obtain ⟨e23, c0, cb, sc⟩ := r.c
  have ks := V.ksb
  have cn := V.cornB
  have wk := V.wkb
  have cO := w.cO
  have cA := w.arr (p := 181) (n := 20) (by decide) (by decide)
  refine am_c.of (Nat.le_of_ble_eq_true rfl) ?_
  show am_w _ _ _ (_, [_, _], _, _) _
  by_cases w1 : z.wk = 1
  · have c1 := cn.2.2.1 w1
    obtain ⟨-, -, cs, -, ⟨f52, f53⟩, u1, u2⟩ := sc w1
    by_cases m0 : m < 0
    ·
      refine wr_aload_n rfl rfl rfl ?_
      refine wr_get (ci := 12) (f := 23) rfl rfl rfl (by assumption) rfl ?_
      rw [e23]
      refine wr_if_eq rfl rfl rfl (by omega) (fun c4 => by exfalso; omega) (fun c4 => ?_)
      refine wr_iload_n rfl rfl rfl ?_
      refine wr_if_lt rfl rfl rfl (by omega) (fun c8 => ?_) (fun c8 => by exfalso; omega)
      refine wr_iconst rfl rfl ?_
      refine wr_iret rfl rfl ?_
      exact Or.inr ⟨fun q => by have := q.2.1; omega, rfl, C0, frI_rf _ _⟩
    by_cases m1 : 100000 < m
    ·
      refine wr_aload_n rfl rfl rfl ?_
      refine wr_get (ci := 12) (f := 23) rfl rfl rfl (by assumption) rfl ?_
      rw [e23]
      refine wr_if_eq rfl rfl rfl (by omega) (fun c4 => by exfalso; omega) (fun c4 => ?_)
      refine wr_iload_n rfl rfl rfl ?_
      refine wr_if_lt rfl rfl rfl (by omega) (fun c8 => by exfalso; omega) (fun c8 => ?_)
      refine wr_iload_n rfl rfl rfl ?_
      refine wr_ldc (z := 100000) rfl rfl rfl (by decide) ?_
      refine wr_icmp_gt rfl rfl rfl (by omega) (by omega) (fun c14 => ?_) (fun c14 => by exfalso; omega)
      refine wr_iconst rfl rfl ?_
      refine wr_iret rfl rfl ?_
      exact Or.inr ⟨fun q => by have := q.2.1; omega, rfl, C0, frI_rf _ _⟩
    by_cases k20 : z.ks = 20
    ·
      refine wr_aload_n rfl rfl rfl ?_
      refine wr_get (ci := 12) (f := 23) rfl rfl rfl (by assumption) rfl ?_
      rw [e23]
      refine wr_if_eq rfl rfl rfl (by omega) (fun c4 => by exfalso; omega) (fun c4 => ?_)
      refine wr_iload_n rfl rfl rfl ?_
      refine wr_if_lt rfl rfl rfl (by omega) (fun c8 => by exfalso; omega) (fun c8 => ?_)
      refine wr_iload_n rfl rfl rfl ?_
      refine wr_ldc (z := 100000) rfl rfl rfl (by decide) ?_
      refine wr_icmp_gt rfl rfl rfl (by omega) (by omega) (fun c14 => by exfalso; omega) (fun c14 => ?_)
      refine wr_aload_n rfl rfl rfl ?_
      refine wr_get (ci := 12) (f := 37) rfl rfl rfl (by assumption) rfl ?_
      rw [e37]
      refine wr_bipush rfl rfl (by decide) ?_
      refine wr_icmp_eq rfl rfl rfl (by omega) (by omega) (fun c23 => ?_) (fun c23 => by exfalso; omega)
      refine wr_iconst rfl rfl ?_
      refine wr_iret rfl rfl ?_
      exact Or.inr ⟨fun q => by have := q.2.2.2; omega, rfl, C0, frI_rf _ _⟩
    have J : (z.ks = 0 ∨ z.lm < m) → am_w X (d + 4) 204 (50, [.ref 164, .int (iI m)], [], h) (fun r h' => (keepOk z m ∧ r = some (.int (iI (z.ks + 1))) ∧ RR h' (keepP z m) ∧ frI [(164, 181)] h h') ∨ (¬ keepOk z m ∧ r = some (.int (iI (-1))) ∧ RR h' z ∧ frI [(164, 181)] h h')) := by
      intro lt
      have n1 := (u1.sz (by decide)).1
      have n2 := (u2.sz (by decide)).1
      have b1 := flo_in u1
      have b2 := flo_in u2
      refine wr_aload_n rfl rfl rfl ?_
      refine wr_bipush rfl rfl (by decide) ?_
      refine wr_bipush rfl rfl (by decide) ?_
      refine wr_iconst rfl rfl ?_
      refine wr_aload_n rfl rfl rfl ?_
      refine wr_get (ci := 12) (f := 37) rfl rfl rfl (by assumption) rfl ?_
      rw [e37]
      refine wr_imul rfl rfl ?_
      refine wr_iadd rfl rfl ?_
      rw [show 54 + 2 * (z.ks : Int) = ((54 + 2 * z.ks : Nat) : Int) by omega]
      refine wr_cv2 (k' := 205) (ci := 12) rfl rfl rfl rfl (by assumption) rfl rfl (fw_whole (f := 52) (g := 54 + 2 * z.ks) w (by decide) (by omega) (by rw [f52]; exact Int.lt_of_lt_of_le n1 (bp_mono (by decide)))) (fun r h2 q => ?_)
      obtain ⟨rfl, w⟩ := q
      rw [f52] at w
      have cO := w.cO
      refine wr_aload_n rfl rfl rfl ?_
      refine wr_bipush rfl rfl (by decide) ?_
      refine wr_bipush rfl rfl (by decide) ?_
      refine wr_iconst rfl rfl ?_
      refine wr_aload_n rfl rfl rfl ?_
      refine wr_get (ci := 12) (f := 37) rfl rfl rfl (by assumption) rfl ?_
      rw [e37]
      refine wr_imul rfl rfl ?_
      refine wr_iadd rfl rfl ?_
      rw [show 54 + 2 * (z.ks : Int) = ((54 + 2 * z.ks : Nat) : Int) by omega]
      refine wr_iconst rfl rfl ?_
      refine wr_iadd rfl rfl ?_
      rw [show ((54 + 2 * z.ks : Nat) : Int) + 1 = ((55 + 2 * z.ks : Nat) : Int) by omega]
      refine wr_cv2 (k' := 205) (ci := 12) rfl rfl rfl rfl (by assumption) rfl rfl (fw_whole (f := 53) (g := 55 + 2 * z.ks) w (by decide) (by omega) (by rw [updR_n (by omega), f53]; exact Int.lt_of_lt_of_le n2 (bp_mono (by decide)))) (fun r h2 q => ?_)
      obtain ⟨rfl, w⟩ := q
      rw [updR_n (show 53 ≠ 54 + 2 * z.ks by omega), f53] at w
      have cO := w.cO
      have cA := w.arr (p := 181) (n := 20) (by decide) (by decide)
      refine wr_aload_n rfl rfl rfl ?_
      refine wr_get (ci := 12) (f := 38) rfl rfl rfl (by assumption) rfl ?_
      refine wr_aload_n rfl rfl rfl ?_
      refine wr_get (ci := 12) (f := 37) rfl rfl rfl (by assumption) rfl ?_
      rw [e37]
      refine wr_iload_n rfl rfl rfl ?_
      refine wr_iast rfl rfl (by assumption) (by omega) (by omega) (fun h1 e1 => ?_)
      rw [Int.toNat_natCast] at e1
      have w := e1 ▸ (w.setA (p := 181) (n := 20) (by decide) (by decide) (updI (A 181) z.ks m)).2
      clear e1
      obtain ⟨A2, w, sA, nA⟩ := fa_ex w
      have cO := w.cO
      refine wr_aload_n rfl rfl rfl ?_
      refine wr_dup rfl rfl ?_
      refine wr_get (ci := 12) (f := 37) rfl rfl rfl (by assumption) rfl ?_
      rw [e37]
      refine wr_iconst rfl rfl ?_
      refine wr_iadd rfl rfl ?_
      refine wr_putI (ci := 12) (f := 37) (fs' := [_, _, _, _, _, _, _, _, _, _, _, _, _, _, _, _, _, _, _, _, _, _, _, _, _, _, _, _, _, _, _, _, _, _, _, _, _, _, _]) rfl rfl rfl (by assumption) rfl rfl rfl (fun h1 e1 => ?_)
      have w : FW h h1 (updI o 37 ((z.ks : Int) + 1)) (updR (updR F (54 + 2 * z.ks) ((flo (areaC z) : Int) : Rat)) (55 + 2 * z.ks) ((flo (areaF z) : Int) : Rat)) A2 := by rw [e1]; exact w.setO (updI o 37 ((z.ks : Int) + 1))
      clear e1
      obtain ⟨o2, w, s2, n2⟩ := fo_ex w
      have cO := w.cO
      refine wr_aload_n rfl rfl rfl ?_
      refine wr_get (ci := 12) (f := 37) rfl rfl rfl (by assumption) rfl ?_
      rw [s2]
      refine wr_iret rfl rfl ?_
      obtain ⟨wb, fb⟩ := w.base
      refine Or.inl ⟨⟨w1, by omega, lt, by omega⟩, rfl, ⟨o2, _, A2, wb, r.t.keep (n2 _ (by decide)) (nA _ (by decide)), r.m.keep (n2 _ (by decide)) ⟨nA _ (by decide), nA _ (by decide), nA _ (by decide), nA _ (by decide), nA _ (by decide)⟩, r.g.keep (n2 _ (by decide)) ⟨nA _ (by decide), nA _ (by decide)⟩, r.x.keep ⟨n2 _ (by decide), n2 _ (by decide)⟩ (nA _ (by decide)), ?_, ?_⟩, fb⟩
      · exact (r.c.keep ⟨n2 _ (by decide), n2 _ (by decide), n2 _ (by decide)⟩ ⟨nA _ (by decide), nA _ (by decide), nA _ (by decide)⟩ (fun k hk => by rw [updR_n (by omega), updR_n (by omega)])).cong ⟨⟨rfl, rfl, rfl, rfl, rfl, rfl⟩, rfl, rfl, rfl, rfl, rfl, rfl⟩
      · show RK (z.ks + 1) m (flo (areaC z)) (flo (areaF z)) (z.vC + (z.cC + flo (areaC z)) * (500 * (if z.ks = 0 then 0 else m - z.lm))) (z.vF + (z.cF + flo (areaF z)) * (500 * (if z.ks = 0 then 0 else m - z.lm))) _ _ _
        have vol : ∀ (K : Nat → Int) (x c v : Int), v = volS (A 181) K z.ks → (0 < z.ks → K (z.ks - 1) = c) → v + (c + x) * (500 * (if z.ks = 0 then 0 else m - z.lm)) = volS (updI (A 181) z.ks m) (updI K z.ks x) (z.ks + 1) := by
          intro K x c v hv hc
          by_cases k0 : z.ks = 0
          · rw [if_pos k0, hv, k0]
            show (0 : Int) + (c + x) * (500 * 0) = 0
            omega
          · obtain ⟨j, ej⟩ : ∃ j, z.ks = j + 1 := ⟨z.ks - 1, by omega⟩
            have l1 := (la (by omega)).1
            have l2 := hc (by omega)
            rw [if_neg k0, hv, ej, volS, volS_congr (m := A 181) (K := K) (j + 1) (fun k hk => ⟨updI_n (by omega), updI_n (by omega)⟩), updI_s, updI_s, updI_n (by omega), updI_n (by omega)]
            rw [ej, Nat.add_sub_cancel] at l1 l2
            rw [l1, l2]
        refine ⟨by rw [s2]; rfl, updI KC z.ks (flo (areaC z)), updI KF z.ks (flo (areaF z)), fun k hk => ?_, fun k hk => ?_, fun _ => ?_, ?_, ?_⟩
        · rw [sA]
          by_cases e : k = z.ks
          · subst e
            rw [updI_s, updI_s, updI_s]
            exact ⟨by omega, ⟨b1.1, b1.2.1⟩, ⟨b2.1, b2.2.1⟩, by rw [updR_n (by omega), updR_s], updR_s _ _ _⟩
          · rw [updI_n e, updI_n e, updI_n e, updR_n (by omega), updR_n (by omega), updR_n (by omega), updR_n (by omega)]
            exact kk k (by omega)
        · rw [sA]
          by_cases e : k + 1 = z.ks
          · rw [← e, updI_s, updI_n (by omega)]
            have l1 := (la (by omega)).1
            rw [← e, Nat.add_sub_cancel] at l1
            rw [l1]
            omega
          · rw [updI_n (by omega), updI_n e]
            exact mm k (by omega)
        · rw [sA, Nat.add_sub_cancel, updI_s, updI_s, updI_s]
          exact ⟨rfl, rfl, rfl⟩
        · rw [sA]
          exact vol KC _ _ _ vC (fun q => (la q).2.1)
        · rw [sA]
          exact vol KF _ _ _ vF (fun q => (la q).2.2)
    by_cases k0 : z.ks = 0
    ·
      refine wr_aload_n rfl rfl rfl ?_
      refine wr_get (ci := 12) (f := 23) rfl rfl rfl (by assumption) rfl ?_
      rw [e23]
      refine wr_if_eq rfl rfl rfl (by omega) (fun c4 => by exfalso; omega) (fun c4 => ?_)
      refine wr_iload_n rfl rfl rfl ?_
      refine wr_if_lt rfl rfl rfl (by omega) (fun c8 => by exfalso; omega) (fun c8 => ?_)
      refine wr_iload_n rfl rfl rfl ?_
      refine wr_ldc (z := 100000) rfl rfl rfl (by decide) ?_
      refine wr_icmp_gt rfl rfl rfl (by omega) (by omega) (fun c14 => by exfalso; omega) (fun c14 => ?_)
      refine wr_aload_n rfl rfl rfl ?_
      refine wr_get (ci := 12) (f := 37) rfl rfl rfl (by assumption) rfl ?_
      rw [e37]
      refine wr_bipush rfl rfl (by decide) ?_
      refine wr_icmp_eq rfl rfl rfl (by omega) (by omega) (fun c23 => by exfalso; omega) (fun c23 => ?_)
      refine wr_aload_n rfl rfl rfl ?_
      refine wr_get (ci := 12) (f := 37) rfl rfl rfl (by assumption) rfl ?_
      rw [e37]
      refine wr_if_le rfl rfl rfl (by omega) (fun c30 => ?_) (fun c30 => by exfalso; omega)
      exact J (Or.inl k0)
    · have l1 := (la (by omega)).1
      have ml := (kk (z.ks - 1) (by omega)).1
      rw [l1] at ml
      by_cases lt : z.lm < m
      ·
        refine wr_aload_n rfl rfl rfl ?_
        refine wr_get (ci := 12) (f := 23) rfl rfl rfl (by assumption) rfl ?_
        rw [e23]
        refine wr_if_eq rfl rfl rfl (by omega) (fun c4 => by exfalso; omega) (fun c4 => ?_)
        refine wr_iload_n rfl rfl rfl ?_
        refine wr_if_lt rfl rfl rfl (by omega) (fun c8 => by exfalso; omega) (fun c8 => ?_)
        refine wr_iload_n rfl rfl rfl ?_
        refine wr_ldc (z := 100000) rfl rfl rfl (by decide) ?_
        refine wr_icmp_gt rfl rfl rfl (by omega) (by omega) (fun c14 => by exfalso; omega) (fun c14 => ?_)
        refine wr_aload_n rfl rfl rfl ?_
        refine wr_get (ci := 12) (f := 37) rfl rfl rfl (by assumption) rfl ?_
        rw [e37]
        refine wr_bipush rfl rfl (by decide) ?_
        refine wr_icmp_eq rfl rfl rfl (by omega) (by omega) (fun c23 => by exfalso; omega) (fun c23 => ?_)
        refine wr_aload_n rfl rfl rfl ?_
        refine wr_get (ci := 12) (f := 37) rfl rfl rfl (by assumption) rfl ?_
        rw [e37]
        refine wr_if_le rfl rfl rfl (by omega) (fun c30 => by exfalso; omega) (fun c30 => ?_)
        refine wr_iload_n rfl rfl rfl ?_
        refine wr_aload_n rfl rfl rfl ?_
        refine wr_get (ci := 12) (f := 38) rfl rfl rfl (by assumption) rfl ?_
        refine wr_aload_n rfl rfl rfl ?_
        refine wr_get (ci := 12) (f := 37) rfl rfl rfl (by assumption) rfl ?_
        rw [e37]
        refine wr_iconst rfl rfl ?_
        refine wr_isub rfl rfl ?_
        rw [show (z.ks : Int) - 1 = ((z.ks - 1 : Nat) : Int) by omega]
        refine wr_iald rfl rfl (by assumption) (by omega) (by omega) ?_
        rw [Int.toNat_natCast, l1]
        refine wr_icmp_gt rfl rfl rfl (by omega) (by omega) (fun c45 => ?_) (fun c45 => by exfalso; omega)
        exact J (Or.inr lt)
      ·
        refine wr_aload_n rfl rfl rfl ?_
        refine wr_get (ci := 12) (f := 23) rfl rfl rfl (by assumption) rfl ?_
        rw [e23]
        refine wr_if_eq rfl rfl rfl (by omega) (fun c4 => by exfalso; omega) (fun c4 => ?_)
        refine wr_iload_n rfl rfl rfl ?_
        refine wr_if_lt rfl rfl rfl (by omega) (fun c8 => by exfalso; omega) (fun c8 => ?_)
        refine wr_iload_n rfl rfl rfl ?_
        refine wr_ldc (z := 100000) rfl rfl rfl (by decide) ?_
        refine wr_icmp_gt rfl rfl rfl (by omega) (by omega) (fun c14 => by exfalso; omega) (fun c14 => ?_)
        refine wr_aload_n rfl rfl rfl ?_
        refine wr_get (ci := 12) (f := 37) rfl rfl rfl (by assumption) rfl ?_
        rw [e37]
        refine wr_bipush rfl rfl (by decide) ?_
        refine wr_icmp_eq rfl rfl rfl (by omega) (by omega) (fun c23 => by exfalso; omega) (fun c23 => ?_)
        refine wr_aload_n rfl rfl rfl ?_
        refine wr_get (ci := 12) (f := 37) rfl rfl rfl (by assumption) rfl ?_
        rw [e37]
        refine wr_if_le rfl rfl rfl (by omega) (fun c30 => by exfalso; omega) (fun c30 => ?_)
        refine wr_iload_n rfl rfl rfl ?_
        refine wr_aload_n rfl rfl rfl ?_
        refine wr_get (ci := 12) (f := 38) rfl rfl rfl (by assumption) rfl ?_
        refine wr_aload_n rfl rfl rfl ?_
        refine wr_get (ci := 12) (f := 37) rfl rfl rfl (by assumption) rfl ?_
        rw [e37]
        refine wr_iconst rfl rfl ?_
        refine wr_isub rfl rfl ?_
        rw [show (z.ks : Int) - 1 = ((z.ks - 1 : Nat) : Int) by omega]
        refine wr_iald rfl rfl (by assumption) (by omega) (by omega) ?_
        rw [Int.toNat_natCast, l1]
        refine wr_icmp_gt rfl rfl rfl (by omega) (by omega) (fun c45 => by exfalso; omega) (fun c45 => ?_)
        refine wr_iconst rfl rfl ?_
        refine wr_iret rfl rfl ?_
        exact Or.inr ⟨fun q => by have := q.2.2.1; omega, rfl, C0, frI_rf _ _⟩
  ·
    have := cn.2.2.2 (by omega)
    refine wr_aload_n rfl rfl rfl ?_
    refine wr_get (ci := 12) (f := 23) rfl rfl rfl (by assumption) rfl ?_
    rw [e23]
    refine wr_if_eq rfl rfl rfl (by omega) (fun c4 => ?_) (fun c4 => by exfalso; omega)
    refine wr_iconst rfl rfl ?_
    refine wr_iret rfl rfl ?_
    exact Or.inr ⟨fun q => w1 q.1, rfl, C0, frI_rf _ _⟩
end RRD
