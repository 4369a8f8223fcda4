/-! THE CLASS'S ARITHMETIC: commonOf, divide -/
abbrev cAr : Nat := 4
/-- the arithmetic at cell s: its eleven numbers stand behind it, each with its limbs -/
def arCell (s : Nat) : va_E := .inr (cAr, [.ref (s + 1), .ref (s + 3), .ref (s + 5), .ref (s + 7), .ref (s + 9), .ref (s + 11), .ref (s + 13), .ref (s + 15), .ref (s + 17), .ref (s + 19), .ref (s + 21)])
section ARA
variable {X : Nat × (Nat → Int32)}
theorem wp_common_loop {d : Nat} {a b : Int} {h : am_H} {Q : Option Value → am_H → Prop} :
    ∀ (m G L n : Nat), L < 2 ^ m → m ≤ 63 → n + 2 * m ≤ 900000 → (G : Int) ≤ 9223372036854775807 → Q (some (.long (lI (Nat.gcd G L)))) h → am_w X d 80 (9, [.long (lI a), am_U, .long (lI b), am_U, .long (lI G), am_U, .long (lI L), am_U, .int (iI n), am_U, am_U], [], h) Q := by
  intro m
  induction m with
  | zero =>
    intro G L n hL hm hn hG K
    obtain rfl : L = 0 := by
      have : (2 : Nat) ^ 0 = 1 := rfl
      omega
    rw [Nat.gcd_zero_right] at K
    refine wr_iload rfl rfl rfl ?_
    refine wr_ldc (z := 1000000) rfl rfl rfl (by decide) ?_
    refine wr_icmp_ge rfl rfl rfl (by omega) (by omega) (fun c13 => ?_) (fun c13 => ?_)
    · exfalso; omega
    ·
      refine wr_lload rfl rfl rfl ?_
      refine wr_lconst (z := 0) rfl rfl rfl ?_
      refine wr_l_le rfl rfl rfl rfl rfl (by omega) (by omega) (fun c19 => ?_) (fun c19 => ?_)
      ·
        refine wr_lload rfl rfl rfl ?_
        refine wr_lret rfl rfl ?_
        exact K
      · exfalso; omega
  | succ m ih =>
    intro G L n hL hm hn hG K
    have hp : 2 ^ (m + 1) = 2 * 2 ^ m := by rw [Nat.pow_succ]; omega
    have hp2 : 2 ^ m ≤ 2 ^ 62 := Nat.pow_le_pow_right (by omega) (by omega)
    have hp3 : (2 : Nat) ^ 62 = 4611686018427387904 := by decide
    have done : ∀ (G L n : Nat), L = 0 → n ≤ 900000 → (G : Int) ≤ 9223372036854775807 → Q (some (.long (lI (Nat.gcd G L)))) h → am_w X d 80 (9, [.long (lI a), am_U, .long (lI b), am_U, .long (lI G), am_U, .long (lI L), am_U, .int (iI n), am_U, am_U], [], h) Q := by
      intro G L n hL0 hn hG K
      subst hL0
      rw [Nat.gcd_zero_right] at K
      refine wr_iload rfl rfl rfl ?_
      refine wr_ldc (z := 1000000) rfl rfl rfl (by decide) ?_
      refine wr_icmp_ge rfl rfl rfl (by omega) (by omega) (fun c13 => ?_) (fun c13 => ?_)
      · exfalso; omega
      ·
        refine wr_lload rfl rfl rfl ?_
        refine wr_lconst (z := 0) rfl rfl rfl ?_
        refine wr_l_le rfl rfl rfl rfl rfl (by omega) (by omega) (fun c19 => ?_) (fun c19 => ?_)
        ·
          refine wr_lload rfl rfl rfl ?_
          refine wr_lret rfl rfl ?_
          exact K
        · exfalso; omega
    by_cases h0 : L = 0
    · exact done G L n h0 (by omega) hG K
    · have hr := Nat.mod_lt G (show L > 0 by omega)
      have e1 : Nat.gcd G L = Nat.gcd L (G % L) := by rw [Nat.gcd_comm, Nat.gcd_rec, Nat.gcd_comm]
      rw [e1] at K
      refine wr_iload rfl rfl rfl ?_
      refine wr_ldc (z := 1000000) rfl rfl rfl (by decide) ?_
      refine wr_icmp_ge rfl rfl rfl (by omega) (by omega) (fun c13 => ?_) (fun c13 => ?_)
      · exfalso; omega
      ·
        refine wr_lload rfl rfl rfl ?_
        refine wr_lconst (z := 0) rfl rfl rfl ?_
        refine wr_l_le rfl rfl rfl rfl rfl (by omega) (by omega) (fun c19 => ?_) (fun c19 => ?_)
        · exfalso; omega
        ·
          refine wr_lload rfl rfl rfl ?_
          refine wr_lload rfl rfl rfl ?_
          refine wr_lremN rfl rfl (by omega) (by omega) (by omega) (by omega) ?_
          refine wr_lstore (ls' := [_, _, _, _, _, _, _, _, _, _, _]) rfl rfl (Nat.le_of_ble_eq_true rfl) rfl ?_
          refine wr_lload rfl rfl rfl ?_
          refine wr_lstore (ls' := [_, _, _, _, _, _, _, _, _, _, _]) rfl rfl (Nat.le_of_ble_eq_true rfl) rfl ?_
          refine wr_lload rfl rfl rfl ?_
          refine wr_lstore (ls' := [_, _, _, _, _, _, _, _, _, _, _]) rfl rfl (Nat.le_of_ble_eq_true rfl) rfl ?_
          refine wr_iinc (ls' := [_, _, _, _, _, _, _, _, _, _, _]) rfl rfl rfl rfl ?_
          refine wr_goto rfl rfl ?_
          refine am_w.wk (ls' := [_, _, _, _, _, _, _, _, _, am_U, _]) ⟨Or.inr rfl, Or.inr rfl, Or.inr rfl, Or.inr rfl, Or.inr rfl, Or.inr rfl, Or.inr rfl, Or.inr rfl, Or.inr rfl, Or.inl rfl, Or.inr rfl, trivial⟩ ?_
          rw [show (G : Int) % L = ((G % L : Nat) : Int) by omega, show (n : Int) + 1 = ((n + 1 : Nat) : Int) by omega]
          by_cases h1 : G % L = 0
          · exact done L (G % L) (n + 1) h1 (by omega) (by omega) K
          · have hr2 := Nat.mod_lt L (show G % L > 0 by omega)
            have e2 : Nat.gcd L (G % L) = Nat.gcd (G % L) (L % (G % L)) := by rw [Nat.gcd_comm, Nat.gcd_rec, Nat.gcd_comm]
            rw [e2] at K
            have hh : 2 * (L % (G % L)) < L := by
              have y1 := Nat.div_add_mod L (G % L)
              have y2 : 1 ≤ L / (G % L) := (Nat.le_div_iff_mul_le (by omega)).mpr (by omega)
              have y3 : (G % L) * 1 ≤ (G % L) * (L / (G % L)) := Nat.mul_le_mul_left _ y2
              omega
            refine wr_iload rfl rfl rfl ?_
            refine wr_ldc (z := 1000000) rfl rfl rfl (by decide) ?_
            refine wr_icmp_ge rfl rfl rfl (by omega) (by omega) (fun c13 => ?_) (fun c13 => ?_)
            · exfalso; omega
            ·
              refine wr_lload rfl rfl rfl ?_
              refine wr_lconst (z := 0) rfl rfl rfl ?_
              refine wr_l_le rfl rfl rfl rfl rfl (by omega) (by omega) (fun c19 => ?_) (fun c19 => ?_)
              · exfalso; omega
              ·
                refine wr_lload rfl rfl rfl ?_
                refine wr_lload rfl rfl rfl ?_
                refine wr_lremN rfl rfl (by omega) (by omega) (by omega) (by omega) ?_
                refine wr_lstore (ls' := [_, _, _, _, _, _, _, _, _, _, _]) rfl rfl (Nat.le_of_ble_eq_true rfl) rfl ?_
                refine wr_lload rfl rfl rfl ?_
                refine wr_lstore (ls' := [_, _, _, _, _, _, _, _, _, _, _]) rfl rfl (Nat.le_of_ble_eq_true rfl) rfl ?_
                refine wr_lload rfl rfl rfl ?_
                refine wr_lstore (ls' := [_, _, _, _, _, _, _, _, _, _, _]) rfl rfl (Nat.le_of_ble_eq_true rfl) rfl ?_
                refine wr_iinc (ls' := [_, _, _, _, _, _, _, _, _, _, _]) rfl rfl rfl rfl ?_
                refine wr_goto rfl rfl ?_
                refine am_w.wk (ls' := [_, _, _, _, _, _, _, _, _, am_U, _]) ⟨Or.inr rfl, Or.inr rfl, Or.inr rfl, Or.inr rfl, Or.inr rfl, Or.inr rfl, Or.inr rfl, Or.inr rfl, Or.inr rfl, Or.inl rfl, Or.inr rfl, trivial⟩ ?_
                rw [show (L : Int) % ((G % L : Nat) : Int) = ((L % (G % L) : Nat) : Int) from rfl, show ((n + 1 : Nat) : Int) + 1 = ((n + 2 : Nat) : Int) by omega]
                exact ih (G % L) (L % (G % L)) (n + 2) (by omega) (by omega) (by omega) (by omega) K
theorem wp_commonOf {d G L : Nat} {h : am_H} (hG : (G : Int) ≤ 9223372036854775807) (hL : (L : Int) ≤ 9223372036854775807) :
    am_c X (d + 1) 80 [.long (lI G), .long (lI L)] h (fun r h' => r = some (.long (lI (Nat.gcd G L))) ∧ h' = h) := by
  refine am_c.of (Nat.le_of_ble_eq_true rfl) ?_
  show am_w _ _ _ (_, [_, _, _, _, _, _, _, _, _, _, _], _, _) _
  refine wr_lload_n rfl rfl rfl ?_
  refine wr_lstore (ls' := [_, _, _, _, _, _, _, _, _, _, _]) rfl rfl (Nat.le_of_ble_eq_true rfl) rfl ?_
  refine wr_lload_n rfl rfl rfl ?_
  refine wr_lstore (ls' := [_, _, _, _, _, _, _, _, _, _, _]) rfl rfl (Nat.le_of_ble_eq_true rfl) rfl ?_
  refine wr_iconst rfl rfl ?_
  refine wr_istore (ls' := [_, _, _, _, _, _, _, _, _, _, _]) rfl rfl (Nat.le_of_ble_eq_true rfl) rfl ?_
  refine wp_common_loop 63 G L 0 ?_ (by omega) (by omega) hG ⟨rfl, rfl⟩
  have : (2 : Nat) ^ 63 = 9223372036854775808 := by decide
  omega
/-- how many takings are still to come, at most -/
def bnd : Nat → Int
  | 0 => 1
  | 1 => 3
  | k + 2 => 2 * 3 ^ k + 3
theorem bnd_step {k : Nat} {R τ E : Int} (hE : 0 < E) (hR : 2 * R < bnd (k + 1) * E) (h1 : 0 < τ) (h2 : 2 * R < 3 * (τ + 1) * E) : 2 * (R - τ * E) < bnd k * E := by
  have y1 : 1 * E ≤ τ * E := Int.mul_le_mul_of_nonneg_right (by omega) (by omega)
  match k with
  | 0 =>
    have e1 : bnd (0 + 1) = 3 := rfl
    have e2 : bnd 0 = 1 := rfl
    rw [e1] at hR
    rw [e2]
    omega
  | 1 =>
    have e1 : bnd (1 + 1) = 5 := rfl
    have e2 : bnd 1 = 3 := rfl
    rw [e1] at hR
    rw [e2]
    omega
  | k + 2 =>
    have e1 : bnd (k + 2 + 1) = 2 * (3 ^ k * 3) + 3 := rfl
    have e2 : bnd (k + 2) = 2 * 3 ^ k + 3 := rfl
    rw [e1] at hR
    rw [e2]
    have e3 : 3 * (τ + 1) * E = 3 * (τ * E) + 3 * E := by grind
    have e4 : (2 * (3 ^ k * 3) + 3) * E = 6 * (3 ^ k * E) + 3 * E := by grind
    have e5 : (2 * 3 ^ k + 3) * E = 2 * (3 ^ k * E) + 3 * E := by grind
    omega
/-- one limb of the quotient -/
theorem wp_div_inner {d s tq ta tb nd i : Nat} {h0 : am_H} {f pl R0 : Int} {gd : Nat → Int} {Q : Option Value → am_H → Prop} (hs : h0[s]? = some (arCell s)) (hd1 : h0[s + 17]? = some (.inr (cWh, [.ref (s + 18), .int (iI nd)]))) (hd2 : h0[s + 18]? = some (am_la 128 gd)) (hnd : nd ≤ 128) (kd : nok gd nd) (n0 : 0 < nd) (hdt : 2 ≤ gd (nd - 1)) (hi : i ≤ 1000) (hR0 : R0 < nv gd nd * 1000000000 ^ (i + 1))
    (K : ∀ (h1 : am_H) (R dg : Int), fr [s + 15, s + 16] h0 h1 → isW h1 (s + 15) (s + 16) 128 R → R + dg * (nv gd nd * 1000000000 ^ i) = R0 → 0 ≤ R → R < nv gd nd * 1000000000 ^ i → 0 ≤ dg → dg < 1000000000 → am_w X (d + 1) 89 (138, [.ref s, .ref tq, .ref ta, .ref tb, .long (lI f), am_U, .int (iI pl), .int (iI i), .long (lI dg), am_U, am_U, am_U, am_U], [], h1) Q) :
    ∀ (k n : Nat) (h1 : am_H) (R dg τ : Int), fr [s + 15, s + 16] h0 h1 → isW h1 (s + 15) (s + 16) 128 R → R + dg * (nv gd nd * 1000000000 ^ i) = R0 → 0 ≤ dg → 0 ≤ τ → τ < 1000000000 → τ * nv gd nd * 1000000000 ^ i ≤ R → (τ = 0 → R < nv gd nd * 1000000000 ^ i) → (0 < τ → 2 * R < 3 * (τ + 1) * (nv gd nd * 1000000000 ^ i)) → 2 * R < bnd k * (nv gd nd * 1000000000 ^ i) → n + k ≤ 900000 → am_w X (d + 1) 89 (81, [.ref s, .ref tq, .ref ta, .ref tb, .long (lI f), am_U, .int (iI pl), .int (iI i), .long (lI dg), am_U, .long (lI τ), am_U, .int (iI n)], [], h1) Q := by
  have dB := nv_low kd n0
  have d0 : 0 < nv gd nd := by have := bp_pos (nd - 1); omega
  have hE : 0 < nv gd nd * 1000000000 ^ i := Int.mul_pos d0 (bp_pos i)
  have dgB : ∀ R dg : Int, 0 ≤ R → R + dg * (nv gd nd * 1000000000 ^ i) = R0 → dg < 1000000000 := by
    intro R dg hR he
    rcases Int.lt_or_le dg 1000000000 with q | q
    · exact q
    · have y1 : 1000000000 * (nv gd nd * 1000000000 ^ i) ≤ dg * (nv gd nd * 1000000000 ^ i) := Int.mul_le_mul_of_nonneg_right q (by omega)
      rw [Int.pow_succ] at hR0
      have e1 : nv gd nd * (1000000000 ^ i * 1000000000) = 1000000000 * (nv gd nd * 1000000000 ^ i) := by grind
      omega
  intro k
  induction k with
  | zero =>
    intro n h1 R dg τ hf hW he hdg ht0 ht1 ht2 ht3 ht4 hb hn
    have hR := hW.ex
    have e0 : τ = 0 := by
      rcases Int.lt_or_le 0 τ with q | q
      · have y1 : 1 * (nv gd nd * 1000000000 ^ i) ≤ τ * (nv gd nd * 1000000000 ^ i) := Int.mul_le_mul_of_nonneg_right (by omega) (by omega)
        rw [Int.mul_assoc] at ht2
        have e1 : bnd 0 = 1 := rfl
        rw [e1] at hb
        omega
      · omega
    have b1 := dgB R dg hR he
    refine wr_iload rfl rfl rfl ?_
    refine wr_ldc (z := 1000000) rfl rfl rfl (by decide) ?_
    refine wr_icmp_ge rfl rfl rfl (by omega) (by omega) (fun c85 => ?_) (fun c85 => ?_)
    · exfalso; omega
    ·
      refine wr_lload rfl rfl rfl ?_
      refine wr_lconst (z := 0) rfl rfl rfl ?_
      refine wr_l_le rfl rfl rfl rfl rfl (by omega) (by omega) (fun c91 => ?_) (fun c91 => ?_)
      ·
        refine am_w.wk (ls' := [_, _, _, _, _, _, _, _, _, _, am_U, _, am_U]) ⟨Or.inr rfl, Or.inr rfl, Or.inr rfl, Or.inr rfl, Or.inr rfl, Or.inr rfl, Or.inr rfl, Or.inr rfl, Or.inr rfl, Or.inr rfl, Or.inl rfl, Or.inr rfl, Or.inl rfl, trivial⟩ ?_
        exact K h1 R dg hf hW he hR (ht3 e0) hdg b1
      · exfalso; omega
  | succ k ih =>
    intro n h1 R dg τ hf hW he hdg ht0 ht1 ht2 ht3 ht4 hb hn
    have hR := hW.ex
    have b1 := dgB R dg hR he
    refine wr_iload rfl rfl rfl ?_
    refine wr_ldc (z := 1000000) rfl rfl rfl (by decide) ?_
    refine wr_icmp_ge rfl rfl rfl (by omega) (by omega) (fun c85 => ?_) (fun c85 => ?_)
    · exfalso; omega
    ·
      refine wr_lload rfl rfl rfl ?_
      refine wr_lconst (z := 0) rfl rfl rfl ?_
      refine wr_l_le rfl rfl rfl rfl rfl (by omega) (by omega) (fun c91 => ?_) (fun c91 => ?_)
      ·
        refine am_w.wk (ls' := [_, _, _, _, _, _, _, _, _, _, am_U, _, am_U]) ⟨Or.inr rfl, Or.inr rfl, Or.inr rfl, Or.inr rfl, Or.inr rfl, Or.inr rfl, Or.inr rfl, Or.inr rfl, Or.inr rfl, Or.inr rfl, Or.inl rfl, Or.inr rfl, Or.inl rfl, trivial⟩ ?_
        exact K h1 R dg hf hW he hR (ht3 (by omega)) hdg b1
      ·
        have c_s : h1[s]? = some (arCell s) := by rw [hf.2 s (by simp)]; exact hs
        unfold arCell at c_s
        have c_d1 : h1[s + 17]? = some (.inr (cWh, [.ref (s + 18), .int (iI nd)])) := by rw [hf.2 (s + 17) (by simp)]; exact hd1
        have c_d2 : h1[s + 18]? = some (am_la 128 gd) := by rw [hf.2 (s + 18) (by simp)]; exact hd2
        obtain ⟨gr, nr, c_r, c_rl, z1, z2, z3⟩ := id hW
        have hDW : isW h1 (s + 17) (s + 18) 128 (nv gd nd) := ⟨gd, nd, c_d1, c_d2, hnd, kd, rfl⟩
        refine wr_aload_n rfl rfl rfl ?_
        refine wr_get (ci := 4) (f := 7) rfl rfl rfl (by assumption) rfl ?_
        refine wr_aload_n rfl rfl rfl ?_
        refine wr_get (ci := 4) (f := 8) rfl rfl rfl (by assumption) rfl ?_
        refine wr_lload rfl rfl rfl ?_
        refine wr_iload rfl rfl rfl ?_
        refine wr_cv3 (k' := 94) (ci := 5) rfl rfl rfl rfl (by assumption) rfl rfl (wp_takeAway (sh := i) hW hDW (by omega) (by omega) (by omega) (by omega) d0 ht2 (by omega)) (fun r h2 q => ?_)
        obtain ⟨rfl, hW2, f2⟩ := q
        dsimp only [Option.toList, List.nil_append]
        have f3 : fr [s + 15, s + 16] h0 h2 := fr_tr hf f2 (fun i hi => hi) (fun i hi => hi)
        have e_s : h2[s]? = some (arCell s) := by rw [f3.2 s (by simp)]; exact hs
        unfold arCell at e_s
        have e_d1 : h2[s + 17]? = some (.inr (cWh, [.ref (s + 18), .int (iI nd)])) := by rw [f3.2 (s + 17) (by simp)]; exact hd1
        have e_d2 : h2[s + 18]? = some (am_la 128 gd) := by rw [f3.2 (s + 18) (by simp)]; exact hd2
        obtain ⟨gr2, nr2, e_r, e_rl, y1, y2, y3⟩ := id hW2
        have hR2 := hW2.ex
        have eA : τ * nv gd nd * 1000000000 ^ i = τ * (nv gd nd * 1000000000 ^ i) := Int.mul_assoc _ _ _
        have he2 : (R - τ * nv gd nd * 1000000000 ^ i) + (dg + τ) * (nv gd nd * 1000000000 ^ i) = R0 := by
          rw [eA, Int.add_mul]
          omega
        have b2 := dgB _ _ hR2 he2
        have y0 : 0 ≤ τ * (nv gd nd * 1000000000 ^ i) := Int.mul_nonneg ht0 (by omega)
        have yd : 0 ≤ dg * (nv gd nd * 1000000000 ^ i) := Int.mul_nonneg hdg (by omega)
        refine wr_lload rfl rfl rfl ?_
        refine wr_lload rfl rfl rfl ?_
        refine wr_ladd rfl rfl ?_
        refine wr_lstore (ls' := [_, _, _, _, _, _, _, _, _, _, _, _, _]) rfl rfl (Nat.le_of_ble_eq_true rfl) rfl ?_
        refine wr_aload_n rfl rfl rfl ?_
        refine wr_get (ci := 4) (f := 7) rfl rfl rfl (by assumption) rfl ?_
        refine wr_aload_n rfl rfl rfl ?_
        refine wr_get (ci := 4) (f := 8) rfl rfl rfl (by assumption) rfl ?_
        refine wr_iload rfl rfl rfl ?_
        refine wr_cv2 (k' := 93) (ci := 5) rfl rfl rfl rfl (by assumption) rfl rfl (wp_timesAt (sh := i) hW2 e_d1 e_d2 (by omega) (by omega) hnd kd n0 hdt (by omega) (by omega)) (fun r h3 q => ?_)
        obtain ⟨τ', rfl, rfl, t0, t1, t2, t3, t4⟩ := q
        dsimp only [Option.toList, List.cons_append, List.nil_append]
        refine wr_lstore (ls' := [_, _, _, _, _, _, _, _, _, _, _, _, _]) rfl rfl (Nat.le_of_ble_eq_true rfl) rfl ?_
        refine wr_iinc (ls' := [_, _, _, _, _, _, _, _, _, _, _, _, _]) rfl rfl rfl rfl ?_
        refine wr_goto rfl rfl ?_
        rw [show (n : Int) + 1 = ((n + 1 : Nat) : Int) by omega]
        refine ih (n + 1) _ _ (dg + τ) τ' f3 hW2 he2 (by omega) t0 t1 t2 t3 t4 ?_ (by omega)
        rw [eA]
        exact bnd_step hE hb (by omega) (ht4 (by omega))
theorem wp_div_outer {d s tq lq cq ta tb nd N : Nat} {h0 : am_H} {f pl V : Int} {gd : Nat → Int} {Q : Option Value → am_H → Prop} (hs : h0[s]? = some (arCell s)) (hd1 : h0[s + 17]? = some (.inr (cWh, [.ref (s + 18), .int (iI nd)]))) (hd2 : h0[s + 18]? = some (am_la 128 gd)) (hnd : nd ≤ 128) (kd : nok gd nd) (n0 : 0 < nd) (hdt : 2 ≤ gd (nd - 1)) (hcq : cq ≤ 1000000) (hN : N ≤ cq) (hN2 : N ≤ 1000) (hq1 : tq ≠ s ∧ tq ≠ s + 15 ∧ tq ≠ s + 16 ∧ tq ≠ s + 17 ∧ tq ≠ s + 18) (hq2 : lq ≠ s ∧ lq ≠ s + 15 ∧ lq ≠ s + 16 ∧ lq ≠ s + 17 ∧ lq ≠ s + 18)
    (K : ∀ (h1 : am_H) (gq : Nat → Int) (sz : Nat) (R : Int), fr [tq, lq, s + 15, s + 16] h0 h1 → isW h1 (s + 15) (s + 16) 128 R → h1[tq]? = some (.inr (cWh, [.ref lq, .int (iI sz)])) → h1[lq]? = some (am_la cq gq) → nv gq N * nv gd nd + R = V → R < nv gd nd → (∀ j, j < N → 0 ≤ gq j ∧ gq j < 1000000000) → top gq sz N → am_w X (d + 1) 89 (152, [.ref s, .ref tq, .ref ta, .ref tb, .long (lI f), am_U, .int (iI pl), am_U, am_U, am_U, am_U, am_U, am_U], [], h1) Q) :
    ∀ (i : Nat) (h1 : am_H) (gq : Nat → Int) (sz : Nat) (R : Int), i ≤ N → fr [tq, lq, s + 15, s + 16] h0 h1 → isW h1 (s + 15) (s + 16) 128 R → h1[tq]? = some (.inr (cWh, [.ref lq, .int (iI sz)])) → h1[lq]? = some (am_la cq gq) → nh gq N i * (nv gd nd * 1000000000 ^ i) + R = V → R < nv gd nd * 1000000000 ^ i → (∀ j, i ≤ j → j < N → 0 ≤ gq j ∧ gq j < 1000000000) → i ≤ sz → sz ≤ N → (∀ j, sz ≤ j → j < N → gq j = 0) → (i < sz → gq (sz - 1) ≠ 0) → am_w X (d + 1) 89 (55, [.ref s, .ref tq, .ref ta, .ref tb, .long (lI f), am_U, .int (iI pl), .int (iI ((i : Int) - 1)), am_U, am_U, am_U, am_U, am_U], [], h1) Q := by
  intro i
  induction i with
  | zero =>
    intro h1 gq sz R hi hf hW c_q c_ql he hR hdg s1 s2 s3 s4
    refine wr_iload rfl rfl rfl ?_
    refine wr_if_lt rfl rfl rfl (by omega) (fun c57 => ?_) (fun c57 => ?_)
    ·
      refine am_w.wk (ls' := [_, _, _, _, _, _, _, am_U, _, _, _, _, _]) ⟨Or.inr rfl, Or.inr rfl, Or.inr rfl, Or.inr rfl, Or.inr rfl, Or.inr rfl, Or.inr rfl, Or.inl rfl, Or.inr rfl, Or.inr rfl, Or.inr rfl, Or.inr rfl, Or.inr rfl, trivial⟩ ?_
      rw [nh_0, Int.pow_zero, Int.mul_one] at he
      rw [Int.pow_zero, Int.mul_one] at hR
      exact K h1 gq sz R hf hW c_q c_ql he hR (fun j hj => hdg j (by omega) hj) ⟨s2, s3, s4⟩
    · exfalso; omega
  | succ i ih =>
    intro h1 gq sz R hi hf hW c_q c_ql he hR hdg s1 s2 s3 s4
    have hR0 := hW.ex
    have c_s : h1[s]? = some (arCell s) := by rw [hf.2 s (by simp; omega)]; exact hs
    unfold arCell at c_s
    have c_d1 : h1[s + 17]? = some (.inr (cWh, [.ref (s + 18), .int (iI nd)])) := by rw [hf.2 (s + 17) (by simp; omega)]; exact hd1
    have c_d2 : h1[s + 18]? = some (am_la 128 gd) := by rw [hf.2 (s + 18) (by simp; omega)]; exact hd2
    obtain ⟨gr, nr, c_r, c_rl, z1, z2, z3⟩ := id hW
    rw [show ((i + 1 : Nat) : Int) - 1 = i by omega]
    refine wr_iload rfl rfl rfl ?_
    refine wr_if_lt rfl rfl rfl (by omega) (fun c57 => ?_) (fun c57 => ?_)
    · exfalso; omega
    ·
      refine wr_lconst (z := 0) rfl rfl rfl ?_
      refine wr_lstore (ls' := [_, _, _, _, _, _, _, _, _, _, _, _, _]) rfl rfl (Nat.le_of_ble_eq_true rfl) rfl ?_
      refine wr_aload_n rfl rfl rfl ?_
      refine wr_get (ci := 4) (f := 7) rfl rfl rfl (by assumption) rfl ?_
      refine wr_aload_n rfl rfl rfl ?_
      refine wr_get (ci := 4) (f := 8) rfl rfl rfl (by assumption) rfl ?_
      refine wr_iload rfl rfl rfl ?_
      refine wr_cv2 (k' := 93) (ci := 5) rfl rfl rfl rfl (by assumption) rfl rfl (wp_timesAt (sh := i) hW c_d1 c_d2 (by omega) (by omega) hnd kd n0 hdt (by omega) hR) (fun r h2 q => ?_)
      obtain ⟨τ, rfl, rfl, t0, t1, t2, t3, t4⟩ := q
      dsimp only [Option.toList, List.cons_append, List.nil_append]
      refine wr_lstore (ls' := [_, _, _, _, _, _, _, _, _, _, _, _, _]) rfl rfl (Nat.le_of_ble_eq_true rfl) rfl ?_
      refine wr_iconst rfl rfl ?_
      refine wr_istore (ls' := [_, _, _, _, _, _, _, _, _, _, _, _, _]) rfl rfl (Nat.le_of_ble_eq_true rfl) rfl ?_
      refine wp_div_inner (R0 := R) c_s c_d1 c_d2 hnd kd n0 hdt (by omega) hR ?_ 21 0 _ R 0 τ (fr_rf _ _) hW (by omega) (by omega) t0 t1 t2 t3 t4 ?_ (by omega)
      · intro h3 R' dg f3 hW3 he3 hR3 hR4 hdg0 hdg1
        have c_q3 : h3[tq]? = some (.inr (cWh, [.ref lq, .int (iI sz)])) := by rw [f3.2 tq (by simp; omega)]; exact c_q
        have c_ql3 : h3[lq]? = some (am_la cq gq) := by rw [f3.2 lq (by simp; omega)]; exact c_ql
        have hqne : lq ≠ tq := fun e => am_oa c_q c_ql e.symm
        refine wr_aload_n rfl rfl rfl ?_
        refine wr_iload rfl rfl rfl ?_
        refine wr_lload rfl rfl rfl ?_
        refine wr_cv2 (k' := 95) (ci := 5) rfl rfl rfl rfl (by assumption) rfl rfl (wp_setDigit (i := i) c_q3 c_ql3 (by omega) (by omega) (by omega) ⟨hdg0, hdg1⟩) (fun r h4 q => ?_)
        obtain ⟨rfl, rfl⟩ := q
        dsimp only [Option.toList, List.nil_append]
        refine wr_iinc (ls' := [_, _, _, _, _, _, _, _, _, _, _, _, _]) rfl rfl rfl rfl ?_
        refine wr_goto rfl rfl ?_
        refine am_w.wk (ls' := [_, _, _, _, _, _, _, _, am_U, _, _, _, _]) ⟨Or.inr rfl, Or.inr rfl, Or.inr rfl, Or.inr rfl, Or.inr rfl, Or.inr rfl, Or.inr rfl, Or.inr rfl, Or.inl rfl, Or.inr rfl, Or.inr rfl, Or.inr rfl, Or.inr rfl, trivial⟩ ?_
        have f4 : fr [tq, lq, s + 15, s + 16] h0 ((h3.set lq (am_la cq (updI gq i dg))).set tq (.inr (cWh, [.ref lq, .int (iI (if dg = 0 ∧ sz = i + 1 then (i : Int) else sz))]))) := by
          refine fr_tr (fr_tr (U := [tq, lq, s + 15, s + 16]) hf f3 (fun i hi => hi) (fun i hi => by simp at hi ⊢; omega)) fr_set2 (fun i hi => hi) (fun i hi => by simp at hi ⊢; omega)
        have W4 : isW ((h3.set lq (am_la cq (updI gq i dg))).set tq (.inr (cWh, [.ref lq, .int (iI (if dg = 0 ∧ sz = i + 1 then (i : Int) else sz))]))) (s + 15) (s + 16) 128 R' := hW3.kept (fr_set2 (a := lq) (b := tq)) (by simp; omega) (by simp; omega)
        have l4 : ((h3.set lq (am_la cq (updI gq i dg))).set tq (.inr (cWh, [.ref lq, .int (iI (if dg = 0 ∧ sz = i + 1 then (i : Int) else sz))])))[lq]? = some (am_la cq (updI gq i dg)) := by rw [am_set_n (Ne.symm hqne)]; exact am_set_s c_ql3
        have eV : nh (updI gq i dg) N i * (nv gd nd * 1000000000 ^ i) + R' = V := by
          rw [nh_step (by omega), updI_s, nh_congr (g := gq) (g' := updI gq i dg) (fun j a b => updI_n (by omega)), ← he, ← he3, Int.pow_succ]
          grind
        have dd : ∀ j, i ≤ j → j < N → 0 ≤ updI gq i dg j ∧ updI gq i dg j < 1000000000 := by
          intro j a b
          by_cases e : j = i
          · subst e; rw [updI_s]; exact ⟨hdg0, hdg1⟩
          · rw [updI_n e]; exact hdg j (by omega) b
        by_cases hz : dg = 0 ∧ sz = i + 1
        · have t4' : ((h3.set lq (am_la cq (updI gq i dg))).set tq (.inr (cWh, [.ref lq, .int (iI (if dg = 0 ∧ sz = i + 1 then (i : Int) else sz))])))[tq]? = some (.inr (cWh, [.ref lq, .int (iI (i : Int))])) := by
            rw [if_pos hz]
            exact am_set_s (c' := .inr (cWh, [.ref lq, .int (iI sz)])) (by rw [am_set_n hqne]; exact c_q3)
          refine ih _ (updI gq i dg) i R' (by omega) f4 W4 t4' l4 eV hR4 dd (Nat.le_refl _) (by omega) (fun j a b => ?_) (fun q => by omega)
          by_cases e : j = i
          · subst e; rw [updI_s]; exact hz.1
          · rw [updI_n e]; exact s3 j (by omega) b
        · have t4' : ((h3.set lq (am_la cq (updI gq i dg))).set tq (.inr (cWh, [.ref lq, .int (iI (if dg = 0 ∧ sz = i + 1 then (i : Int) else sz))])))[tq]? = some (.inr (cWh, [.ref lq, .int (iI (sz : Int))])) := by
            rw [if_neg hz]
            exact am_set_s (c' := .inr (cWh, [.ref lq, .int (iI sz)])) (by rw [am_set_n hqne]; exact c_q3)
          refine ih _ (updI gq i dg) sz R' (by omega) f4 W4 t4' l4 eV hR4 dd (by omega) s2 (fun j a b => by rw [updI_n (by omega)]; exact s3 j a b) (fun q => ?_)
          by_cases e : sz = i + 1
          · rw [e, show i + 1 - 1 = i by omega, updI_s]
            exact fun z => hz ⟨z, e⟩
          · rw [updI_n (by omega)]
            exact s4 (by omega)
      · have dB := nv_low kd n0
        have d0 : 0 < nv gd nd := by have := bp_pos (nd - 1); omega
        have hE : 0 < nv gd nd * 1000000000 ^ i := Int.mul_pos d0 (bp_pos i)
        rw [Int.pow_succ] at hR
        have e1 : nv gd nd * (1000000000 ^ i * 1000000000) = 1000000000 * (nv gd nd * 1000000000 ^ i) := by grind
        have e2 : bnd 21 = 2324522937 := by decide
        rw [e2]
        omega
end ARA
