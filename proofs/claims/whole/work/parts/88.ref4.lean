/-! THE REFERENCE'S FRACTIONS -/
theorem fq_mul (a b : Rat) : Rat.divInt (a.num * b.num) ((a.den * b.den : Nat) : Int) = a * b := by
  rw [Int.natCast_mul, ← Rat.divInt_mul_divInt, Rat.num_divInt_den, Rat.num_divInt_den]
theorem fq_set {u v : Int} (h : v ≠ 0) : Rat.divInt (u * v.sign) (v.natAbs : Int) = Rat.divInt u v := by
  rcases Int.lt_or_gt_of_ne h with c | c
  · rw [Int.sign_eq_neg_one_of_neg c, ← Rat.neg_divInt_neg u v, show (v.natAbs : Int) = -v by omega, show u * -1 = -u by omega]
  · rw [Int.sign_eq_one_of_pos c, show (v.natAbs : Int) = v by omega, show u * 1 = u by omega]
theorem fq_div {a b : Rat} (h : b.num ≠ 0) : Rat.divInt (a.num * b.den * b.num.sign) ((a.den * b.num.natAbs : Nat) : Int) = a / b := by
  have e : (a.den * b.num.natAbs : Nat) = ((a.den : Int) * b.num).natAbs := by rw [Int.natAbs_mul]; rfl
  have e2 : b.num.sign = ((a.den : Int) * b.num).sign := by
    rw [Int.sign_mul, Int.sign_eq_one_of_pos (a := (a.den : Int)) (by have := a.den_pos; omega)]; omega
  have nz : (a.den : Int) * b.num ≠ 0 := Int.mul_ne_zero (by have := a.den_pos; omega) h
  rw [e, e2, fq_set nz, ← Rat.divInt_mul_divInt, Rat.num_divInt_den, Rat.div_def, Rat.inv_def]
theorem fq_add (a b : Rat) : Rat.divInt (a.num * b.den + b.num * a.den) ((a.den * b.den : Nat) : Int) = a + b := by
  have h1 := a.den_pos
  have h2 := b.den_pos
  rw [Int.natCast_mul, ← Rat.divInt_add_divInt _ _ (by omega) (by omega), Rat.num_divInt_den, Rat.num_divInt_den]
theorem fq_sub (a b : Rat) : Rat.divInt (a.num * b.den + -b.num * a.den) ((a.den * b.den : Nat) : Int) = a - b := by
  have := fq_add a (-b)
  rw [Rat.neg_num, Rat.neg_den] at this
  rw [this, Rat.sub_eq_add_neg]
theorem fq_lt (a b : Rat) : a < b ↔ a.num * b.den < b.num * a.den := Rat.lt_iff a b
theorem sgn_nat (x : Int) {n : Nat} (h : 0 < n) : (x * n).sign = x.sign := by
  rw [Int.sign_mul, Int.sign_eq_one_of_pos (a := (n : Int)) (by omega)]; omega
theorem sgn_in (x : Int) : -1 ≤ x.sign ∧ x.sign ≤ 1 ∧ (x.sign = 0 ↔ x = 0) ∧ (x.sign = 1 ↔ 0 < x) ∧ (x.sign = -1 ↔ x < 0) := by
  rcases Int.lt_trichotomy x 0 with c | c | c
  · rw [Int.sign_eq_neg_one_of_neg c]; omega
  · subst c; decide
  · rw [Int.sign_eq_one_of_pos c]; omega
section RF4
variable {X : Nat × (Nat → Int32)} {h0 h h' : am_H} {o l s V S : Nat → Int} {A : Nat → Nat → Int} {F : Nat → Rat}
theorem mw_reduce {d f y : Nat} {u : Int} (w : RW h0 h o V (updA A 167 S)) (hf : f < 125) (hx : V (2 * f) = (u.natAbs : Int)) (hy : V (2 * f + 1) = (y : Int)) (y0 : 0 < y) (hs : u ≠ 0 → S f = u.sign) (fit : (u.natAbs : Int) < 1000000000 ^ 259) (fit2 : (y : Int) < 1000000000 ^ 259) : am_c X (d + 4) 143 [.ref 164, .int (iI f)] h (redQ h0 o V S A f (Rat.divInt u y)) := by
  by_cases u0 : u = 0
  · subst u0
    refine (mw_reduce0 w (by omega) hx).mono (fun r h' q => ?_)
    obtain ⟨rfl, w⟩ := q
    refine ⟨rfl, _, _, w, ?_, ?_, ?_, fun n _ a b => updI_n b, fun g a => updI_n a⟩
    · rw [updI_n (by omega), hx, Rat.zero_divInt]; rfl
    · rw [updI_s, Rat.zero_divInt]; rfl
    · rw [updI_s, Rat.zero_divInt]; rfl
  have mp := mk_parts (u := u) y0 rfl
  obtain ⟨D, eD⟩ : ∃ D, D = Nat.gcd u.natAbs y := ⟨_, rfl⟩
  rw [← eD] at mp
  have D0 : 0 < D := eD ▸ Nat.gcd_pos_of_pos_right _ y0
  generalize Rat.divInt u y = q at mp
  have ix : 2 * (f : Int) = ((2 * f : Nat) : Int) := by omega
  have ix1 : ((2 * f : Nat) : Int) + 1 = ((2 * f + 1 : Nat) : Int) := by omega
  have cO := w.cO
  obtain ⟨s, cS, sz⟩ := w.size
  obtain ⟨k, k1, k2, k3⟩ := sz (2 * f) (by omega)
  refine am_c.of (Nat.le_of_ble_eq_true rfl) ?_
  show am_w _ _ _ (_, [_, _], _, _) _
  refine wr_aload_n rfl rfl rfl ?_
  refine wr_get (ci := 12) (f := 1) rfl rfl rfl (by assumption) rfl ?_
  refine wr_iconst rfl rfl ?_
  refine wr_iload_n rfl rfl rfl ?_
  refine wr_imul rfl rfl ?_
  rw [ix]
  refine wr_iald rfl rfl (by assumption) (by omega) (by omega) ?_
  rw [Int.toNat_natCast, k1]
  refine wr_if_ne rfl rfl rfl (by omega) (fun c8 => ?_) (fun c8 => by exfalso; omega)
  refine wr_aload_n rfl rfl rfl ?_
  refine wr_iconst rfl rfl ?_
  refine wr_iload_n rfl rfl rfl ?_
  refine wr_imul rfl rfl ?_
  rw [ix]
  refine wr_iconst rfl rfl ?_
  refine wr_iload_n rfl rfl rfl ?_
  refine wr_imul rfl rfl ?_
  rw [ix]
  refine wr_iconst rfl rfl ?_
  refine wr_iadd rfl rfl ?_
  rw [ix1]
  clear cS sz k1 k2 k3
  refine wr_cv2 (k' := 144) (ci := 12) rfl rfl rfl rfl (by assumption) rfl rfl (mw_common (a := 2 * f) (b := 2 * f + 1) w (by omega) (by omega) (by omega) (by omega) (by rw [hx]; exact fit)) (fun r h2 q => ?_)
  obtain ⟨rfl, V2, w, g2, n2⟩ := q
  rw [hx, hy, show Int.gcd (u.natAbs : Int) (y : Int) = D from eD.symm] at g2
  have hx2 : V2 (2 * f) = (u.natAbs : Int) := by rw [n2 _ (by omega) (by omega), hx]
  have hy2 : V2 (2 * f + 1) = (y : Int) := by rw [n2 _ (by omega) (by omega), hy]
  have cO := w.cO
  have J : am_w X (d + 3) 143 (64, [.ref 164, .int (iI f)], [], h2) (redQ h0 o V S A f q) := by
    refine wr_aload_n rfl rfl rfl ?_
    refine wr_sipush rfl rfl (by decide) ?_
    refine wr_sipush rfl rfl (by decide) ?_
    refine wr_cv2 (k' := 145) (ci := 12) rfl rfl rfl rfl (by assumption) rfl rfl (mw_copyNumber (a := 251) (b := 250) w (by decide) (by decide) (by decide)) (fun r h2 q => ?_)
    obtain ⟨rfl, V3, w, s3, n3⟩ := rw_ex q
    rw [g2] at s3
    have cO := w.cO
    refine wr_aload_n rfl rfl rfl ?_
    refine wr_sipush rfl rfl (by decide) ?_
    refine wr_sipush rfl rfl (by decide) ?_
    refine wr_iconst rfl rfl ?_
    refine wr_iload_n rfl rfl rfl ?_
    refine wr_imul rfl rfl ?_
    rw [ix]
    refine wr_sipush rfl rfl (by decide) ?_
    refine wr_cv4 (k' := 152) (ci := 12) rfl rfl rfl rfl (by assumption) rfl rfl (mw_divide (a := 2 * f) (b := 251) w (by omega) (by decide) (by omega) (by decide) (by omega) (by rw [n3 _ (by omega), hx2]; exact fit)) (fun r h2 q => ?_)
    obtain ⟨rfl, V4, w, s4, n4⟩ := q
    rw [n3 _ (by omega), hx2, s3] at s4
    have cO := w.cO
    refine wr_aload_n rfl rfl rfl ?_
    refine wr_iconst rfl rfl ?_
    refine wr_iload_n rfl rfl rfl ?_
    refine wr_imul rfl rfl ?_
    rw [ix]
    refine wr_sipush rfl rfl (by decide) ?_
    refine wr_cv2 (k' := 145) (ci := 12) rfl rfl rfl rfl (by assumption) rfl rfl (mw_copyNumber (a := 2 * f) (b := 253) w (by omega) (by decide) (by omega)) (fun r h2 q => ?_)
    obtain ⟨rfl, V5, w, s5, n5⟩ := rw_ex q
    rw [s4] at s5
    have g5 : V5 251 = (D : Int) := by rw [n5 _ (by omega), n4 _ (by decide) (by decide) (by decide) (by decide), s3]
    have y5 : V5 (2 * f + 1) = (y : Int) := by rw [n5 _ (by omega), n4 _ (by omega) (by omega) (by omega) (by omega), n3 _ (by omega), hy2]
    have cO := w.cO
    refine wr_aload_n rfl rfl rfl ?_
    refine wr_sipush rfl rfl (by decide) ?_
    refine wr_sipush rfl rfl (by decide) ?_
    refine wr_iconst rfl rfl ?_
    refine wr_iload_n rfl rfl rfl ?_
    refine wr_imul rfl rfl ?_
    rw [ix]
    refine wr_iconst rfl rfl ?_
    refine wr_iadd rfl rfl ?_
    rw [ix1]
    refine wr_sipush rfl rfl (by decide) ?_
    refine wr_cv4 (k' := 152) (ci := 12) rfl rfl rfl rfl (by assumption) rfl rfl (mw_divide (a := 2 * f + 1) (b := 251) w (by omega) (by decide) (by omega) (by decide) (by omega) (by rw [y5]; exact fit2)) (fun r h2 q => ?_)
    obtain ⟨rfl, V6, w, s6, n6⟩ := q
    rw [y5, g5] at s6
    have cO := w.cO
    refine wr_aload_n rfl rfl rfl ?_
    refine wr_iconst rfl rfl ?_
    refine wr_iload_n rfl rfl rfl ?_
    refine wr_imul rfl rfl ?_
    rw [ix]
    refine wr_iconst rfl rfl ?_
    refine wr_iadd rfl rfl ?_
    rw [ix1]
    refine wr_sipush rfl rfl (by decide) ?_
    refine wr_cv2 (k' := 145) (ci := 12) rfl rfl rfl rfl (by assumption) rfl rfl (mw_copyNumber (a := 2 * f + 1) (b := 253) w (by omega) (by decide) (by omega)) (fun r h2 q => ?_)
    obtain ⟨rfl, V7, w, s7, n7⟩ := rw_ex q
    refine wr_vret rfl rfl ?_
    refine ⟨rfl, V7, S, w, ?_, ?_, ?_, fun n a b c => ?_, fun _ _ => rfl⟩
    · rw [n7 _ (by omega), n6 _ (by omega) (by omega) (by omega) (by omega), s5, mp.1]; rfl
    · rw [s7, s6, mp.2.1]; rfl
    · rw [hs u0, mp.2.2]
    · rw [n7 _ c, n6 _ (by omega) (by omega) (by omega) (by omega), n5 _ b, n4 _ (by omega) (by omega) (by omega) (by omega), n3 _ (by omega), n2 _ (by omega) (by omega)]
  have W := w
  obtain ⟨l, s, w, R⟩ := w
  obtain ⟨k, k1, k2, k3, k4⟩ := R 250 (by decide)
  have cL := w.li
  have cS := w.sz
  have x1 : s (Int.toNat 250) = k := k1
  have kp : 0 < k := Nat.pos_of_ne_zero fun z => by
    subst z
    have : nv (blk l 250) 0 = 0 := rfl
    omega
  have dl := k3.1 0 kp
  have x2 : l (Int.toNat 65000) = blk l 250 0 := rfl
  have v1 : nv (blk l 250) 1 = 0 + blk l 250 0 * 1 := rfl
  by_cases k1' : k = 1
  · subst k1'
    by_cases D1 : D = 1
    ·
      refine wr_aload_n rfl rfl rfl ?_
      refine wr_get (ci := 12) (f := 1) rfl rfl rfl (by assumption) rfl ?_
      refine wr_sipush rfl rfl (by decide) ?_
      refine wr_iald rfl rfl (by assumption) (by omega) (by omega) ?_
      rw [x1]
      refine wr_iconst rfl rfl ?_
      refine wr_icmp_gt rfl rfl rfl (by omega) (by omega) (fun c50 => by exfalso; omega) (fun c50 => ?_)
      refine wr_aload_n rfl rfl rfl ?_
      refine wr_get (ci := 12) (f := 0) rfl rfl rfl (by assumption) rfl ?_
      refine wr_ldc (z := 65000) rfl rfl rfl (by decide) ?_
      refine wr_iald rfl rfl (by assumption) (by omega) (by omega) ?_
      rw [x2]
      refine wr_iconst rfl rfl ?_
      refine wr_icmp_le rfl rfl rfl (by omega) (by omega) (fun c61 => ?_) (fun c61 => by exfalso; omega)
      refine wr_vret rfl rfl ?_
      subst D1
      refine ⟨rfl, V2, S, W, ?_, ?_, ?_, fun n a b c => n2 _ (by omega) (by omega), fun _ _ => rfl⟩
      · rw [hx2, mp.1, Nat.div_one]
      · rw [hy2, mp.2.1, Nat.div_one]
      · rw [hs u0, mp.2.2]
    ·
      refine wr_aload_n rfl rfl rfl ?_
      refine wr_get (ci := 12) (f := 1) rfl rfl rfl (by assumption) rfl ?_
      refine wr_sipush rfl rfl (by decide) ?_
      refine wr_iald rfl rfl (by assumption) (by omega) (by omega) ?_
      rw [x1]
      refine wr_iconst rfl rfl ?_
      refine wr_icmp_gt rfl rfl rfl (by omega) (by omega) (fun c50 => by exfalso; omega) (fun c50 => ?_)
      refine wr_aload_n rfl rfl rfl ?_
      refine wr_get (ci := 12) (f := 0) rfl rfl rfl (by assumption) rfl ?_
      refine wr_ldc (z := 65000) rfl rfl rfl (by decide) ?_
      refine wr_iald rfl rfl (by assumption) (by omega) (by omega) ?_
      rw [x2]
      refine wr_iconst rfl rfl ?_
      refine wr_icmp_le rfl rfl rfl (by omega) (by omega) (fun c61 => by exfalso; omega) (fun c61 => ?_)
      exact J
  ·
    refine wr_aload_n rfl rfl rfl ?_
    refine wr_get (ci := 12) (f := 1) rfl rfl rfl (by assumption) rfl ?_
    refine wr_sipush rfl rfl (by decide) ?_
    refine wr_iald rfl rfl (by assumption) (by omega) (by omega) ?_
    rw [x1]
    refine wr_iconst rfl rfl ?_
    refine wr_icmp_gt rfl rfl rfl (by omega) (by omega) (fun c50 => ?_) (fun c50 => by exfalso; omega)
    exact J
def isQ (V S : Nat → Int) (g : Nat) (q : Rat) : Prop := V (2 * g) = (q.num.natAbs : Int) ∧ V (2 * g + 1) = (q.den : Int) ∧ S g = q.num.sign
/-- the fractions F stand in the registers -/
def FW (h0 h : am_H) (o : Nat → Int) (F : Nat → Rat) (A : Nat → Nat → Int) : Prop := ∃ V S, RW h0 h o V (updA A 167 S) ∧ ∀ g, g < 125 → isQ V S g (F g)
theorem FW_red {f : Nat} {q : Rat} {r : Option Value} {V0 S0 : Nat → Int} (hF : ∀ g, g < 125 → isQ V0 S0 g (F g)) (hV : ∀ n, n < 250 → n ≠ 2 * f → n ≠ 2 * f + 1 → V n = V0 n) (hS : ∀ g, g ≠ f → S g = S0 g) (k : redQ h0 o V S A f q r h') : r = none ∧ FW h0 h' o (updR F f q) A := by
  obtain ⟨k0, V', S', w, k1, k2, k3, k4, k5⟩ := k
  refine ⟨k0, V', S', w, fun g hg => ?_⟩
  by_cases e : g = f
  · subst e; rw [updR_s]; exact ⟨k1, k2, k3⟩
  · rw [updR_n e]
    obtain ⟨a, b, c⟩ := hF g hg
    exact ⟨by rw [k4 _ (by omega) (by omega) (by omega), hV _ (by omega) (by omega) (by omega), a], by rw [k4 _ (by omega) (by omega) (by omega), hV _ (by omega) (by omega) (by omega), b], by rw [k5 _ e, hS _ e, c]⟩
theorem wp_rsize {d : Nat} {u : Int} (hu : -9223372036854775807 ≤ u ∧ u ≤ 9223372036854775807) : am_c X (d + 1) 141 [.long (lI u)] h (fun r h' => r = some (.long (lI u.natAbs)) ∧ h' = h) := by
  refine am_c.of (Nat.le_of_ble_eq_true rfl) ?_
  show am_w _ _ _ (_, [_, _], _, _) _
  by_cases c : u < 0
  ·
    refine wr_lload_n rfl rfl rfl ?_
    refine wr_lconst (z := 0) rfl rfl rfl ?_
    refine wr_l_ge rfl rfl rfl rfl rfl (by omega) (by omega) (fun c2 => by exfalso; omega) (fun c2 => ?_)
    refine wr_lload_n rfl rfl rfl ?_
    refine wr_lneg rfl rfl ?_
    refine wr_goto rfl rfl ?_
    refine wr_lret rfl rfl ?_
    exact ⟨by rw [show (u.natAbs : Int) = -u by omega], rfl⟩
  ·
    refine wr_lload_n rfl rfl rfl ?_
    refine wr_lconst (z := 0) rfl rfl rfl ?_
    refine wr_l_ge rfl rfl rfl rfl rfl (by omega) (by omega) (fun c2 => ?_) (fun c2 => by exfalso; omega)
    refine wr_lload_n rfl rfl rfl ?_
    refine wr_lret rfl rfl ?_
    exact ⟨by rw [show (u.natAbs : Int) = u by omega], rfl⟩
theorem fw_set {d f : Nat} {u v : Int} (w : FW h0 h o F A) (hf : f < 125) (hu : -9223372036854775807 ≤ u ∧ u ≤ 9223372036854775807) (hv : -9223372036854775807 ≤ v ∧ v ≤ 9223372036854775807) (v0 : v ≠ 0) : am_c X (d + 5) 140 [.ref 164, .int (iI f), .long (lI u), .long (lI v)] h (fun r h' => r = none ∧ FW h0 h' o (updR F f (Rat.divInt u v)) A) := by
  obtain ⟨V, S, w, hF⟩ := w
  have cO := w.cO
  have cG := (w.setG S).1
  have ix : 2 * (f : Int) = ((2 * f : Nat) : Int) := by omega
  have ix1 : ((2 * f : Nat) : Int) + 1 = ((2 * f + 1 : Nat) : Int) := by omega
  have big : (9223372036854775808 : Int) ≤ 1000000000 ^ 259 := Int.le_trans (by decide) (bp_mono (m := 3) (by decide))
  generalize (1000000000 : Int) ^ 259 = Bg at big
  have J : ∀ σ : Int, (u * v.sign ≠ 0 → σ = (u * v.sign).sign) → am_w X (d + 4) 140 (46, [.ref 164, .int (iI f), .long (lI u), am_U, .long (lI v), am_U], [.int (iI σ), .int (iI f), .ref 167], h) (fun r h' => r = none ∧ FW h0 h' o (updR F f (Rat.divInt u v)) A) := by
    intro σ hσ
    refine wr_iast rfl rfl (by assumption) (by omega) (by omega) (fun h1 e1 => ?_)
    rw [Int.toNat_natCast] at e1
    have w := e1 ▸ (w.setG (updI S f σ)).2
    clear e1
    have cO := w.cO
    refine wr_aload_n rfl rfl rfl ?_
    refine wr_iconst rfl rfl ?_
    refine wr_iload_n rfl rfl rfl ?_
    refine wr_imul rfl rfl ?_
    rw [ix]
    refine wr_lload_n rfl rfl rfl ?_
    refine wr_cs1 (k' := 141) rfl rfl rfl rfl rfl (wp_rsize hu) (fun r h2 q => ?_)
    obtain ⟨rfl, rfl⟩ := q
    dsimp only [Option.toList, List.cons_append, List.nil_append]
    refine wr_cv2 (k' := 142) (ci := 12) rfl rfl rfl rfl (by assumption) rfl rfl (mw_setNumber (n := 2 * f) (v := u.natAbs) w (by omega) (by omega)) (fun r h2 q => ?_)
    obtain ⟨rfl, V2, w, s2, n2⟩ := rw_ex q
    have cO := w.cO
    refine wr_aload_n rfl rfl rfl ?_
    refine wr_iconst rfl rfl ?_
    refine wr_iload_n rfl rfl rfl ?_
    refine wr_imul rfl rfl ?_
    rw [ix]
    refine wr_iconst rfl rfl ?_
    refine wr_iadd rfl rfl ?_
    rw [ix1]
    refine wr_lload rfl rfl rfl ?_
    refine wr_cs1 (k' := 141) rfl rfl rfl rfl rfl (wp_rsize hv) (fun r h2 q => ?_)
    obtain ⟨rfl, rfl⟩ := q
    dsimp only [Option.toList, List.cons_append, List.nil_append]
    refine wr_cv2 (k' := 142) (ci := 12) rfl rfl rfl rfl (by assumption) rfl rfl (mw_setNumber (n := 2 * f + 1) (v := v.natAbs) w (by omega) (by omega)) (fun r h2 q => ?_)
    obtain ⟨rfl, V3, w, s3, n3⟩ := rw_ex q
    have cO := w.cO
    refine wr_aload_n rfl rfl rfl ?_
    refine wr_iload_n rfl rfl rfl ?_
    have ea : (u * v.sign).natAbs = u.natAbs := by rw [Int.natAbs_mul, Int.natAbs_sign_of_ne_zero v0, Nat.mul_one]
    refine wr_cv1 (k' := 143) (ci := 12) rfl rfl rfl rfl (by assumption) rfl rfl (mw_reduce (u := u * v.sign) (y := v.natAbs) w hf (by rw [n3 _ (by omega), s2, ea]) s3 (by omega) (fun q => by rw [updI_s, hσ q]) (by rw [ea]; omega) (by omega)) (fun r h2 q => ?_)
    rw [fq_set v0] at q
    obtain ⟨rfl, w⟩ := FW_red hF (fun n a b c => by rw [n3 _ c, n2 _ b]) (fun g a => updI_n a) q
    refine wr_vret rfl rfl ?_
    exact ⟨rfl, w⟩
  have su := sgn_in u
  have sv := sgn_in v
  rw [Int.sign_mul] at J
  refine am_c.of (Nat.le_of_ble_eq_true rfl) ?_
  show am_w _ _ _ (_, [_, _, _, _, _, _], _, _) _
  by_cases u0 : u = 0
  ·
    refine wr_aload_n rfl rfl rfl ?_
    refine wr_get (ci := 12) (f := 2) rfl rfl rfl (by assumption) rfl ?_
    refine wr_iload_n rfl rfl rfl ?_
    refine wr_lload_n rfl rfl rfl ?_
    refine wr_lconst (z := 0) rfl rfl rfl ?_
    refine wr_l_ne rfl rfl rfl rfl rfl (by omega) (by omega) (fun c7 => by exfalso; omega) (fun c7 => ?_)
    refine wr_iconst rfl rfl ?_
    refine wr_goto rfl rfl ?_
    exact J 0 (fun q => absurd (by rw [u0]; omega) q)
  by_cases un : u < 0
  · by_cases vn : v < 0
    ·
      refine wr_aload_n rfl rfl rfl ?_
      refine wr_get (ci := 12) (f := 2) rfl rfl rfl (by assumption) rfl ?_
      refine wr_iload_n rfl rfl rfl ?_
      refine wr_lload_n rfl rfl rfl ?_
      refine wr_lconst (z := 0) rfl rfl rfl ?_
      refine wr_l_ne rfl rfl rfl rfl rfl (by omega) (by omega) (fun c7 => ?_) (fun c7 => by exfalso; omega)
      refine wr_lload_n rfl rfl rfl ?_
      refine wr_lconst (z := 0) rfl rfl rfl ?_
      refine wr_l_ge rfl rfl rfl rfl rfl (by omega) (by omega) (fun c17 => by exfalso; omega) (fun c17 => ?_)
      refine wr_iconst rfl rfl ?_
      refine wr_goto rfl rfl ?_
      refine wr_lload rfl rfl rfl ?_
      refine wr_lconst (z := 0) rfl rfl rfl ?_
      refine wr_l_ge rfl rfl rfl rfl rfl (by omega) (by omega) (fun c29 => by exfalso; omega) (fun c29 => ?_)
      refine wr_iconst rfl rfl ?_
      refine wr_goto rfl rfl ?_
      refine wr_icmp_ne rfl rfl rfl (by omega) (by omega) (fun c38 => by exfalso; omega) (fun c38 => ?_)
      refine wr_iconst rfl rfl ?_
      refine wr_goto rfl rfl ?_
      exact J 1 (fun q => by rw [Int.sign_sign, su.2.2.2.2.mpr un, sv.2.2.2.2.mpr vn]; decide)
    ·
      refine wr_aload_n rfl rfl rfl ?_
      refine wr_get (ci := 12) (f := 2) rfl rfl rfl (by assumption) rfl ?_
      refine wr_iload_n rfl rfl rfl ?_
      refine wr_lload_n rfl rfl rfl ?_
      refine wr_lconst (z := 0) rfl rfl rfl ?_
      refine wr_l_ne rfl rfl rfl rfl rfl (by omega) (by omega) (fun c7 => ?_) (fun c7 => by exfalso; omega)
      refine wr_lload_n rfl rfl rfl ?_
      refine wr_lconst (z := 0) rfl rfl rfl ?_
      refine wr_l_ge rfl rfl rfl rfl rfl (by omega) (by omega) (fun c17 => by exfalso; omega) (fun c17 => ?_)
      refine wr_iconst rfl rfl ?_
      refine wr_goto rfl rfl ?_
      refine wr_lload rfl rfl rfl ?_
      refine wr_lconst (z := 0) rfl rfl rfl ?_
      refine wr_l_ge rfl rfl rfl rfl rfl (by omega) (by omega) (fun c29 => ?_) (fun c29 => by exfalso; omega)
      refine wr_iconst rfl rfl ?_
      refine wr_icmp_ne rfl rfl rfl (by omega) (by omega) (fun c38 => ?_) (fun c38 => by exfalso; omega)
      refine wr_iconst rfl rfl ?_
      exact J (-1) (fun q => by rw [Int.sign_sign, su.2.2.2.2.mpr un, sv.2.2.2.1.mpr (by omega)]; decide)
  · by_cases vn : v < 0
    ·
      refine wr_aload_n rfl rfl rfl ?_
      refine wr_get (ci := 12) (f := 2) rfl rfl rfl (by assumption) rfl ?_
      refine wr_iload_n rfl rfl rfl ?_
      refine wr_lload_n rfl rfl rfl ?_
      refine wr_lconst (z := 0) rfl rfl rfl ?_
      refine wr_l_ne rfl rfl rfl rfl rfl (by omega) (by omega) (fun c7 => ?_) (fun c7 => by exfalso; omega)
      refine wr_lload_n rfl rfl rfl ?_
      refine wr_lconst (z := 0) rfl rfl rfl ?_
      refine wr_l_ge rfl rfl rfl rfl rfl (by omega) (by omega) (fun c17 => ?_) (fun c17 => by exfalso; omega)
      refine wr_iconst rfl rfl ?_
      refine wr_lload rfl rfl rfl ?_
      refine wr_lconst (z := 0) rfl rfl rfl ?_
      refine wr_l_ge rfl rfl rfl rfl rfl (by omega) (by omega) (fun c29 => by exfalso; omega) (fun c29 => ?_)
      refine wr_iconst rfl rfl ?_
      refine wr_goto rfl rfl ?_
      refine wr_icmp_ne rfl rfl rfl (by omega) (by omega) (fun c38 => ?_) (fun c38 => by exfalso; omega)
      refine wr_iconst rfl rfl ?_
      exact J (-1) (fun q => by rw [Int.sign_sign, su.2.2.2.1.mpr (by omega), sv.2.2.2.2.mpr vn]; decide)
    ·
      refine wr_aload_n rfl rfl rfl ?_
      refine wr_get (ci := 12) (f := 2) rfl rfl rfl (by assumption) rfl ?_
      refine wr_iload_n rfl rfl rfl ?_
      refine wr_lload_n rfl rfl rfl ?_
      refine wr_lconst (z := 0) rfl rfl rfl ?_
      refine wr_l_ne rfl rfl rfl rfl rfl (by omega) (by omega) (fun c7 => ?_) (fun c7 => by exfalso; omega)
      refine wr_lload_n rfl rfl rfl ?_
      refine wr_lconst (z := 0) rfl rfl rfl ?_
      refine wr_l_ge rfl rfl rfl rfl rfl (by omega) (by omega) (fun c17 => ?_) (fun c17 => by exfalso; omega)
      refine wr_iconst rfl rfl ?_
      refine wr_lload rfl rfl rfl ?_
      refine wr_lconst (z := 0) rfl rfl rfl ?_
      refine wr_l_ge rfl rfl rfl rfl rfl (by omega) (by omega) (fun c29 => ?_) (fun c29 => by exfalso; omega)
      refine wr_iconst rfl rfl ?_
      refine wr_icmp_ne rfl rfl rfl (by omega) (by omega) (fun c38 => by exfalso; omega) (fun c38 => ?_)
      refine wr_iconst rfl rfl ?_
      refine wr_goto rfl rfl ?_
      exact J 1 (fun q => by rw [Int.sign_sign, su.2.2.2.1.mpr (by omega), sv.2.2.2.1.mpr (by omega)]; decide)
end RF4
