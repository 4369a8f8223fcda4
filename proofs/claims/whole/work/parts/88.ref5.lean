/-! THE REFERENCE'S FRACTIONS: copy, times, over, plus, compare, tell -/
section RF5
variable {X : Nat × (Nat → Int32)} {h0 h h' : am_H} {o l s V S : Nat → Int} {A : Nat → Nat → Int} {F : Nat → Rat}
theorem fw_copy {d f g : Nat} (w : FW h0 h o F A) (hf : f < 125) (hg : g < 125) (hne : f ≠ g) : am_c X (d + 2) 184 [.ref 164, .int (iI f), .int (iI g)] h (fun r h' => r = none ∧ FW h0 h' o (updR F f (F g)) A) := by
  obtain ⟨V, S, w, hF⟩ := w
  have cO := w.cO
  have if0 : 2 * (f : Int) = ((2 * f : Nat) : Int) := by omega
  have if1 : ((2 * f : Nat) : Int) + 1 = ((2 * f + 1 : Nat) : Int) := by omega
  have ig0 : 2 * (g : Int) = ((2 * g : Nat) : Int) := by omega
  have ig1 : ((2 * g : Nat) : Int) + 1 = ((2 * g + 1 : Nat) : Int) := by omega
  refine am_c.of (Nat.le_of_ble_eq_true rfl) ?_
  show am_w _ _ _ (_, [_, _, _], _, _) _
  refine wr_aload_n rfl rfl rfl ?_
  refine wr_iconst rfl rfl ?_
  refine wr_iload_n rfl rfl rfl ?_
  refine wr_imul rfl rfl ?_
  rw [if0]
  refine wr_iconst rfl rfl ?_
  refine wr_iload_n rfl rfl rfl ?_
  refine wr_imul rfl rfl ?_
  rw [ig0]
  refine wr_cv2 (k' := 145) (ci := 12) rfl rfl rfl rfl (by assumption) rfl rfl (mw_copyNumber (a := 2 * f) (b := 2 * g) w (by omega) (by omega) (by omega)) (fun r h2 q => ?_)
  obtain ⟨rfl, V2, w, s2, n2⟩ := rw_ex q
  have cO := w.cO
  refine wr_aload_n rfl rfl rfl ?_
  refine wr_iconst rfl rfl ?_
  refine wr_iload_n rfl rfl rfl ?_
  refine wr_imul rfl rfl ?_
  rw [if0]
  refine wr_iconst rfl rfl ?_
  refine wr_iadd rfl rfl ?_
  rw [if1]
  refine wr_iconst rfl rfl ?_
  refine wr_iload_n rfl rfl rfl ?_
  refine wr_imul rfl rfl ?_
  rw [ig0]
  refine wr_iconst rfl rfl ?_
  refine wr_iadd rfl rfl ?_
  rw [ig1]
  refine wr_cv2 (k' := 145) (ci := 12) rfl rfl rfl rfl (by assumption) rfl rfl (mw_copyNumber (a := 2 * f + 1) (b := 2 * g + 1) w (by omega) (by omega) (by omega)) (fun r h2 q => ?_)
  obtain ⟨rfl, V3, w, s3, n3⟩ := rw_ex q
  have cO := w.cO
  have cG := (w.setG S).1
  refine wr_aload_n rfl rfl rfl ?_
  refine wr_get (ci := 12) (f := 2) rfl rfl rfl (by assumption) rfl ?_
  refine wr_iload_n rfl rfl rfl ?_
  refine wr_aload_n rfl rfl rfl ?_
  refine wr_get (ci := 12) (f := 2) rfl rfl rfl (by assumption) rfl ?_
  refine wr_iload_n rfl rfl rfl ?_
  refine wr_iald rfl rfl (by assumption) (by omega) (by omega) ?_
  rw [Int.toNat_natCast]
  refine wr_iast rfl rfl (by assumption) (by omega) (by omega) (fun h1 e1 => ?_)
  rw [Int.toNat_natCast] at e1
  have w := e1 ▸ (w.setG (updI S f (S g))).2
  refine wr_vret rfl rfl ?_
  obtain ⟨a, b, c⟩ := hF g hg
  refine ⟨rfl, V3, _, w, fun j hj => ?_⟩
  by_cases e : j = f
  · subst e; rw [updR_s]; exact ⟨by rw [n3 _ (by omega), s2, a], by rw [s3, n2 _ (by omega), b], by rw [updI_s, c]⟩
  · rw [updR_n e]
    obtain ⟨a, b, c⟩ := hF j hj
    exact ⟨by rw [n3 _ (by omega), n2 _ (by omega), a], by rw [n3 _ (by omega), n2 _ (by omega), b], by rw [updI_n e, c]⟩
theorem fit_mul {x y : Int} {P R : Nat} (hx : 0 ≤ x) (hy : 0 ≤ y) (h1 : x < 1000000000 ^ P) (h2 : y < 1000000000 ^ R) (hPR : P + R ≤ 259) : x * y < 1000000000 ^ 259 := Int.lt_of_lt_of_le (bp_mul_lt hx hy h1 h2) (bp_mono hPR)
theorem fw_times {d f a b P R : Nat} (w : FW h0 h o F A) (hf : f < 125) (ha : a < 125) (hb : b < 125) (qa : qB P (F a)) (qb : qB R (F b)) (hPR : P + R ≤ 259) : am_c X (d + 5) 176 [.ref 164, .int (iI f), .int (iI a), .int (iI b)] h (fun r h' => r = none ∧ FW h0 h' o (updR F f (F a * F b)) A) := by
  obtain ⟨V, S, w, hF⟩ := w
  have cO := w.cO
  obtain ⟨a1, a2, a3⟩ := hF a ha
  obtain ⟨b1, b2, b3⟩ := hF b hb
  have if0 : 2 * (f : Int) = ((2 * f : Nat) : Int) := by omega
  have if1 : ((2 * f : Nat) : Int) + 1 = ((2 * f + 1 : Nat) : Int) := by omega
  have ia0 : 2 * (a : Int) = ((2 * a : Nat) : Int) := by omega
  have ia1 : ((2 * a : Nat) : Int) + 1 = ((2 * a + 1 : Nat) : Int) := by omega
  have ib0 : 2 * (b : Int) = ((2 * b : Nat) : Int) := by omega
  have ib1 : ((2 * b : Nat) : Int) + 1 = ((2 * b + 1 : Nat) : Int) := by omega
  have f1 := fit_mul (by omega) (by omega) qa.1 qb.1 hPR
  have f2 := fit_mul (by omega) (by omega) qa.2 qb.2 hPR
  refine am_c.of (Nat.le_of_ble_eq_true rfl) ?_
  show am_w _ _ _ (_, [_, _, _, _], _, _) _
  refine wr_aload_n rfl rfl rfl ?_
  refine wr_sipush rfl rfl (by decide) ?_
  refine wr_iconst rfl rfl ?_
  refine wr_iload_n rfl rfl rfl ?_
  refine wr_imul rfl rfl ?_
  rw [ia0]
  refine wr_iconst rfl rfl ?_
  refine wr_iload_n rfl rfl rfl ?_
  refine wr_imul rfl rfl ?_
  rw [ib0]
  refine wr_cv3 (k' := 177) (ci := 12) rfl rfl rfl rfl (by assumption) rfl rfl (mw_mul (t := 256) (a := 2 * a) (b := 2 * b) w (by decide) (by omega) (by omega) (by omega) (by omega) (by rw [a1, b1]; exact f1)) (fun r h2 q => ?_)
  obtain ⟨rfl, V2, w, s2, n2⟩ := rw_ex q
  have cO := w.cO
  refine wr_aload_n rfl rfl rfl ?_
  refine wr_sipush rfl rfl (by decide) ?_
  refine wr_iconst rfl rfl ?_
  refine wr_iload_n rfl rfl rfl ?_
  refine wr_imul rfl rfl ?_
  rw [ia0]
  refine wr_iconst rfl rfl ?_
  refine wr_iadd rfl rfl ?_
  rw [ia1]
  refine wr_iconst rfl rfl ?_
  refine wr_iload_n rfl rfl rfl ?_
  refine wr_imul rfl rfl ?_
  rw [ib0]
  refine wr_iconst rfl rfl ?_
  refine wr_iadd rfl rfl ?_
  rw [ib1]
  refine wr_cv3 (k' := 177) (ci := 12) rfl rfl rfl rfl (by assumption) rfl rfl (mw_mul (t := 257) (a := 2 * a + 1) (b := 2 * b + 1) w (by decide) (by omega) (by omega) (by omega) (by omega) (by rw [n2 _ (by omega), n2 _ (by omega), a2, b2]; exact f2)) (fun r h2 q => ?_)
  obtain ⟨rfl, V3, w, s3, n3⟩ := rw_ex q
  have cO := w.cO
  have cG := (w.setG S).1
  refine wr_aload_n rfl rfl rfl ?_
  refine wr_get (ci := 12) (f := 2) rfl rfl rfl (by assumption) rfl ?_
  refine wr_iload_n rfl rfl rfl ?_
  refine wr_aload_n rfl rfl rfl ?_
  refine wr_get (ci := 12) (f := 2) rfl rfl rfl (by assumption) rfl ?_
  refine wr_iload_n rfl rfl rfl ?_
  refine wr_iald rfl rfl (by assumption) (by omega) (by omega) ?_
  rw [Int.toNat_natCast]
  refine wr_aload_n rfl rfl rfl ?_
  refine wr_get (ci := 12) (f := 2) rfl rfl rfl (by assumption) rfl ?_
  refine wr_iload_n rfl rfl rfl ?_
  refine wr_iald rfl rfl (by assumption) (by omega) (by omega) ?_
  rw [Int.toNat_natCast]
  refine wr_imul rfl rfl ?_
  refine wr_iast rfl rfl (by assumption) (by omega) (by omega) (fun h1 e1 => ?_)
  rw [Int.toNat_natCast] at e1
  have w := e1 ▸ (w.setG (updI S f (S a * S b))).2
  clear e1
  have cO := w.cO
  refine wr_aload_n rfl rfl rfl ?_
  refine wr_iconst rfl rfl ?_
  refine wr_iload_n rfl rfl rfl ?_
  refine wr_imul rfl rfl ?_
  rw [if0]
  refine wr_sipush rfl rfl (by decide) ?_
  refine wr_cv2 (k' := 145) (ci := 12) rfl rfl rfl rfl (by assumption) rfl rfl (mw_copyNumber (a := 2 * f) (b := 256) w (by omega) (by decide) (by omega)) (fun r h2 q => ?_)
  obtain ⟨rfl, V4, w, s4, n4⟩ := rw_ex q
  have cO := w.cO
  refine wr_aload_n rfl rfl rfl ?_
  refine wr_iconst rfl rfl ?_
  refine wr_iload_n rfl rfl rfl ?_
  refine wr_imul rfl rfl ?_
  rw [if0]
  refine wr_iconst rfl rfl ?_
  refine wr_iadd rfl rfl ?_
  rw [if1]
  refine wr_sipush rfl rfl (by decide) ?_
  refine wr_cv2 (k' := 145) (ci := 12) rfl rfl rfl rfl (by assumption) rfl rfl (mw_copyNumber (a := 2 * f + 1) (b := 257) w (by omega) (by decide) (by omega)) (fun r h2 q => ?_)
  obtain ⟨rfl, V5, w, s5, n5⟩ := rw_ex q
  have cO := w.cO
  refine wr_aload_n rfl rfl rfl ?_
  refine wr_iload_n rfl rfl rfl ?_
  have d1 := (F a).den_pos
  have d2 := (F b).den_pos
  refine wr_cv1 (k' := 143) (ci := 12) rfl rfl rfl rfl (by assumption) rfl rfl (mw_reduce (u := (F a).num * (F b).num) (y := (F a).den * (F b).den) w hf (by rw [n5 _ (by omega), s4, n3 _ (by decide), s2, a1, b1, Int.natAbs_mul, Int.natCast_mul]) (by rw [s5, n4 _ (by omega), s3, n2 _ (by omega), n2 _ (by omega), a2, b2, Int.natCast_mul]) (Nat.mul_pos d1 d2) (fun _ => by rw [updI_s, a3, b3, Int.sign_mul]) (by rw [Int.natAbs_mul, Int.natCast_mul]; exact f1) (by rw [Int.natCast_mul]; exact f2)) (fun r h2 q => ?_)
  rw [fq_mul] at q
  obtain ⟨rfl, w⟩ := FW_red hF (fun n a b c => by rw [n5 _ c, n4 _ b, n3 _ (by omega), n2 _ (by omega)]) (fun g a => updI_n a) q
  refine wr_vret rfl rfl ?_
  exact ⟨rfl, w⟩
theorem fw_over {d f a b P R : Nat} (w : FW h0 h o F A) (hf : f < 125) (ha : a < 125) (hb : b < 125) (qa : qB P (F a)) (qb : qB R (F b)) (hPR : P + R ≤ 259) (nz : (F b).num ≠ 0) : am_c X (d + 5) 191 [.ref 164, .int (iI f), .int (iI a), .int (iI b)] h (fun r h' => r = none ∧ FW h0 h' o (updR F f (F a / F b)) A) := by
  obtain ⟨V, S, w, hF⟩ := w
  have cO := w.cO
  obtain ⟨a1, a2, a3⟩ := hF a ha
  obtain ⟨b1, b2, b3⟩ := hF b hb
  have if0 : 2 * (f : Int) = ((2 * f : Nat) : Int) := by omega
  have if1 : ((2 * f : Nat) : Int) + 1 = ((2 * f + 1 : Nat) : Int) := by omega
  have ia0 : 2 * (a : Int) = ((2 * a : Nat) : Int) := by omega
  have ia1 : ((2 * a : Nat) : Int) + 1 = ((2 * a + 1 : Nat) : Int) := by omega
  have ib0 : 2 * (b : Int) = ((2 * b : Nat) : Int) := by omega
  have ib1 : ((2 * b : Nat) : Int) + 1 = ((2 * b + 1 : Nat) : Int) := by omega
  have f1 := fit_mul (by omega) (by omega) qa.1 qb.2 hPR
  have f2 := fit_mul (by omega) (by omega) qa.2 qb.1 hPR
  refine am_c.of (Nat.le_of_ble_eq_true rfl) ?_
  show am_w _ _ _ (_, [_, _, _, _], _, _) _
  refine wr_aload_n rfl rfl rfl ?_
  refine wr_sipush rfl rfl (by decide) ?_
  refine wr_iconst rfl rfl ?_
  refine wr_iload_n rfl rfl rfl ?_
  refine wr_imul rfl rfl ?_
  rw [ia0]
  refine wr_iconst rfl rfl ?_
  refine wr_iload_n rfl rfl rfl ?_
  refine wr_imul rfl rfl ?_
  rw [ib0]
  refine wr_iconst rfl rfl ?_
  refine wr_iadd rfl rfl ?_
  rw [ib1]
  refine wr_cv3 (k' := 177) (ci := 12) rfl rfl rfl rfl (by assumption) rfl rfl (mw_mul (t := 256) (a := 2 * a) (b := 2 * b + 1) w (by decide) (by omega) (by omega) (by omega) (by omega) (by rw [a1, b2]; exact f1)) (fun r h2 q => ?_)
  obtain ⟨rfl, V2, w, s2, n2⟩ := rw_ex q
  have cO := w.cO
  refine wr_aload_n rfl rfl rfl ?_
  refine wr_sipush rfl rfl (by decide) ?_
  refine wr_iconst rfl rfl ?_
  refine wr_iload_n rfl rfl rfl ?_
  refine wr_imul rfl rfl ?_
  rw [ia0]
  refine wr_iconst rfl rfl ?_
  refine wr_iadd rfl rfl ?_
  rw [ia1]
  refine wr_iconst rfl rfl ?_
  refine wr_iload_n rfl rfl rfl ?_
  refine wr_imul rfl rfl ?_
  rw [ib0]
  refine wr_cv3 (k' := 177) (ci := 12) rfl rfl rfl rfl (by assumption) rfl rfl (mw_mul (t := 257) (a := 2 * a + 1) (b := 2 * b) w (by decide) (by omega) (by omega) (by omega) (by omega) (by rw [n2 _ (by omega), n2 _ (by omega), a2, b1]; exact f2)) (fun r h2 q => ?_)
  obtain ⟨rfl, V3, w, s3, n3⟩ := rw_ex q
  have cO := w.cO
  have cG := (w.setG S).1
  refine wr_aload_n rfl rfl rfl ?_
  refine wr_get (ci := 12) (f := 2) rfl rfl rfl (by assumption) rfl ?_
  refine wr_iload_n rfl rfl rfl ?_
  refine wr_aload_n rfl rfl rfl ?_
  refine wr_get (ci := 12) (f := 2) rfl rfl rfl (by assumption) rfl ?_
  refine wr_iload_n rfl rfl rfl ?_
  refine wr_iald rfl rfl (by assumption) (by omega) (by omega) ?_
  rw [Int.toNat_natCast]
  refine wr_aload_n rfl rfl rfl ?_
  refine wr_get (ci := 12) (f := 2) rfl rfl rfl (by assumption) rfl ?_
  refine wr_iload_n rfl rfl rfl ?_
  refine wr_iald rfl rfl (by assumption) (by omega) (by omega) ?_
  rw [Int.toNat_natCast]
  refine wr_imul rfl rfl ?_
  refine wr_iast rfl rfl (by assumption) (by omega) (by omega) (fun h1 e1 => ?_)
  rw [Int.toNat_natCast] at e1
  have w := e1 ▸ (w.setG (updI S f (S a * S b))).2
  clear e1
  have cO := w.cO
  refine wr_aload_n rfl rfl rfl ?_
  refine wr_iconst rfl rfl ?_
  refine wr_iload_n rfl rfl rfl ?_
  refine wr_imul rfl rfl ?_
  rw [if0]
  refine wr_sipush rfl rfl (by decide) ?_
  refine wr_cv2 (k' := 145) (ci := 12) rfl rfl rfl rfl (by assumption) rfl rfl (mw_copyNumber (a := 2 * f) (b := 256) w (by omega) (by decide) (by omega)) (fun r h2 q => ?_)
  obtain ⟨rfl, V4, w, s4, n4⟩ := rw_ex q
  have cO := w.cO
  refine wr_aload_n rfl rfl rfl ?_
  refine wr_iconst rfl rfl ?_
  refine wr_iload_n rfl rfl rfl ?_
  refine wr_imul rfl rfl ?_
  rw [if0]
  refine wr_iconst rfl rfl ?_
  refine wr_iadd rfl rfl ?_
  rw [if1]
  refine wr_sipush rfl rfl (by decide) ?_
  refine wr_cv2 (k' := 145) (ci := 12) rfl rfl rfl rfl (by assumption) rfl rfl (mw_copyNumber (a := 2 * f + 1) (b := 257) w (by omega) (by decide) (by omega)) (fun r h2 q => ?_)
  obtain ⟨rfl, V5, w, s5, n5⟩ := rw_ex q
  have cO := w.cO
  refine wr_aload_n rfl rfl rfl ?_
  refine wr_iload_n rfl rfl rfl ?_
  have d1 := (F a).den_pos
  have d2 := (F b).den_pos
  have ea : ((F a).num * (F b).den * (F b).num.sign).natAbs = (F a).num.natAbs * (F b).den := by rw [Int.natAbs_mul, Int.natAbs_sign_of_ne_zero nz, Int.natAbs_mul, Nat.mul_one]; rfl
  refine wr_cv1 (k' := 143) (ci := 12) rfl rfl rfl rfl (by assumption) rfl rfl (mw_reduce (u := (F a).num * (F b).den * (F b).num.sign) (y := (F a).den * (F b).num.natAbs) w hf (by rw [n5 _ (by omega), s4, n3 _ (by decide), s2, a1, b2, ea, Int.natCast_mul]) (by rw [s5, n4 _ (by omega), s3, n2 _ (by omega), n2 _ (by omega), a2, b1, Int.natCast_mul]) (Nat.mul_pos d1 (by omega)) (fun _ => by rw [updI_s, a3, b3, Int.sign_mul, sgn_nat _ d2, Int.sign_sign]) (by rw [ea, Int.natCast_mul]; exact f1) (by rw [Int.natCast_mul]; exact f2)) (fun r h2 q => ?_)
  rw [fq_div nz] at q
  obtain ⟨rfl, w⟩ := FW_red hF (fun n a b c => by rw [n5 _ c, n4 _ b, n3 _ (by omega), n2 _ (by omega)]) (fun g a => updI_n a) q
  refine wr_vret rfl rfl ?_
  exact ⟨rfl, w⟩
theorem fw_plus {d f a b P R : Nat} {t : Int} {c : Rat} (w : FW h0 h o F A) (hf : f < 125) (ha : a < 125) (hb : b < 125) (qa : qB P (F a)) (qb : qB R (F b)) (hPR : P + R ≤ 258) (ht : t = 1 ∨ t = -1) (cd : c.den = (F b).den) (cn : c.num = (F b).num * t) : am_c X (d + 5) 179 [.ref 164, .int (iI f), .int (iI a), .int (iI b), .int (iI t)] h (fun r h' => r = none ∧ FW h0 h' o (updR F f (F a + c)) A) := by
  obtain ⟨V, S, w, hF⟩ := w
  have cO := w.cO
  obtain ⟨a1, a2, a3⟩ := hF a ha
  obtain ⟨b1, b2, b3⟩ := hF b hb
  have if0 : 2 * (f : Int) = ((2 * f : Nat) : Int) := by omega
  have if1 : ((2 * f : Nat) : Int) + 1 = ((2 * f + 1 : Nat) : Int) := by omega
  have ia0 : 2 * (a : Int) = ((2 * a : Nat) : Int) := by omega
  have ia1 : ((2 * a : Nat) : Int) + 1 = ((2 * a + 1 : Nat) : Int) := by omega
  have ib0 : 2 * (b : Int) = ((2 * b : Nat) : Int) := by omega
  have ib1 : ((2 * b : Nat) : Int) + 1 = ((2 * b + 1 : Nat) : Int) := by omega
  have g1 := Int.lt_of_lt_of_le (bp_mul_lt (by omega) (by omega) qa.1 qb.2) (bp_mono hPR)
  have g2 := Int.lt_of_lt_of_le (bp_mul_lt (by omega) (by omega) qb.1 qa.2) (bp_mono (show R + P ≤ 258 by omega))
  have f3 := fit_mul (by omega) (by omega) qa.2 qb.2 (by omega : P + R ≤ 259)
  have B2 : (1000000000 : Int) ^ 259 = 1000000000 ^ 258 * 1000000000 := Int.pow_succ 1000000000 258
  have B3 : (1000000000 : Int) ^ 260 = 1000000000 ^ 259 * 1000000000 := Int.pow_succ 1000000000 259
  have B4 := bp_pos 258
  have d1 := (F a).den_pos
  have d2 := (F b).den_pos
  obtain ⟨x, ex⟩ : ∃ x, x = (F a).num * (F b).den := ⟨_, rfl⟩
  obtain ⟨y, ey⟩ : ∃ y, y = c.num * (F a).den := ⟨_, rfl⟩
  have cnn : c.num.natAbs = (F b).num.natAbs := by rw [cn, Int.natAbs_mul]; rcases ht with rfl | rfl <;> exact Nat.mul_one _
  have cs : c.num.sign = (F b).num.sign * t := by rw [cn, Int.sign_mul]; rcases ht with rfl | rfl <;> rfl
  have xa : (x.natAbs : Int) = (F a).num.natAbs * (F b).den := by rw [ex, Int.natAbs_mul, Int.natCast_mul]; rfl
  have ya : (y.natAbs : Int) = (F b).num.natAbs * (F a).den := by rw [ey, Int.natAbs_mul, Int.natCast_mul, cnn]; rfl
  have xs : x.sign = S a := by rw [ex, sgn_nat _ d2, a3]
  have ys : y.sign = S b * t := by rw [ey, sgn_nat _ d1, cs, b3]
  have sx := sgn_in x
  have sy := sgn_in y
  rw [← xa] at g1
  rw [← ya] at g2
  obtain ⟨ss1, ss2, ss3⟩ := sgn_sum (x := x) (y := y)
  have q0 : Rat.divInt (x + y) (((F a).den * (F b).den : Nat) : Int) = F a + c := by rw [ex, ey, ← cd]; exact fq_add (F a) c
  have xfit : ((x + y).natAbs : Int) < 1000000000 ^ 259 := by
    generalize (1000000000 : Int) ^ 258 = Bg at g1 g2 B2 B4
    generalize (1000000000 : Int) ^ 259 = Bh at B2 ⊢
    omega
  refine am_c.of (Nat.le_of_ble_eq_true rfl) ?_
  show am_w _ _ _ (_, [_, _, _, _, _, _, _], _, _) _
  refine wr_aload_n rfl rfl rfl ?_
  refine wr_sipush rfl rfl (by decide) ?_
  refine wr_iconst rfl rfl ?_
  refine wr_iload_n rfl rfl rfl ?_
  refine wr_imul rfl rfl ?_
  rw [ia0]
  refine wr_iconst rfl rfl ?_
  refine wr_iload_n rfl rfl rfl ?_
  refine wr_imul rfl rfl ?_
  rw [ib0]
  refine wr_iconst rfl rfl ?_
  refine wr_iadd rfl rfl ?_
  rw [ib1]
  refine wr_cv3 (k' := 177) (ci := 12) rfl rfl rfl rfl (by assumption) rfl rfl (mw_mul (t := 256) (a := 2 * a) (b := 2 * b + 1) w (by decide) (by omega) (by omega) (by omega) (by omega) (by rw [a1, b2, ← xa]; omega)) (fun r h2 q => ?_)
  obtain ⟨rfl, V2, w, s2, n2⟩ := rw_ex q
  rw [a1, b2, ← xa] at s2
  have cO := w.cO
  refine wr_aload_n rfl rfl rfl ?_
  refine wr_sipush rfl rfl (by decide) ?_
  refine wr_iconst rfl rfl ?_
  refine wr_iload_n rfl rfl rfl ?_
  refine wr_imul rfl rfl ?_
  rw [ib0]
  refine wr_iconst rfl rfl ?_
  refine wr_iload_n rfl rfl rfl ?_
  refine wr_imul rfl rfl ?_
  rw [ia0]
  refine wr_iconst rfl rfl ?_
  refine wr_iadd rfl rfl ?_
  rw [ia1]
  refine wr_cv3 (k' := 177) (ci := 12) rfl rfl rfl rfl (by assumption) rfl rfl (mw_mul (t := 257) (a := 2 * b) (b := 2 * a + 1) w (by decide) (by omega) (by omega) (by omega) (by omega) (by rw [n2 _ (by omega), n2 _ (by omega), b1, a2, ← ya]; omega)) (fun r h2 q => ?_)
  obtain ⟨rfl, V3, w, s3, n3⟩ := rw_ex q
  rw [n2 _ (by omega), n2 _ (by omega), b1, a2, ← ya] at s3
  have cO := w.cO
  refine wr_aload_n rfl rfl rfl ?_
  refine wr_sipush rfl rfl (by decide) ?_
  refine wr_iconst rfl rfl ?_
  refine wr_iload_n rfl rfl rfl ?_
  refine wr_imul rfl rfl ?_
  rw [ia0]
  refine wr_iconst rfl rfl ?_
  refine wr_iadd rfl rfl ?_
  rw [ia1]
  refine wr_iconst rfl rfl ?_
  refine wr_iload_n rfl rfl rfl ?_
  refine wr_imul rfl rfl ?_
  rw [ib0]
  refine wr_iconst rfl rfl ?_
  refine wr_iadd rfl rfl ?_
  rw [ib1]
  refine wr_cv3 (k' := 177) (ci := 12) rfl rfl rfl rfl (by assumption) rfl rfl (mw_mul (t := 258) (a := 2 * a + 1) (b := 2 * b + 1) w (by decide) (by omega) (by omega) (by omega) (by omega) (by rw [n3 _ (by omega), n3 _ (by omega), n2 _ (by omega), n2 _ (by omega), a2, b2]; exact f3)) (fun r h2 q => ?_)
  obtain ⟨rfl, V4, w, s4, n4⟩ := rw_ex q
  rw [n3 _ (by omega), n3 _ (by omega), n2 _ (by omega), n2 _ (by omega), a2, b2] at s4
  have t2 : V4 256 = (x.natAbs : Int) := by rw [n4 _ (by decide), n3 _ (by decide), s2]
  have t3 : V4 257 = (y.natAbs : Int) := by rw [n4 _ (by decide), s3]
  have fr : ∀ n, n < 250 → V4 n = V n := fun n hn => by rw [n4 _ (by omega), n3 _ (by omega), n2 _ (by omega)]
  clear s2 s3 n2 n3 n4
  have cO := w.cO
  have cG := (w.setG S).1
  refine wr_aload_n rfl rfl rfl ?_
  refine wr_get (ci := 12) (f := 2) rfl rfl rfl (by assumption) rfl ?_
  refine wr_iload_n rfl rfl rfl ?_
  refine wr_iald rfl rfl (by assumption) (by omega) (by omega) ?_
  rw [Int.toNat_natCast, ← xs]
  refine wr_istore (ls' := [_, _, _, _, _, _, _]) rfl rfl (Nat.le_of_ble_eq_true rfl) rfl ?_
  refine wr_aload_n rfl rfl rfl ?_
  refine wr_get (ci := 12) (f := 2) rfl rfl rfl (by assumption) rfl ?_
  refine wr_iload_n rfl rfl rfl ?_
  refine wr_iald rfl rfl (by assumption) (by omega) (by omega) ?_
  rw [Int.toNat_natCast]
  refine wr_iload rfl rfl rfl ?_
  refine wr_imul rfl rfl ?_
  rw [← ys]
  refine wr_istore (ls' := [_, _, _, _, _, _, _]) rfl rfl (Nat.le_of_ble_eq_true rfl) rfl ?_
  refine wr_iload rfl rfl rfl ?_
  refine wr_iload rfl rfl rfl ?_
  refine wr_imul rfl rfl ?_
  have E : ∀ (σ : Int) (V5 S5 : Nat → Int) (h5 : am_H), (x + y ≠ 0 → σ = (x + y).sign) → RW h0 h5 o V5 (updA A 167 (updI S f σ)) → V5 259 = ((x + y).natAbs : Int) → (∀ n, n ≠ 259 → V5 n = V4 n) → am_w X (d + 4) 179 (166, [.ref 164, .int (iI f), .int (iI a), .int (iI b), .int (iI t), .int (iI x.sign), .int (iI y.sign)], [], h5) (fun r h' => r = none ∧ FW h0 h' o (updR F f (F a + c)) A) := by
    clear cO cG w
    intro σ V5 S5 h5 hσ w s5 n5
    have cO := w.cO
    refine wr_aload_n rfl rfl rfl ?_
    refine wr_iconst rfl rfl ?_
    refine wr_iload_n rfl rfl rfl ?_
    refine wr_imul rfl rfl ?_
    rw [if0]
    refine wr_sipush rfl rfl (by decide) ?_
    refine wr_cv2 (k' := 145) (ci := 12) rfl rfl rfl rfl (by assumption) rfl rfl (mw_copyNumber (a := 2 * f) (b := 259) w (by omega) (by decide) (by omega)) (fun r h2 q => ?_)
    obtain ⟨rfl, V6, w, s6, n6⟩ := rw_ex q
    have cO := w.cO
    refine wr_aload_n rfl rfl rfl ?_
    refine wr_iconst rfl rfl ?_
    refine wr_iload_n rfl rfl rfl ?_
    refine wr_imul rfl rfl ?_
    rw [if0]
    refine wr_iconst rfl rfl ?_
    refine wr_iadd rfl rfl ?_
    rw [if1]
    refine wr_sipush rfl rfl (by decide) ?_
    refine wr_cv2 (k' := 145) (ci := 12) rfl rfl rfl rfl (by assumption) rfl rfl (mw_copyNumber (a := 2 * f + 1) (b := 258) w (by omega) (by decide) (by omega)) (fun r h2 q => ?_)
    obtain ⟨rfl, V7, w, s7, n7⟩ := rw_ex q
    have cO := w.cO
    refine wr_aload_n rfl rfl rfl ?_
    refine wr_iload_n rfl rfl rfl ?_
    refine wr_cv1 (k' := 143) (ci := 12) rfl rfl rfl rfl (by assumption) rfl rfl (mw_reduce (u := x + y) (y := (F a).den * (F b).den) w hf (by rw [n7 _ (by omega), s6, s5]) (by rw [s7, n6 _ (by omega), n5 _ (by decide), s4, Int.natCast_mul]) (Nat.mul_pos d1 d2) (fun q => by rw [updI_s, hσ q]) xfit (by rw [Int.natCast_mul]; exact f3)) (fun r h2 q => ?_)
    rw [q0] at q
    obtain ⟨rfl, w⟩ := FW_red hF (fun n a b c => by rw [n7 _ c, n6 _ b, n5 _ (by omega), fr n a]) (fun g a => updI_n a) q
    refine wr_vret rfl rfl ?_
    exact ⟨rfl, w⟩
  have pm : -1 ≤ x.sign * y.sign ∧ x.sign * y.sign ≤ 1 := by
    have h1 : x.sign = -1 ∨ x.sign = 0 ∨ x.sign = 1 := by omega
    rcases h1 with z | z | z <;> rw [z] <;> omega
  by_cases sg : 0 ≤ x.sign * y.sign
  ·
    refine wr_if_lt rfl rfl rfl (by omega) (fun c71 => by exfalso; omega) (fun c71 => ?_)
    refine wr_aload_n rfl rfl rfl ?_
    refine wr_sipush rfl rfl (by decide) ?_
    refine wr_sipush rfl rfl (by decide) ?_
    refine wr_sipush rfl rfl (by decide) ?_
    refine wr_cv3 (k' := 151) (ci := 12) rfl rfl rfl rfl (by assumption) rfl rfl (mw_add (t := 259) (a := 256) (b := 257) w (by decide) (by decide) (by decide) (by rw [t2, t3]; omega)) (fun r h2 q => ?_)
    obtain ⟨rfl, V5, w, s5, n5⟩ := rw_ex q
    rw [t2, t3, ← ss1 sg] at s5
    have cO := w.cO
    have cG := (w.setG S).1
    have G : ∀ σ : Int, (x + y ≠ 0 → σ = (x + y).sign) → am_w X (d + 4) 179 (104, [.ref 164, .int (iI f), .int (iI a), .int (iI b), .int (iI t), .int (iI x.sign), .int (iI y.sign)], [.int (iI σ), .int (iI f), .ref 167], h2) (fun r h' => r = none ∧ FW h0 h' o (updR F f (F a + c)) A) := by
      intro σ hσ
      refine wr_iast rfl rfl (by assumption) (by omega) (by omega) (fun h1 e1 => ?_)
      rw [Int.toNat_natCast] at e1
      have w := e1 ▸ (w.setG (updI S f σ)).2
      clear e1
      refine wr_goto rfl rfl ?_
      exact E σ V5 S _ hσ w s5 n5
    by_cases x0 : x.sign = 0
    ·
      refine wr_aload_n rfl rfl rfl ?_
      refine wr_get (ci := 12) (f := 2) rfl rfl rfl (by assumption) rfl ?_
      refine wr_iload_n rfl rfl rfl ?_
      refine wr_iload rfl rfl rfl ?_
      refine wr_if_ne rfl rfl rfl (by omega) (fun c94 => by exfalso; omega) (fun c94 => ?_)
      refine wr_iload rfl rfl rfl ?_
      refine wr_goto rfl rfl ?_
      exact G _ (fun _ => by rw [sx.2.2.1.mp x0, Int.zero_add])
    ·
      refine wr_aload_n rfl rfl rfl ?_
      refine wr_get (ci := 12) (f := 2) rfl rfl rfl (by assumption) rfl ?_
      refine wr_iload_n rfl rfl rfl ?_
      refine wr_iload rfl rfl rfl ?_
      refine wr_if_ne rfl rfl rfl (by omega) (fun c94 => ?_) (fun c94 => by exfalso; omega)
      refine wr_iload rfl rfl rfl ?_
      refine G _ (fun q => ?_)
      rw [ss3 q]
      split
      · rfl
      · by_cases y0 : y.sign = 0
        · have := sy.2.2.1.mp y0; omega
        · have h1 : x.sign = -1 ∨ x.sign = 1 := by omega
          have h2 : y.sign = -1 ∨ y.sign = 1 := by omega
          rcases h1 with z | z <;> rcases h2 with z' | z' <;> rw [z, z'] at sg ⊢ <;> omega
  · have ss2 := ss2 (by omega)
    refine wr_if_lt rfl rfl rfl (by omega) (fun c71 => ?_) (fun c71 => by exfalso; omega)
    refine wr_aload_n rfl rfl rfl ?_
    refine wr_sipush rfl rfl (by decide) ?_
    refine wr_sipush rfl rfl (by decide) ?_
    refine wr_cv2 (k' := 149) (ci := 12) rfl rfl rfl rfl (by assumption) rfl rfl (mw_compare (a := 256) (b := 257) w (by decide) (by decide)) (fun r h2 q => ?_)
    obtain ⟨rfl, rfl⟩ := q
    have cc := cmpI_cases (V4 256) (V4 257)
    by_cases ge : (y.natAbs : Int) ≤ x.natAbs
    ·
      rw [if_pos ge] at ss2 ss3
      refine wr_if_lt rfl rfl rfl (by omega) (fun c118 => by exfalso; omega) (fun c118 => ?_)
      refine wr_aload_n rfl rfl rfl ?_
      refine wr_sipush rfl rfl (by decide) ?_
      refine wr_sipush rfl rfl (by decide) ?_
      refine wr_sipush rfl rfl (by decide) ?_
      refine wr_cv3 (k' := 150) (ci := 12) rfl rfl rfl rfl (by assumption) rfl rfl (mw_take (t := 259) (a := 256) (b := 257) w (by decide) (by decide) (by decide) (by omega)) (fun r h2 q => ?_)
      obtain ⟨rfl, V5, w, s5, n5⟩ := rw_ex q
      rw [t2, t3, ← ss2] at s5
      have cO := w.cO
      have cG := (w.setG S).1
      refine wr_aload_n rfl rfl rfl ?_
      refine wr_get (ci := 12) (f := 2) rfl rfl rfl (by assumption) rfl ?_
      refine wr_iload_n rfl rfl rfl ?_
      refine wr_iload rfl rfl rfl ?_
      refine wr_iast rfl rfl (by assumption) (by omega) (by omega) (fun h1 e1 => ?_)
      rw [Int.toNat_natCast] at e1
      have w := e1 ▸ (w.setG (updI S f x.sign)).2
      clear e1
      refine wr_goto rfl rfl ?_
      exact E _ V5 S _ (fun q => (ss3 q).symm) w s5 n5
    ·
      rw [if_neg ge] at ss2 ss3
      refine wr_if_lt rfl rfl rfl (by omega) (fun c118 => ?_) (fun c118 => by exfalso; omega)
      refine wr_aload_n rfl rfl rfl ?_
      refine wr_sipush rfl rfl (by decide) ?_
      refine wr_sipush rfl rfl (by decide) ?_
      refine wr_sipush rfl rfl (by decide) ?_
      refine wr_cv3 (k' := 150) (ci := 12) rfl rfl rfl rfl (by assumption) rfl rfl (mw_take (t := 259) (a := 257) (b := 256) w (by decide) (by decide) (by decide) (by omega)) (fun r h2 q => ?_)
      obtain ⟨rfl, V5, w, s5, n5⟩ := rw_ex q
      rw [t2, t3, ← ss2] at s5
      have cO := w.cO
      have cG := (w.setG S).1
      refine wr_aload_n rfl rfl rfl ?_
      refine wr_get (ci := 12) (f := 2) rfl rfl rfl (by assumption) rfl ?_
      refine wr_iload_n rfl rfl rfl ?_
      refine wr_iload rfl rfl rfl ?_
      refine wr_iast rfl rfl (by assumption) (by omega) (by omega) (fun h1 e1 => ?_)
      rw [Int.toNat_natCast] at e1
      have w := e1 ▸ (w.setG (updI S f y.sign)).2
      clear e1
      exact E _ V5 S _ (fun q => (ss3 q).symm) w s5 n5
theorem FW.cO (w : FW h0 h o F A) : h[164]? = some (mCell o) := by
  obtain ⟨V, S, w, -⟩ := w
  exact w.cO
theorem fw_add {d f a b P R : Nat} (w : FW h0 h o F A) (hf : f < 125) (ha : a < 125) (hb : b < 125) (qa : qB P (F a)) (qb : qB R (F b)) (hPR : P + R ≤ 258) : am_c X (d + 6) 178 [.ref 164, .int (iI f), .int (iI a), .int (iI b)] h (fun r h' => r = none ∧ FW h0 h' o (updR F f (F a + F b)) A) := by
  have cO := w.cO
  refine am_c.of (Nat.le_of_ble_eq_true rfl) ?_
  show am_w _ _ _ (_, [_, _, _, _], _, _) _
  refine wr_aload_n rfl rfl rfl ?_
  refine wr_iload_n rfl rfl rfl ?_
  refine wr_iload_n rfl rfl rfl ?_
  refine wr_iload_n rfl rfl rfl ?_
  refine wr_iconst rfl rfl ?_
  refine wr_cv4 (k' := 179) (ci := 12) rfl rfl rfl rfl (by assumption) rfl rfl (fw_plus (c := F b) (t := 1) w hf ha hb qa qb hPR (Or.inl rfl) rfl (by omega)) (fun r h2 q => ?_)
  obtain ⟨rfl, w⟩ := q
  refine wr_vret rfl rfl ?_
  exact ⟨rfl, w⟩
theorem fw_take {d f a b P R : Nat} (w : FW h0 h o F A) (hf : f < 125) (ha : a < 125) (hb : b < 125) (qa : qB P (F a)) (qb : qB R (F b)) (hPR : P + R ≤ 258) : am_c X (d + 6) 181 [.ref 164, .int (iI f), .int (iI a), .int (iI b)] h (fun r h' => r = none ∧ FW h0 h' o (updR F f (F a - F b)) A) := by
  have cO := w.cO
  refine am_c.of (Nat.le_of_ble_eq_true rfl) ?_
  show am_w _ _ _ (_, [_, _, _, _], _, _) _
  refine wr_aload_n rfl rfl rfl ?_
  refine wr_iload_n rfl rfl rfl ?_
  refine wr_iload_n rfl rfl rfl ?_
  refine wr_iload_n rfl rfl rfl ?_
  refine wr_iconst rfl rfl ?_
  refine wr_cv4 (k' := 179) (ci := 12) rfl rfl rfl rfl (by assumption) rfl rfl (fw_plus (c := -F b) (t := -1) w hf ha hb qa qb hPR (Or.inr rfl) (Rat.neg_den _) (by rw [Rat.neg_num]; omega)) (fun r h2 q => ?_)
  obtain ⟨rfl, w⟩ := q
  rw [← Rat.sub_eq_add_neg] at w
  refine wr_vret rfl rfl ?_
  exact ⟨rfl, w⟩
theorem fw_compare {d a b P R : Nat} (w : FW h0 h o F A) (ha : a < 125) (hb : b < 125) (qa : qB P (F a)) (qb : qB R (F b)) (hPR : P + R ≤ 259) : am_c X (d + 3) 186 [.ref 164, .int (iI a), .int (iI b)] h (fun r h' => (∃ c : Int, r = some (.int (iI c)) ∧ (-1 ≤ c ∧ c ≤ 1) ∧ (c < 0 ↔ F a < F b) ∧ (0 < c ↔ F b < F a)) ∧ FW h0 h' o F A) := by
  have w0 := w
  obtain ⟨V, S, w, hF⟩ := w
  have cO := w.cO
  have cG := (w.setG S).1
  obtain ⟨a1, a2, a3⟩ := hF a ha
  obtain ⟨b1, b2, b3⟩ := hF b hb
  have ia0 : 2 * (a : Int) = ((2 * a : Nat) : Int) := by omega
  have ia1 : ((2 * a : Nat) : Int) + 1 = ((2 * a + 1 : Nat) : Int) := by omega
  have ib0 : 2 * (b : Int) = ((2 * b : Nat) : Int) := by omega
  have ib1 : ((2 * b : Nat) : Int) + 1 = ((2 * b + 1 : Nat) : Int) := by omega
  have f1 := fit_mul (by omega) (by omega) qa.1 qb.2 hPR
  have f2 := fit_mul (by omega) (by omega) qb.1 qa.2 (by omega : R + P ≤ 259)
  have d1 := (F a).den_pos
  have d2 := (F b).den_pos
  rw [fq_lt, fq_lt]
  obtain ⟨x, ex⟩ : ∃ x, x = (F a).num * (F b).den := ⟨_, rfl⟩
  obtain ⟨y, ey⟩ : ∃ y, y = (F b).num * (F a).den := ⟨_, rfl⟩
  have xa : (x.natAbs : Int) = (F a).num.natAbs * (F b).den := by rw [ex, Int.natAbs_mul, Int.natCast_mul]; rfl
  have ya : (y.natAbs : Int) = (F b).num.natAbs * (F a).den := by rw [ey, Int.natAbs_mul, Int.natCast_mul]; rfl
  have xs : S a = x.sign := by rw [ex, sgn_nat _ d2, a3]
  have ys : S b = y.sign := by rw [ey, sgn_nat _ d1, b3]
  have sx := sgn_in x
  have sy := sgn_in y
  rw [← ex, ← ey]
  rw [← xa] at f1
  rw [← ya] at f2
  refine am_c.of (Nat.le_of_ble_eq_true rfl) ?_
  show am_w _ _ _ (_, [_, _, _, _], _, _) _
  by_cases e : x.sign = y.sign
  ·
    refine wr_aload_n rfl rfl rfl ?_
    refine wr_get (ci := 12) (f := 2) rfl rfl rfl (by assumption) rfl ?_
    refine wr_iload_n rfl rfl rfl ?_
    refine wr_iald rfl rfl (by assumption) (by omega) (by omega) ?_
    rw [Int.toNat_natCast, xs]
    refine wr_aload_n rfl rfl rfl ?_
    refine wr_get (ci := 12) (f := 2) rfl rfl rfl (by assumption) rfl ?_
    refine wr_iload_n rfl rfl rfl ?_
    refine wr_iald rfl rfl (by assumption) (by omega) (by omega) ?_
    rw [Int.toNat_natCast, ys]
    refine wr_icmp_eq rfl rfl rfl (by omega) (by omega) (fun c12 => ?_) (fun c12 => by exfalso; omega)
    refine wr_aload_n rfl rfl rfl ?_
    refine wr_sipush rfl rfl (by decide) ?_
    refine wr_iconst rfl rfl ?_
    refine wr_iload_n rfl rfl rfl ?_
    refine wr_imul rfl rfl ?_
    rw [ia0]
    refine wr_iconst rfl rfl ?_
    refine wr_iload_n rfl rfl rfl ?_
    refine wr_imul rfl rfl ?_
    rw [ib0]
    refine wr_iconst rfl rfl ?_
    refine wr_iadd rfl rfl ?_
    rw [ib1]
    refine wr_cv3 (k' := 177) (ci := 12) rfl rfl rfl rfl (by assumption) rfl rfl (mw_mul (t := 256) (a := 2 * a) (b := 2 * b + 1) w (by decide) (by omega) (by omega) (by omega) (by omega) (by rw [a1, b2, ← xa]; exact f1)) (fun r h2 q => ?_)
    obtain ⟨rfl, V2, w, s2, n2⟩ := rw_ex q
    rw [a1, b2, ← xa] at s2
    have cO := w.cO
    refine wr_aload_n rfl rfl rfl ?_
    refine wr_sipush rfl rfl (by decide) ?_
    refine wr_iconst rfl rfl ?_
    refine wr_iload_n rfl rfl rfl ?_
    refine wr_imul rfl rfl ?_
    rw [ib0]
    refine wr_iconst rfl rfl ?_
    refine wr_iload_n rfl rfl rfl ?_
    refine wr_imul rfl rfl ?_
    rw [ia0]
    refine wr_iconst rfl rfl ?_
    refine wr_iadd rfl rfl ?_
    rw [ia1]
    refine wr_cv3 (k' := 177) (ci := 12) rfl rfl rfl rfl (by assumption) rfl rfl (mw_mul (t := 257) (a := 2 * b) (b := 2 * a + 1) w (by decide) (by omega) (by omega) (by omega) (by omega) (by rw [n2 _ (by omega), n2 _ (by omega), b1, a2, ← ya]; exact f2)) (fun r h2 q => ?_)
    obtain ⟨rfl, V3, w, s3, n3⟩ := rw_ex q
    rw [n2 _ (by omega), n2 _ (by omega), b1, a2, ← ya] at s3
    have t2 : V3 256 = (x.natAbs : Int) := by rw [n3 _ (by decide), s2]
    have hF3 : ∀ g, g < 125 → isQ V3 S g (F g) := fun g hg => by
      obtain ⟨a, b, c⟩ := hF g hg
      exact ⟨by rw [n3 _ (by omega), n2 _ (by omega), a], by rw [n3 _ (by omega), n2 _ (by omega), b], c⟩
    have cO := w.cO
    have cG := (w.setG S).1
    refine wr_aload_n rfl rfl rfl ?_
    refine wr_sipush rfl rfl (by decide) ?_
    refine wr_sipush rfl rfl (by decide) ?_
    refine wr_cv2 (k' := 149) (ci := 12) rfl rfl rfl rfl (by assumption) rfl rfl (mw_compare (a := 256) (b := 257) w (by decide) (by decide)) (fun r h2 q => ?_)
    obtain ⟨rfl, rfl⟩ := q
    have cc := cmpI_cases (V3 256) (V3 257)
    rw [t2, s3] at cc ⊢
    by_cases ng : x.sign < 0
    ·
      refine wr_istore_n (ls' := [_, _, _, _]) rfl rfl (Nat.le_of_ble_eq_true rfl) rfl ?_
      refine wr_aload_n rfl rfl rfl ?_
      refine wr_get (ci := 12) (f := 2) rfl rfl rfl (by assumption) rfl ?_
      refine wr_iload_n rfl rfl rfl ?_
      refine wr_iald rfl rfl (by assumption) (by omega) (by omega) ?_
      rw [Int.toNat_natCast, xs]
      refine wr_if_ge rfl rfl rfl (by omega) (fun c83 => by exfalso; omega) (fun c83 => ?_)
      refine wr_iload_n rfl rfl rfl ?_
      refine wr_ineg rfl rfl ?_
      refine wr_goto rfl rfl ?_
      refine wr_iret rfl rfl ?_
      refine ⟨⟨_, rfl, by omega, by omega, by omega⟩, V3, S, w, hF3⟩
    ·
      refine wr_istore_n (ls' := [_, _, _, _]) rfl rfl (Nat.le_of_ble_eq_true rfl) rfl ?_
      refine wr_aload_n rfl rfl rfl ?_
      refine wr_get (ci := 12) (f := 2) rfl rfl rfl (by assumption) rfl ?_
      refine wr_iload_n rfl rfl rfl ?_
      refine wr_iald rfl rfl (by assumption) (by omega) (by omega) ?_
      rw [Int.toNat_natCast, xs]
      refine wr_if_ge rfl rfl rfl (by omega) (fun c83 => ?_) (fun c83 => by exfalso; omega)
      refine wr_iload_n rfl rfl rfl ?_
      refine wr_iret rfl rfl ?_
      refine ⟨⟨_, rfl, by omega, by omega, by omega⟩, V3, S, w, hF3⟩
  · by_cases lt : x.sign < y.sign
    ·
      refine wr_aload_n rfl rfl rfl ?_
      refine wr_get (ci := 12) (f := 2) rfl rfl rfl (by assumption) rfl ?_
      refine wr_iload_n rfl rfl rfl ?_
      refine wr_iald rfl rfl (by assumption) (by omega) (by omega) ?_
      rw [Int.toNat_natCast, xs]
      refine wr_aload_n rfl rfl rfl ?_
      refine wr_get (ci := 12) (f := 2) rfl rfl rfl (by assumption) rfl ?_
      refine wr_iload_n rfl rfl rfl ?_
      refine wr_iald rfl rfl (by assumption) (by omega) (by omega) ?_
      rw [Int.toNat_natCast, ys]
      refine wr_icmp_eq rfl rfl rfl (by omega) (by omega) (fun c12 => by exfalso; omega) (fun c12 => ?_)
      refine wr_aload_n rfl rfl rfl ?_
      refine wr_get (ci := 12) (f := 2) rfl rfl rfl (by assumption) rfl ?_
      refine wr_iload_n rfl rfl rfl ?_
      refine wr_iald rfl rfl (by assumption) (by omega) (by omega) ?_
      rw [Int.toNat_natCast, xs]
      refine wr_aload_n rfl rfl rfl ?_
      refine wr_get (ci := 12) (f := 2) rfl rfl rfl (by assumption) rfl ?_
      refine wr_iload_n rfl rfl rfl ?_
      refine wr_iald rfl rfl (by assumption) (by omega) (by omega) ?_
      rw [Int.toNat_natCast, ys]
      refine wr_icmp_ge rfl rfl rfl (by omega) (by omega) (fun c27 => by exfalso; omega) (fun c27 => ?_)
      refine wr_iconst rfl rfl ?_
      refine wr_goto rfl rfl ?_
      refine wr_iret rfl rfl ?_
      exact ⟨⟨-1, rfl, by omega, by omega, by omega⟩, w0⟩
    ·
      refine wr_aload_n rfl rfl rfl ?_
      refine wr_get (ci := 12) (f := 2) rfl rfl rfl (by assumption) rfl ?_
      refine wr_iload_n rfl rfl rfl ?_
      refine wr_iald rfl rfl (by assumption) (by omega) (by omega) ?_
      rw [Int.toNat_natCast, xs]
      refine wr_aload_n rfl rfl rfl ?_
      refine wr_get (ci := 12) (f := 2) rfl rfl rfl (by assumption) rfl ?_
      refine wr_iload_n rfl rfl rfl ?_
      refine wr_iald rfl rfl (by assumption) (by omega) (by omega) ?_
      rw [Int.toNat_natCast, ys]
      refine wr_icmp_eq rfl rfl rfl (by omega) (by omega) (fun c12 => by exfalso; omega) (fun c12 => ?_)
      refine wr_aload_n rfl rfl rfl ?_
      refine wr_get (ci := 12) (f := 2) rfl rfl rfl (by assumption) rfl ?_
      refine wr_iload_n rfl rfl rfl ?_
      refine wr_iald rfl rfl (by assumption) (by omega) (by omega) ?_
      rw [Int.toNat_natCast, xs]
      refine wr_aload_n rfl rfl rfl ?_
      refine wr_get (ci := 12) (f := 2) rfl rfl rfl (by assumption) rfl ?_
      refine wr_iload_n rfl rfl rfl ?_
      refine wr_iald rfl rfl (by assumption) (by omega) (by omega) ?_
      rw [Int.toNat_natCast, ys]
      refine wr_icmp_ge rfl rfl rfl (by omega) (by omega) (fun c27 => ?_) (fun c27 => by exfalso; omega)
      refine wr_iconst rfl rfl ?_
      refine wr_iret rfl rfl ?_
      exact ⟨⟨1, rfl, by omega, by omega, by omega⟩, w0⟩
theorem mw_digits {d n k : Nat} (w : RW h0 h o V A) (hn : n < 260) (hk : k < 130) : am_c X (d + 1) 197 [.ref 164, .int (iI n), .int (iI k)] h (fun r h' => r = some (.long (lI (V n / 1000000000 ^ (2 * k) % 1000000000000000000))) ∧ h' = h) := by
  obtain ⟨l, s, w, R⟩ := w
  obtain ⟨m, k1, k2, k3, k4⟩ := R n hn
  have cO := w.ob
  have cL := w.li
  have cS := w.sz
  rw [← k4, nv_two k3.1]
  have ix : 260 * (n : Int) + 2 * (k : Int) = ((260 * n + 2 * k : Nat) : Int) := by omega
  have ix1 : 260 * (n : Int) + 2 * (k : Int) + 1 = ((260 * n + (2 * k + 1) : Nat) : Int) := by omega
  have v0 : l (260 * n + 2 * k) = blk l n (2 * k) := rfl
  have v1 : l (260 * n + (2 * k + 1)) = blk l n (2 * k + 1) := rfl
  refine am_c.of (Nat.le_of_ble_eq_true rfl) ?_
  show am_w _ _ _ (_, [_, _, _, _, _, _, _], _, _) _
  by_cases c1 : 2 * k < m
  · have d0 := k3.1 _ c1
    rw [if_pos c1]
    by_cases c2 : 2 * k + 1 < m
    · have d1 := k3.1 _ c2
      rw [if_pos c2]
      refine wr_iconst rfl rfl ?_
      refine wr_iload_n rfl rfl rfl ?_
      refine wr_imul rfl rfl ?_
      refine wr_aload_n rfl rfl rfl ?_
      refine wr_get (ci := 12) (f := 1) rfl rfl rfl (by assumption) rfl ?_
      refine wr_iload_n rfl rfl rfl ?_
      refine wr_iald rfl rfl (by assumption) (by omega) (by omega) ?_
      rw [Int.toNat_natCast, k1]
      refine wr_icmp_ge rfl rfl rfl (by omega) (by omega) (fun c9 => by exfalso; omega) (fun c9 => ?_)
      refine wr_aload_n rfl rfl rfl ?_
      refine wr_get (ci := 12) (f := 0) rfl rfl rfl (by assumption) rfl ?_
      refine wr_sipush rfl rfl (by decide) ?_
      refine wr_iload_n rfl rfl rfl ?_
      refine wr_imul rfl rfl ?_
      refine wr_iconst rfl rfl ?_
      refine wr_iload_n rfl rfl rfl ?_
      refine wr_imul rfl rfl ?_
      refine wr_iadd rfl rfl ?_
      rw [ix]
      refine wr_iald rfl rfl (by assumption) (by omega) (by omega) ?_
      rw [Int.toNat_natCast, v0]
      refine wr_i2l rfl rfl (by omega) ?_
      refine wr_goto rfl rfl ?_
      refine wr_lstore_n (ls' := [_, _, _, _, _, _, _]) rfl rfl (Nat.le_of_ble_eq_true rfl) rfl ?_
      refine wr_iconst rfl rfl ?_
      refine wr_iload_n rfl rfl rfl ?_
      refine wr_imul rfl rfl ?_
      refine wr_iconst rfl rfl ?_
      refine wr_iadd rfl rfl ?_
      refine wr_aload_n rfl rfl rfl ?_
      refine wr_get (ci := 12) (f := 1) rfl rfl rfl (by assumption) rfl ?_
      refine wr_iload_n rfl rfl rfl ?_
      refine wr_iald rfl rfl (by assumption) (by omega) (by omega) ?_
      rw [Int.toNat_natCast, k1]
      refine wr_icmp_ge rfl rfl rfl (by omega) (by omega) (fun c43 => by exfalso; omega) (fun c43 => ?_)
      refine wr_aload_n rfl rfl rfl ?_
      refine wr_get (ci := 12) (f := 0) rfl rfl rfl (by assumption) rfl ?_
      refine wr_sipush rfl rfl (by decide) ?_
      refine wr_iload_n rfl rfl rfl ?_
      refine wr_imul rfl rfl ?_
      refine wr_iconst rfl rfl ?_
      refine wr_iload_n rfl rfl rfl ?_
      refine wr_imul rfl rfl ?_
      refine wr_iadd rfl rfl ?_
      refine wr_iconst rfl rfl ?_
      refine wr_iadd rfl rfl ?_
      rw [ix1]
      refine wr_iald rfl rfl (by assumption) (by omega) (by omega) ?_
      rw [Int.toNat_natCast, v1]
      refine wr_i2l rfl rfl (by omega) ?_
      refine wr_goto rfl rfl ?_
      refine wr_lstore (ls' := [_, _, _, _, _, _, _]) rfl rfl (Nat.le_of_ble_eq_true rfl) rfl ?_
      refine wr_lload rfl rfl rfl ?_
      refine wr_ldc2 (z := 1000000000) rfl rfl rfl (by decide) ?_
      refine wr_lmul rfl rfl ?_
      refine wr_lload_n rfl rfl rfl ?_
      refine wr_ladd rfl rfl ?_
      refine wr_lret rfl rfl ?_
      exact ⟨by rw [Int.add_comm], rfl⟩
    ·
      rw [if_neg c2]
      refine wr_iconst rfl rfl ?_
      refine wr_iload_n rfl rfl rfl ?_
      refine wr_imul rfl rfl ?_
      refine wr_aload_n rfl rfl rfl ?_
      refine wr_get (ci := 12) (f := 1) rfl rfl rfl (by assumption) rfl ?_
      refine wr_iload_n rfl rfl rfl ?_
      refine wr_iald rfl rfl (by assumption) (by omega) (by omega) ?_
      rw [Int.toNat_natCast, k1]
      refine wr_icmp_ge rfl rfl rfl (by omega) (by omega) (fun c9 => by exfalso; omega) (fun c9 => ?_)
      refine wr_aload_n rfl rfl rfl ?_
      refine wr_get (ci := 12) (f := 0) rfl rfl rfl (by assumption) rfl ?_
      refine wr_sipush rfl rfl (by decide) ?_
      refine wr_iload_n rfl rfl rfl ?_
      refine wr_imul rfl rfl ?_
      refine wr_iconst rfl rfl ?_
      refine wr_iload_n rfl rfl rfl ?_
      refine wr_imul rfl rfl ?_
      refine wr_iadd rfl rfl ?_
      rw [ix]
      refine wr_iald rfl rfl (by assumption) (by omega) (by omega) ?_
      rw [Int.toNat_natCast, v0]
      refine wr_i2l rfl rfl (by omega) ?_
      refine wr_goto rfl rfl ?_
      refine wr_lstore_n (ls' := [_, _, _, _, _, _, _]) rfl rfl (Nat.le_of_ble_eq_true rfl) rfl ?_
      refine wr_iconst rfl rfl ?_
      refine wr_iload_n rfl rfl rfl ?_
      refine wr_imul rfl rfl ?_
      refine wr_iconst rfl rfl ?_
      refine wr_iadd rfl rfl ?_
      refine wr_aload_n rfl rfl rfl ?_
      refine wr_get (ci := 12) (f := 1) rfl rfl rfl (by assumption) rfl ?_
      refine wr_iload_n rfl rfl rfl ?_
      refine wr_iald rfl rfl (by assumption) (by omega) (by omega) ?_
      rw [Int.toNat_natCast, k1]
      refine wr_icmp_ge rfl rfl rfl (by omega) (by omega) (fun c43 => ?_) (fun c43 => by exfalso; omega)
      refine wr_lconst (z := 0) rfl rfl rfl ?_
      refine wr_lstore (ls' := [_, _, _, _, _, _, _]) rfl rfl (Nat.le_of_ble_eq_true rfl) rfl ?_
      refine wr_lload rfl rfl rfl ?_
      refine wr_ldc2 (z := 1000000000) rfl rfl rfl (by decide) ?_
      refine wr_lmul rfl rfl ?_
      refine wr_lload_n rfl rfl rfl ?_
      refine wr_ladd rfl rfl ?_
      refine wr_lret rfl rfl ?_
      exact ⟨by rw [Int.add_comm], rfl⟩
  ·
    rw [if_neg c1, if_neg (by omega)]
    refine wr_iconst rfl rfl ?_
    refine wr_iload_n rfl rfl rfl ?_
    refine wr_imul rfl rfl ?_
    refine wr_aload_n rfl rfl rfl ?_
    refine wr_get (ci := 12) (f := 1) rfl rfl rfl (by assumption) rfl ?_
    refine wr_iload_n rfl rfl rfl ?_
    refine wr_iald rfl rfl (by assumption) (by omega) (by omega) ?_
    rw [Int.toNat_natCast, k1]
    refine wr_icmp_ge rfl rfl rfl (by omega) (by omega) (fun c9 => ?_) (fun c9 => by exfalso; omega)
    refine wr_lconst (z := 0) rfl rfl rfl ?_
    refine wr_lstore_n (ls' := [_, _, _, _, _, _, _]) rfl rfl (Nat.le_of_ble_eq_true rfl) rfl ?_
    refine wr_iconst rfl rfl ?_
    refine wr_iload_n rfl rfl rfl ?_
    refine wr_imul rfl rfl ?_
    refine wr_iconst rfl rfl ?_
    refine wr_iadd rfl rfl ?_
    refine wr_aload_n rfl rfl rfl ?_
    refine wr_get (ci := 12) (f := 1) rfl rfl rfl (by assumption) rfl ?_
    refine wr_iload_n rfl rfl rfl ?_
    refine wr_iald rfl rfl (by assumption) (by omega) (by omega) ?_
    rw [Int.toNat_natCast, k1]
    refine wr_icmp_ge rfl rfl rfl (by omega) (by omega) (fun c43 => ?_) (fun c43 => by exfalso; omega)
    refine wr_lconst (z := 0) rfl rfl rfl ?_
    refine wr_lstore (ls' := [_, _, _, _, _, _, _]) rfl rfl (Nat.le_of_ble_eq_true rfl) rfl ?_
    refine wr_lload rfl rfl rfl ?_
    refine wr_ldc2 (z := 1000000000) rfl rfl rfl (by decide) ?_
    refine wr_lmul rfl rfl ?_
    refine wr_lload_n rfl rfl rfl ?_
    refine wr_ladd rfl rfl ?_
    refine wr_lret rfl rfl ?_
    exact ⟨rfl, rfl⟩
theorem fw_tell {d f : Nat} {part : Int} (w : FW h0 h o F A) (hf : f < 125) (hp : -2147483648 ≤ part ∧ part ≤ 2147483647) : am_c X (d + 2) 196 [.ref 164, .int (iI f), .int (iI part)] h (fun r h' => r = some (.long (lI (tellP (F f) 1 part))) ∧ h' = h) := by
  obtain ⟨V, S, w, hF⟩ := w
  obtain ⟨a1, a2, a3⟩ := hF f hf
  have cO := w.cO
  have cG := (w.setG S).1
  have sg := sgn_in (F f).num
  unfold tellP
  refine am_c.of (Nat.le_of_ble_eq_true rfl) ?_
  show am_w _ _ _ (_, [_, _, _], _, _) _
  by_cases c1 : part < -1
  ·
    rw [if_pos c1]
    refine wr_iload_n rfl rfl rfl ?_
    refine wr_iconst rfl rfl ?_
    refine wr_icmp_ge rfl rfl rfl (by omega) (by omega) (fun c2 => by exfalso; omega) (fun c2 => ?_)
    refine wr_ldc2 (z := -1) rfl rfl rfl (by decide) ?_
    refine wr_lret rfl rfl ?_
    exact ⟨rfl, rfl⟩
  by_cases c2 : part = -1
  ·
    rw [if_neg c1, if_pos c2, Int.mul_one]
    refine wr_iload_n rfl rfl rfl ?_
    refine wr_iconst rfl rfl ?_
    refine wr_icmp_ge rfl rfl rfl (by omega) (by omega) (fun c2 => ?_) (fun c2 => by exfalso; omega)
    refine wr_iload_n rfl rfl rfl ?_
    refine wr_iconst rfl rfl ?_
    refine wr_icmp_ne rfl rfl rfl (by omega) (by omega) (fun c11 => by exfalso; omega) (fun c11 => ?_)
    refine wr_aload_n rfl rfl rfl ?_
    refine wr_get (ci := 12) (f := 2) rfl rfl rfl (by assumption) rfl ?_
    refine wr_iload_n rfl rfl rfl ?_
    refine wr_iald rfl rfl (by assumption) (by omega) (by omega) ?_
    rw [Int.toNat_natCast, a3]
    refine wr_i2l rfl rfl (by omega) ?_
    refine wr_lret rfl rfl ?_
    exact ⟨rfl, rfl⟩
  rw [if_neg c1, if_neg c2]
  obtain ⟨n, en⟩ : ∃ n : Nat, n = 2 * f + (part % 2).toNat := ⟨_, rfl⟩
  have vn : (if part % 2 = 0 then ((F f).num.natAbs : Int) else ((F f).den : Int)) = V n := by
    split
    · rw [en, ← a1]; congr 1; omega
    · rw [en, ← a2]; congr 1; omega
  rw [vn]
  by_cases c3 : 130 ≤ part / 2
  · have z : V n / 1000000000 ^ (2 * (part / 2).toNat) = 0 := by
      refine Int.ediv_eq_zero_of_lt (w.nn (by omega)) ?_
      obtain ⟨l, s, w, R⟩ := w
      obtain ⟨k, k1, k2, k3, k4⟩ := R n (by omega)
      rw [← k4]
      exact Int.lt_of_lt_of_le (nv_nonneg k3.1).2 (bp_mono (by omega))
    rw [z]
    refine wr_iload_n rfl rfl rfl ?_
    refine wr_iconst rfl rfl ?_
    refine wr_icmp_ge rfl rfl rfl (by omega) (by omega) (fun c2 => ?_) (fun c2 => by exfalso; omega)
    refine wr_iload_n rfl rfl rfl ?_
    refine wr_iconst rfl rfl ?_
    refine wr_icmp_ne rfl rfl rfl (by omega) (by omega) (fun c11 => ?_) (fun c11 => by exfalso; omega)
    refine wr_iload_n rfl rfl rfl ?_
    refine wr_iconst rfl rfl ?_
    refine wr_idivN rfl rfl (by omega) (by omega) (by omega) (by omega) ?_
    refine wr_sipush rfl rfl (by decide) ?_
    refine wr_icmp_lt rfl rfl rfl (by omega) (by omega) (fun c28 => by exfalso; omega) (fun c28 => ?_)
    refine wr_lconst (z := 0) rfl rfl rfl ?_
    refine wr_goto rfl rfl ?_
    refine wr_lret rfl rfl ?_
    exact ⟨rfl, rfl⟩
  ·
    refine wr_iload_n rfl rfl rfl ?_
    refine wr_iconst rfl rfl ?_
    refine wr_icmp_ge rfl rfl rfl (by omega) (by omega) (fun c2 => ?_) (fun c2 => by exfalso; omega)
    refine wr_iload_n rfl rfl rfl ?_
    refine wr_iconst rfl rfl ?_
    refine wr_icmp_ne rfl rfl rfl (by omega) (by omega) (fun c11 => ?_) (fun c11 => by exfalso; omega)
    refine wr_iload_n rfl rfl rfl ?_
    refine wr_iconst rfl rfl ?_
    refine wr_idivN rfl rfl (by omega) (by omega) (by omega) (by omega) ?_
    refine wr_sipush rfl rfl (by decide) ?_
    refine wr_icmp_lt rfl rfl rfl (by omega) (by omega) (fun c28 => ?_) (fun c28 => by exfalso; omega)
    refine wr_aload_n rfl rfl rfl ?_
    refine wr_iconst rfl rfl ?_
    refine wr_iload_n rfl rfl rfl ?_
    refine wr_imul rfl rfl ?_
    refine wr_iload_n rfl rfl rfl ?_
    refine wr_iconst rfl rfl ?_
    refine wr_iremN rfl rfl (by omega) (by omega) (by omega) (by omega) ?_
    refine wr_iadd rfl rfl ?_
    refine wr_iload_n rfl rfl rfl ?_
    refine wr_iconst rfl rfl ?_
    refine wr_idivN rfl rfl (by omega) (by omega) (by omega) (by omega) ?_
    rw [show 2 * (f : Int) + part % 2 = (n : Int) by omega, show part / 2 = ((part / 2).toNat : Int) by omega]
    refine wr_cv2 (k' := 197) (ci := 12) rfl rfl rfl rfl (by assumption) rfl rfl (mw_digits (n := n) (k := (part / 2).toNat) w (by omega) (by omega)) (fun r h2 q => ?_)
    obtain ⟨rfl, rfl⟩ := q
    refine wr_lret rfl rfl ?_
    exact ⟨rfl, rfl⟩
end RF5
