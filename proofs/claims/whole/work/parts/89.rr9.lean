/-! THE REFERENCE WALKS: walls, slopes -/
section RRK
variable {X : Nat × (Nat → Int32)} {h0 h h' : am_H} {o o' o'' : Nat → Int} {A A' A'' : Nat → Nat → Int} {F F' : Nat → Rat} {n : Nat} {off lev : Nat → Int} {sg out high : Int}
/-- what an ending corner leaves -/
def ceS (o : Nat → Int) (F : Nat → Rat) (A : Nat → Nat → Int) (i N : Nat) (c : Int) (xo xl : Rat) (o' : Nat → Int) (F' : Nat → Rat) (A' : Nat → Nat → Int) : Prop := (o' 32 = ((N + 1 : Nat) : Int) ∧ o' 33 = 1 ∧ ∀ j, j ≠ 32 → j ≠ 33 → j ≠ 34 → j ≠ 35 → j ≠ 36 → o' j = o j) ∧ (A' 178 = updI (A 178) i c ∧ ∀ j, j ≠ 178 → A' j = A j) ∧ (F' i = xo ∧ F' (26 + i) = xl ∧ ∀ f, f ≠ i → f ≠ 26 + i → f ≠ 94 → f ≠ 95 → F' f = F f)
def ceQ (h0 : am_H) (o : Nat → Int) (F : Nat → Rat) (A : Nat → Nat → Int) (i N : Nat) (c : Int) (xo xl : Rat) : Option Value → am_H → Prop := fun r h' => r = none ∧ ∃ o' F' A', FW h0 h' o' F' A' ∧ ceS o F A i N c xo xl o' F' A'
theorem wall_q {U L high : Int} (hL : 0 < L) : (high : Rat) / 1000 - Rat.divInt (-(1000 * U - high * L)) (1000 * L) = Rat.divInt U L := by
  rw [divQ, divQ]
  have gp : (0 : Rat) < L := q_pos hL
  have e1 : ((1000 * L : Int) : Rat) = 1000 * (L : Rat) := by grind
  have e2 : ((-(1000 * U - high * L) : Int) : Rat) = -(1000 * (U : Rat) - high * L) := by grind
  rw [e1, e2]
  grind
theorem rr_wall {d ax N : Nat} (w : FW h0 h o F A) (g : RG n off lev o A) (ok : okG n off lev) (hs : sg = 1 ∨ sg = -1) (e25 : o 25 = (ax : Int)) (e32 : o 32 = (N : Int)) (e29 : o 29 = sg) (e30 : o 30 = out) (e31 : o 31 = high) (ho : 0 ≤ out ∧ out ≤ 2000000) (hh : -200000000000 ≤ high ∧ high ≤ 200000000000) (hN : ax + 1 + N ≤ 24) : am_c X (d + 7) 180 [.ref 164] h (ceQ h0 o F A (ax + 1 + N) N 5 ((sg * out : Int) : Rat) (Rat.divInt (gU n off lev (sg * out)) (gL n off (sg * out)))) := by
  have gi := gapS_in (n := n) (off := off) (lev := lev) (sg := sg) (ou := out) (hi := high) ok hh
  have li := gL_in (n := n) (off := off) (lev := lev) (o := sg * out) ok
  have cO := w.cO
  have ei : (ax : Int) + 1 + (N : Int) = ((ax + 1 + N : Nat) : Int) := by omega
  have ei2 : (26 : Int) + ((ax + 1 + N : Nat) : Int) = ((26 + (ax + 1 + N) : Nat) : Int) := by omega
  have wq := wall_q (U := gU n off lev (sg * out)) (L := gL n off (sg * out)) (high := high) (by omega)
  rw [← wq]
  clear wq
  refine am_c.of (Nat.le_of_ble_eq_true rfl) ?_
  show am_w _ _ _ (_, [_, _, _, _], _, _) _
  refine wr_aload_n rfl rfl rfl ?_
  refine wr_cv0 (k' := 173) (ci := 12) rfl rfl rfl rfl (by assumption) rfl rfl (rr_above w g ok hs e29 e30 e31 ho) (fun r h2 q => ?_)
  obtain ⟨rfl, o2, w, s2, n2⟩ := q
  have cO := w.cO
  have e25 : o2 25 = (ax : Int) := by rw [n2 25 (by decide) (by decide) (by decide), e25]
  have e32 : o2 32 = (N : Int) := by rw [n2 32 (by decide) (by decide) (by decide), e32]
  have e29 : o2 29 = sg := by rw [n2 29 (by decide) (by decide) (by decide), e29]
  have e30 : o2 30 = out := by rw [n2 30 (by decide) (by decide) (by decide), e30]
  have e31 : o2 31 = high := by rw [n2 31 (by decide) (by decide) (by decide), e31]
  refine wr_lstore_n (ls' := [_, _, _, _]) rfl rfl (Nat.le_of_ble_eq_true rfl) rfl ?_
  refine wr_aload_n rfl rfl rfl ?_
  refine wr_get (ci := 12) (f := 25) rfl rfl rfl (by assumption) rfl ?_
  rw [e25]
  refine wr_iconst rfl rfl ?_
  refine wr_iadd rfl rfl ?_
  refine wr_aload_n rfl rfl rfl ?_
  refine wr_get (ci := 12) (f := 32) rfl rfl rfl (by assumption) rfl ?_
  rw [e32]
  refine wr_iadd rfl rfl ?_
  rw [ei]
  refine wr_istore_n (ls' := [_, _, _, _]) rfl rfl (Nat.le_of_ble_eq_true rfl) rfl ?_
  refine wr_aload_n rfl rfl rfl ?_
  refine wr_iconst rfl rfl ?_
  refine wr_cv1 (k' := 171) (ci := 12) rfl rfl rfl rfl (by assumption) rfl rfl (rr_cornI (c := 5) w hs e25 e32 e29 e30 e31 ho hh hN) (fun r h2 q => ?_)
  obtain ⟨rfl, o3, F3, A3, w, ⟨s3, n3⟩, ⟨sA, nA⟩, f1, f2, fn⟩ := q
  have cO := w.cO
  have s36 : o3 36 = gL n off (sg * out) := by rw [n3 36 (by decide), s2]
  have eG : gapS n off lev sg out high = 1000 * gU n off lev (sg * out) - high * gL n off (sg * out) := rfl
  obtain ⟨i, hi⟩ : ∃ i, i = ax + 1 + N := ⟨_, rfl⟩
  rw [← hi] at hN ei ei2 f1 f2 fn sA ⊢
  obtain ⟨G, eG2⟩ : ∃ G, G = gapS n off lev sg out high := ⟨_, rfl⟩
  rw [← eG2] at gi eG ⊢
  rw [← eG]
  obtain ⟨L, eL⟩ : ∃ L, L = gL n off (sg * out) := ⟨_, rfl⟩
  rw [← eL] at li s36 ⊢
  clear eG eG2 eL
  refine wr_aload_n rfl rfl rfl ?_
  refine wr_bipush rfl rfl (by decide) ?_
  refine wr_lload_n rfl rfl rfl ?_
  refine wr_ldc2 (z := 1000) rfl rfl rfl (by decide) ?_
  refine wr_aload_n rfl rfl rfl ?_
  refine wr_get (ci := 12) (f := 36) rfl rfl rfl (by assumption) rfl ?_
  rw [s36]
  refine wr_lmul rfl rfl ?_
  refine wr_cv3 (k' := 140) (ci := 12) rfl rfl rfl rfl (by assumption) rfl rfl (fw_set (f := 94) (u := -G) (v := 1000 * L) w (by decide) (by omega) (by omega) (by omega)) (fun r h2 q => ?_)
  obtain ⟨rfl, w⟩ := q
  obtain ⟨F4, w, s4, m4⟩ := ff_ex w
  have cO := w.cO
  have qa : qB 3 (F4 (26 + i)) := by
    rw [m4 (26 + i) (by omega), f2, show (high : Rat) / 1000 = Rat.divInt high 1000 from (divQ high 1000).symm]
    exact qB.long (by omega) (by decide)
  have qb : qB 3 (F4 94) := by
    rw [s4]
    exact qB.long (by omega) (by omega)
  refine wr_aload_n rfl rfl rfl ?_
  refine wr_bipush rfl rfl (by decide) ?_
  refine wr_iload_n rfl rfl rfl ?_
  refine wr_iadd rfl rfl ?_
  rw [ei2]
  refine wr_bipush rfl rfl (by decide) ?_
  refine wr_iload_n rfl rfl rfl ?_
  refine wr_iadd rfl rfl ?_
  rw [ei2]
  refine wr_bipush rfl rfl (by decide) ?_
  refine wr_cv3 (k' := 181) (ci := 12) rfl rfl rfl rfl (by assumption) rfl rfl (fw_take (f := 26 + i) (a := 26 + i) (b := 94) w (by omega) (by omega) (by decide) qa qb (by decide)) (fun r h2 q => ?_)
  obtain ⟨rfl, w⟩ := q
  obtain ⟨F5, w, s5, m5⟩ := ff_ex w
  have cO := w.cO
  refine wr_aload_n rfl rfl rfl ?_
  refine wr_iconst rfl rfl ?_
  refine wr_putZ (ci := 12) (f := 33) (fs' := [_, _, _, _, _, _, _, _, _, _, _, _, _, _, _, _, _, _, _, _, _, _, _, _, _, _, _, _, _, _, _, _, _, _, _, _, _, _, _]) rfl rfl rfl (by assumption) rfl rfl (by decide) rfl (fun h1 e1 => ?_)
  have w : FW h0 h1 (updI o3 33 (1)) F5 A3 := by rw [e1]; exact w.setO (updI o3 33 (1))
  clear e1
  obtain ⟨o4, w, t4, n4⟩ := fo_ex w
  have cO := w.cO
  refine wr_vret rfl rfl ?_
  refine ⟨rfl, o4, F5, A3, w, ⟨?_, t4, fun j a b c d e => ?_⟩, ⟨sA, nA⟩, ?_, ?_, fun f a b c d => ?_⟩
  · rw [n4 32 (by decide), s3]
  · rw [n4 j b, n3 j a, n2 j c d e]
  · rw [m5 i (by omega), m4 i (by omega), f1]
  · rw [s5, m4 (26 + i) (by omega), f2, s4]
  · rw [m5 f b, m4 f c, fn f a b]
/-- is point j above the slope's line? -/
theorem bey_i {u out v high up ov P R : Int} (eP : P = high * ov + 1 * 1000 * up * (u - out)) (eR : R = 1000 * v * ov) : 1 * ov * (1000 * v - high) - 1000 * up * (u - out) = R - P := by grind
theorem bey_n {u out v high up ov P R : Int} (eP : P = high * ov + -1 * 1000 * up * (u - out)) (eR : R = 1000 * v * ov) : -1 * ov * (1000 * v - high) - 1000 * up * (u - out) = P - R := by grind
theorem rr_isBeyond {d j : Nat} {way up ov : Int} (w : FW h0 h o F A) (g : RG n off lev o A) (ok : okG n off lev) (hs : sg = 1 ∨ sg = -1) (e29 : o 29 = sg) (e30 : o 30 = out) (e31 : o 31 = high) (ho : 0 ≤ out ∧ out ≤ 2000000) (hh : -200000000000 ≤ high ∧ high ≤ 200000000000) (hj : j < n) (hw : way = 1 ∨ way = -1) (hu : 0 < up ∧ up ≤ 99999) (hv : 0 < ov ∧ ov ≤ 99999) : am_c X (d + 1) 175 [.ref 164, .int (iI (ixO n sg j : Nat)), .int (iI way), .int (iI up), .int (iI ov)] h (fun r h' => r = some (.int (iI (b2 (0 < lfS n off lev sg out high way up ov j)))) ∧ h' = h) := by
  have cO := w.cO
  have cA := w.arr (p := 175) (n := 12) (by decide) (by decide)
  have cB := w.arr (p := 176) (n := 12) (by decide) (by decide)
  have il := ixO_lt (sg := sg) hj
  have n12 := ok.1
  have ui := uO_in (j := j) ok hs
  have vi := vO_in (j := j) (sg := sg) ok
  have eu : uO n off sg j = sg * off (ixO n sg j) := rfl
  have ev : vO n lev sg j = lev (ixO n sg j) := rfl
  have oi := ok.2.1 (ixO n sg j)
  unfold lfS
  obtain ⟨g1, g2⟩ := g.2 (ixO n sg j) il
  obtain ⟨i, hi⟩ : ∃ i, i = ixO n sg j := ⟨_, rfl⟩
  rw [← hi] at il eu ev g1 g2 oi ⊢
  obtain ⟨u, hu2⟩ : ∃ u, u = uO n off sg j := ⟨_, rfl⟩
  obtain ⟨v, hv2⟩ : ∃ v, v = vO n lev sg j := ⟨_, rfl⟩
  rw [← hu2] at ui eu ⊢
  rw [← hv2] at vi ev ⊢
  obtain ⟨P, eP⟩ : ∃ P, P = high * ov + way * 1000 * up * (u - out) := ⟨_, rfl⟩
  obtain ⟨R, eR⟩ : ∃ R, R = 1000 * v * ov := ⟨_, rfl⟩
  have m1 := mulB (a := high) (b := ov) (A := 200000000000) (B := 99999) hh (by omega)
  have m2 := mulB (a := 1000 * v) (b := ov) (A := 100000000) (B := 99999) (by omega) (by omega)
  have m3 := mulB (a := way * 1000 * up) (b := u - out) (A := 99999000) (B := 2100000) (by rcases hw with rfl | rfl <;> omega) (by omega)
  rw [← eR] at m2
  generalize hq : way * 1000 * up * (u - out) = Q at eP m3
  generalize hq2 : high * ov = Q2 at eP m1
  have rP : -100000000000000000 ≤ P ∧ P ≤ 100000000000000000 := by omega
  rw [← hq, ← hq2] at eP
  clear m1 m3 hq hq2
  refine am_c.of (Nat.le_of_ble_eq_true rfl) ?_
  show am_w _ _ _ (_, [_, _, _, _, _, _, _, _, _, _, _], _, _) _
  rcases hw with rfl | rfl
  ·
    rw [bey_i eP eR]
    by_cases c : 0 < R - P
    ·
      rw [b2_t c]
      refine wr_aload_n rfl rfl rfl ?_
      refine wr_get (ci := 12) (f := 29) rfl rfl rfl (by assumption) rfl ?_
      rw [e29]
      refine wr_i2l rfl rfl (by omega) ?_
      refine wr_aload_n rfl rfl rfl ?_
      refine wr_get (ci := 12) (f := 17) rfl rfl rfl (by assumption) rfl ?_
      refine wr_iload_n rfl rfl rfl ?_
      refine wr_iald rfl rfl (by assumption) (by omega) (by omega) ?_
      rw [Int.toNat_natCast, g1]
      refine wr_i2l rfl rfl (by omega) ?_
      refine wr_lmul rfl rfl ?_
      rw [← eu]
      refine wr_aload_n rfl rfl rfl ?_
      refine wr_get (ci := 12) (f := 30) rfl rfl rfl (by assumption) rfl ?_
      rw [e30]
      refine wr_lsub rfl rfl ?_
      refine wr_lstore (ls' := [_, _, _, _, _, _, _, _, _, _, _]) rfl rfl (Nat.le_of_ble_eq_true rfl) rfl ?_
      refine wr_aload_n rfl rfl rfl ?_
      refine wr_get (ci := 12) (f := 31) rfl rfl rfl (by assumption) rfl ?_
      rw [e31]
      refine wr_iload rfl rfl rfl ?_
      refine wr_i2l rfl rfl (by omega) ?_
      refine wr_lmul rfl rfl ?_
      refine wr_iload_n rfl rfl rfl ?_
      refine wr_i2l rfl rfl (by omega) ?_
      refine wr_ldc2 (z := 1000) rfl rfl rfl (by decide) ?_
      refine wr_lmul rfl rfl ?_
      refine wr_iload_n rfl rfl rfl ?_
      refine wr_i2l rfl rfl (by omega) ?_
      refine wr_lmul rfl rfl ?_
      refine wr_lload rfl rfl rfl ?_
      refine wr_lmul rfl rfl ?_
      refine wr_ladd rfl rfl ?_
      rw [← eP]
      refine wr_lstore (ls' := [_, _, _, _, _, _, _, _, _, _, _]) rfl rfl (Nat.le_of_ble_eq_true rfl) rfl ?_
      refine wr_ldc2 (z := 1000) rfl rfl rfl (by decide) ?_
      refine wr_aload_n rfl rfl rfl ?_
      refine wr_get (ci := 12) (f := 18) rfl rfl rfl (by assumption) rfl ?_
      refine wr_iload_n rfl rfl rfl ?_
      refine wr_iald rfl rfl (by assumption) (by omega) (by omega) ?_
      rw [Int.toNat_natCast, g2, ← ev]
      refine wr_i2l rfl rfl (by omega) ?_
      refine wr_lmul rfl rfl ?_
      refine wr_iload rfl rfl rfl ?_
      refine wr_i2l rfl rfl (by omega) ?_
      refine wr_lmul rfl rfl ?_
      rw [← eR]
      refine wr_lstore (ls' := [_, _, _, _, _, _, _, _, _, _, _]) rfl rfl (Nat.le_of_ble_eq_true rfl) rfl ?_
      refine wr_iload_n rfl rfl rfl ?_
      refine wr_if_ge rfl rfl rfl (by omega) (fun c61 => ?_) (fun c61 => by exfalso; omega)
      refine wr_lload rfl rfl rfl ?_
      refine wr_lload rfl rfl rfl ?_
      refine wr_l_ge rfl rfl rfl rfl rfl (by omega) (by omega) (fun c84 => by exfalso; omega) (fun c84 => ?_)
      refine wr_iconst rfl rfl ?_
      refine wr_goto rfl rfl ?_
      refine wr_zret rfl rfl (by decide) ?_
      exact ⟨rfl, rfl⟩
    ·
      rw [b2_f c]
      refine wr_aload_n rfl rfl rfl ?_
      refine wr_get (ci := 12) (f := 29) rfl rfl rfl (by assumption) rfl ?_
      rw [e29]
      refine wr_i2l rfl rfl (by omega) ?_
      refine wr_aload_n rfl rfl rfl ?_
      refine wr_get (ci := 12) (f := 17) rfl rfl rfl (by assumption) rfl ?_
      refine wr_iload_n rfl rfl rfl ?_
      refine wr_iald rfl rfl (by assumption) (by omega) (by omega) ?_
      rw [Int.toNat_natCast, g1]
      refine wr_i2l rfl rfl (by omega) ?_
      refine wr_lmul rfl rfl ?_
      rw [← eu]
      refine wr_aload_n rfl rfl rfl ?_
      refine wr_get (ci := 12) (f := 30) rfl rfl rfl (by assumption) rfl ?_
      rw [e30]
      refine wr_lsub rfl rfl ?_
      refine wr_lstore (ls' := [_, _, _, _, _, _, _, _, _, _, _]) rfl rfl (Nat.le_of_ble_eq_true rfl) rfl ?_
      refine wr_aload_n rfl rfl rfl ?_
      refine wr_get (ci := 12) (f := 31) rfl rfl rfl (by assumption) rfl ?_
      rw [e31]
      refine wr_iload rfl rfl rfl ?_
      refine wr_i2l rfl rfl (by omega) ?_
      refine wr_lmul rfl rfl ?_
      refine wr_iload_n rfl rfl rfl ?_
      refine wr_i2l rfl rfl (by omega) ?_
      refine wr_ldc2 (z := 1000) rfl rfl rfl (by decide) ?_
      refine wr_lmul rfl rfl ?_
      refine wr_iload_n rfl rfl rfl ?_
      refine wr_i2l rfl rfl (by omega) ?_
      refine wr_lmul rfl rfl ?_
      refine wr_lload rfl rfl rfl ?_
      refine wr_lmul rfl rfl ?_
      refine wr_ladd rfl rfl ?_
      rw [← eP]
      refine wr_lstore (ls' := [_, _, _, _, _, _, _, _, _, _, _]) rfl rfl (Nat.le_of_ble_eq_true rfl) rfl ?_
      refine wr_ldc2 (z := 1000) rfl rfl rfl (by decide) ?_
      refine wr_aload_n rfl rfl rfl ?_
      refine wr_get (ci := 12) (f := 18) rfl rfl rfl (by assumption) rfl ?_
      refine wr_iload_n rfl rfl rfl ?_
      refine wr_iald rfl rfl (by assumption) (by omega) (by omega) ?_
      rw [Int.toNat_natCast, g2, ← ev]
      refine wr_i2l rfl rfl (by omega) ?_
      refine wr_lmul rfl rfl ?_
      refine wr_iload rfl rfl rfl ?_
      refine wr_i2l rfl rfl (by omega) ?_
      refine wr_lmul rfl rfl ?_
      rw [← eR]
      refine wr_lstore (ls' := [_, _, _, _, _, _, _, _, _, _, _]) rfl rfl (Nat.le_of_ble_eq_true rfl) rfl ?_
      refine wr_iload_n rfl rfl rfl ?_
      refine wr_if_ge rfl rfl rfl (by omega) (fun c61 => ?_) (fun c61 => by exfalso; omega)
      refine wr_lload rfl rfl rfl ?_
      refine wr_lload rfl rfl rfl ?_
      refine wr_l_ge rfl rfl rfl rfl rfl (by omega) (by omega) (fun c84 => ?_) (fun c84 => by exfalso; omega)
      refine wr_iconst rfl rfl ?_
      refine wr_zret rfl rfl (by decide) ?_
      exact ⟨rfl, rfl⟩
  ·
    rw [bey_n eP eR]
    by_cases c : 0 < P - R
    ·
      rw [b2_t c]
      refine wr_aload_n rfl rfl rfl ?_
      refine wr_get (ci := 12) (f := 29) rfl rfl rfl (by assumption) rfl ?_
      rw [e29]
      refine wr_i2l rfl rfl (by omega) ?_
      refine wr_aload_n rfl rfl rfl ?_
      refine wr_get (ci := 12) (f := 17) rfl rfl rfl (by assumption) rfl ?_
      refine wr_iload_n rfl rfl rfl ?_
      refine wr_iald rfl rfl (by assumption) (by omega) (by omega) ?_
      rw [Int.toNat_natCast, g1]
      refine wr_i2l rfl rfl (by omega) ?_
      refine wr_lmul rfl rfl ?_
      rw [← eu]
      refine wr_aload_n rfl rfl rfl ?_
      refine wr_get (ci := 12) (f := 30) rfl rfl rfl (by assumption) rfl ?_
      rw [e30]
      refine wr_lsub rfl rfl ?_
      refine wr_lstore (ls' := [_, _, _, _, _, _, _, _, _, _, _]) rfl rfl (Nat.le_of_ble_eq_true rfl) rfl ?_
      refine wr_aload_n rfl rfl rfl ?_
      refine wr_get (ci := 12) (f := 31) rfl rfl rfl (by assumption) rfl ?_
      rw [e31]
      refine wr_iload rfl rfl rfl ?_
      refine wr_i2l rfl rfl (by omega) ?_
      refine wr_lmul rfl rfl ?_
      refine wr_iload_n rfl rfl rfl ?_
      refine wr_i2l rfl rfl (by omega) ?_
      refine wr_ldc2 (z := 1000) rfl rfl rfl (by decide) ?_
      refine wr_lmul rfl rfl ?_
      refine wr_iload_n rfl rfl rfl ?_
      refine wr_i2l rfl rfl (by omega) ?_
      refine wr_lmul rfl rfl ?_
      refine wr_lload rfl rfl rfl ?_
      refine wr_lmul rfl rfl ?_
      refine wr_ladd rfl rfl ?_
      rw [← eP]
      refine wr_lstore (ls' := [_, _, _, _, _, _, _, _, _, _, _]) rfl rfl (Nat.le_of_ble_eq_true rfl) rfl ?_
      refine wr_ldc2 (z := 1000) rfl rfl rfl (by decide) ?_
      refine wr_aload_n rfl rfl rfl ?_
      refine wr_get (ci := 12) (f := 18) rfl rfl rfl (by assumption) rfl ?_
      refine wr_iload_n rfl rfl rfl ?_
      refine wr_iald rfl rfl (by assumption) (by omega) (by omega) ?_
      rw [Int.toNat_natCast, g2, ← ev]
      refine wr_i2l rfl rfl (by omega) ?_
      refine wr_lmul rfl rfl ?_
      refine wr_iload rfl rfl rfl ?_
      refine wr_i2l rfl rfl (by omega) ?_
      refine wr_lmul rfl rfl ?_
      rw [← eR]
      refine wr_lstore (ls' := [_, _, _, _, _, _, _, _, _, _, _]) rfl rfl (Nat.le_of_ble_eq_true rfl) rfl ?_
      refine wr_iload_n rfl rfl rfl ?_
      refine wr_if_ge rfl rfl rfl (by omega) (fun c61 => by exfalso; omega) (fun c61 => ?_)
      refine wr_lload rfl rfl rfl ?_
      refine wr_lload rfl rfl rfl ?_
      refine wr_l_le rfl rfl rfl rfl rfl (by omega) (by omega) (fun c68 => by exfalso; omega) (fun c68 => ?_)
      refine wr_iconst rfl rfl ?_
      refine wr_goto rfl rfl ?_
      refine wr_zret rfl rfl (by decide) ?_
      exact ⟨rfl, rfl⟩
    ·
      rw [b2_f c]
      refine wr_aload_n rfl rfl rfl ?_
      refine wr_get (ci := 12) (f := 29) rfl rfl rfl (by assumption) rfl ?_
      rw [e29]
      refine wr_i2l rfl rfl (by omega) ?_
      refine wr_aload_n rfl rfl rfl ?_
      refine wr_get (ci := 12) (f := 17) rfl rfl rfl (by assumption) rfl ?_
      refine wr_iload_n rfl rfl rfl ?_
      refine wr_iald rfl rfl (by assumption) (by omega) (by omega) ?_
      rw [Int.toNat_natCast, g1]
      refine wr_i2l rfl rfl (by omega) ?_
      refine wr_lmul rfl rfl ?_
      rw [← eu]
      refine wr_aload_n rfl rfl rfl ?_
      refine wr_get (ci := 12) (f := 30) rfl rfl rfl (by assumption) rfl ?_
      rw [e30]
      refine wr_lsub rfl rfl ?_
      refine wr_lstore (ls' := [_, _, _, _, _, _, _, _, _, _, _]) rfl rfl (Nat.le_of_ble_eq_true rfl) rfl ?_
      refine wr_aload_n rfl rfl rfl ?_
      refine wr_get (ci := 12) (f := 31) rfl rfl rfl (by assumption) rfl ?_
      rw [e31]
      refine wr_iload rfl rfl rfl ?_
      refine wr_i2l rfl rfl (by omega) ?_
      refine wr_lmul rfl rfl ?_
      refine wr_iload_n rfl rfl rfl ?_
      refine wr_i2l rfl rfl (by omega) ?_
      refine wr_ldc2 (z := 1000) rfl rfl rfl (by decide) ?_
      refine wr_lmul rfl rfl ?_
      refine wr_iload_n rfl rfl rfl ?_
      refine wr_i2l rfl rfl (by omega) ?_
      refine wr_lmul rfl rfl ?_
      refine wr_lload rfl rfl rfl ?_
      refine wr_lmul rfl rfl ?_
      refine wr_ladd rfl rfl ?_
      rw [← eP]
      refine wr_lstore (ls' := [_, _, _, _, _, _, _, _, _, _, _]) rfl rfl (Nat.le_of_ble_eq_true rfl) rfl ?_
      refine wr_ldc2 (z := 1000) rfl rfl rfl (by decide) ?_
      refine wr_aload_n rfl rfl rfl ?_
      refine wr_get (ci := 12) (f := 18) rfl rfl rfl (by assumption) rfl ?_
      refine wr_iload_n rfl rfl rfl ?_
      refine wr_iald rfl rfl (by assumption) (by omega) (by omega) ?_
      rw [Int.toNat_natCast, g2, ← ev]
      refine wr_i2l rfl rfl (by omega) ?_
      refine wr_lmul rfl rfl ?_
      refine wr_iload rfl rfl rfl ?_
      refine wr_i2l rfl rfl (by omega) ?_
      refine wr_lmul rfl rfl ?_
      rw [← eR]
      refine wr_lstore (ls' := [_, _, _, _, _, _, _, _, _, _, _]) rfl rfl (Nat.le_of_ble_eq_true rfl) rfl ?_
      refine wr_iload_n rfl rfl rfl ?_
      refine wr_if_ge rfl rfl rfl (by omega) (fun c61 => by exfalso; omega) (fun c61 => ?_)
      refine wr_lload rfl rfl rfl ?_
      refine wr_lload rfl rfl rfl ?_
      refine wr_l_le rfl rfl rfl rfl rfl (by omega) (by omega) (fun c68 => ?_) (fun c68 => by exfalso; omega)
      refine wr_iconst rfl rfl ?_
      refine wr_goto rfl rfl ?_
      refine wr_zret rfl rfl (by decide) ?_
      exact ⟨rfl, rfl⟩
end RRK
