/-! THE REFERENCE WALKS: slopes -/
section RSA
variable {X : Nat × (Nat → Int32)} {h0 h h' : am_H} {o o3 : Nat → Int} {A A3 : Nat → Nat → Int} {F F3 : Nat → Rat} {n : Nat} {off lev : Nat → Int} {sg out high way up ov : Int} {e : Rat}
def ixI (n : Nat) (sg : Int) (j : Nat) : Int := if sg = 1 then (j : Int) else (n : Int) - 1 - j
theorem ixI_lt {j : Nat} (h : j < n) : ixI n sg j = ((ixO n sg j : Nat) : Int) := by unfold ixI ixO; split <;> omega
theorem ixI_next {j : Nat} (hs : sg = 1 ∨ sg = -1) : ixI n sg j + sg = ixI n sg (j + 1) := by
  unfold ixI
  rcases hs with rfl | rfl
  · rw [if_pos rfl, if_pos rfl]; omega
  · rw [if_neg (by decide), if_neg (by decide)]; omega
theorem ixI_1 {j : Nat} : ixI n 1 j = (j : Int) := if_pos rfl
theorem ixI_m {j : Nat} : ixI n (-1) j = (n : Int) - 1 - j := if_neg (by decide)
theorem qB.longN {u L : Int} (h1 : -9223372036854775807 ≤ u ∧ u ≤ 9223372036854775807) (h2 : -9223372036854775807 ≤ L ∧ L ≤ 9223372036854775807) (h0 : L ≠ 0) : qB 3 (Rat.divInt u L) := by
  by_cases c : 0 < L
  · exact qB.long (by omega) (by omega)
  · have e : Rat.divInt u L = Rat.divInt (-u) (-L) := by
      rw [divQ, divQ]
      have l0 : ((-L : Int) : Rat) = -(L : Rat) := by grind
      have u0 : ((-u : Int) : Rat) = -(u : Rat) := by grind
      have lp : (0 : Rat) < ((-L : Int) : Rat) := q_pos (by omega)
      rw [l0] at lp
      rw [l0, u0]
      grind
    rw [e]
    exact qB.long (by omega) (by omega)
set_option maxRecDepth 4000 in
theorem rr_slopeD {d i : Nat} {F7 : Nat → Rat} {x3 x4 x7 x8 x9 x10 x11 x12 x13 x14 x15 x16 x17 x18 : Value} (w : FW h0 h o3 F7 A3) (hs : sg = 1 ∨ sg = -1) (hi : i ≤ 24) (v5 : F7 94 = e - out) (q5 : qB (3 + 3) (F7 94)) (s7 : F7 95 = (sg : Rat) * (e - out)) (q7 : qB (3 + (3 + 3)) (F7 95)) (f1 : F7 i = ((sg * out : Int) : Rat)) (f2 : F7 (26 + i) = (high : Rat) / 1000) (ho : 0 ≤ out ∧ out ≤ 2000000) (hh : -200000000000 ≤ high ∧ high ≤ 200000000000) (hw : way = 1 ∨ way = -1) (hu : 0 < up ∧ up ≤ 99999) (hv : 0 < ov ∧ ov ≤ 99999) : am_w X (d + 6) 172 (443, [.ref 164, .int (iI up), .int (iI ov), x3, x4, .int (iI i), .int (iI way), x7, x8, x9, x10, x11, x12, x13, x14, x15, x16, x17, x18], [], h) (fun r h' => r = none ∧ ∃ F', FW h0 h' o3 F' A3 ∧ F' i = (sg : Rat) * e ∧ F' (26 + i) = (high : Rat) / 1000 + ((way * up : Int) : Rat) / ov * (e - out) ∧ ∀ f, f ≠ i → f ≠ 26 + i → f ≠ 94 → f ≠ 95 → F' f = F7 f) := by
  have cO := w.cO
  have wu : -99999 ≤ way * up ∧ way * up ≤ 99999 := by rcases hw with rfl | rfl <;> omega
  have ei0 : (0 : Int) + (i : Int) = (i : Int) := by omega
  have ei2 : (26 : Int) + (i : Int) = ((26 + i : Nat) : Int) := by omega
  have hx : -2000000 ≤ sg * out ∧ sg * out ≤ 2000000 := by rcases hs with rfl | rfl <;> omega
  have q7' : qB 3 (F7 i) := by
    rw [f1, ← div1Q]
    exact qB.long (by omega) (by decide)
  refine wr_aload_n rfl rfl rfl ?_
  refine wr_iconst rfl rfl ?_
  refine wr_iload rfl rfl rfl ?_
  refine wr_iadd rfl rfl ?_
  rw [ei0]
  refine wr_iconst rfl rfl ?_
  refine wr_iload rfl rfl rfl ?_
  refine wr_iadd rfl rfl ?_
  rw [ei0]
  refine wr_bipush rfl rfl (by decide) ?_
  refine wr_cv3 (k' := 178) (ci := 12) rfl rfl rfl rfl (by assumption) rfl rfl (fw_add (f := i) (a := i) (b := 95) w (by omega) (by omega) (by decide) q7' q7 (by decide)) (fun r h2 q => ?_)
  obtain ⟨rfl, w⟩ := q
  obtain ⟨F8, w, s8, m8⟩ := ff_ex w
  have cO := w.cO
  refine wr_aload_n rfl rfl rfl ?_
  refine wr_bipush rfl rfl (by decide) ?_
  refine wr_iload rfl rfl rfl ?_
  refine wr_i2l rfl rfl (by omega) ?_
  refine wr_iload_n rfl rfl rfl ?_
  refine wr_i2l rfl rfl (by omega) ?_
  refine wr_lmul rfl rfl ?_
  refine wr_iload_n rfl rfl rfl ?_
  refine wr_i2l rfl rfl (by omega) ?_
  refine wr_cv3 (k' := 140) (ci := 12) rfl rfl rfl rfl (by assumption) rfl rfl (fw_set (f := 95) (u := way * up) (v := ov) w (by decide) (by omega) (by omega) (by omega)) (fun r h2 q => ?_)
  obtain ⟨rfl, w⟩ := q
  obtain ⟨F9, w, s9, m9⟩ := ff_ex w
  have cO := w.cO
  have q9 : qB 3 (F9 95) := by rw [s9]; exact qB.long (by omega) (by omega)
  have t9 : F9 94 = e - out := by rw [m9 94 (by decide), m8 94 (by omega), v5]
  have q9' : qB (3 + 3) (F9 94) := by rw [t9, ← v5]; exact q5
  refine wr_aload_n rfl rfl rfl ?_
  refine wr_bipush rfl rfl (by decide) ?_
  refine wr_bipush rfl rfl (by decide) ?_
  refine wr_bipush rfl rfl (by decide) ?_
  refine wr_cv3 (k' := 176) (ci := 12) rfl rfl rfl rfl (by assumption) rfl rfl (fw_times (f := 95) (a := 95) (b := 94) w (by decide) (by decide) (by decide) q9 q9' (by decide)) (fun r h2 q => ?_)
  obtain ⟨rfl, w⟩ := q
  obtain ⟨F10, w, s10, m10⟩ := ff_ex w
  have cO := w.cO
  have q10 : qB (3 + (3 + 3)) (F10 95) := by rw [s10]; exact q9.mul q9'
  have t10 : F10 (26 + i) = (high : Rat) / 1000 := by rw [m10 (26 + i) (by omega), m9 (26 + i) (by omega), m8 (26 + i) (by omega), f2]
  have q10' : qB 3 (F10 (26 + i)) := by
    rw [t10, show (high : Rat) / 1000 = Rat.divInt high 1000 from (divQ high 1000).symm]
    exact qB.long (by omega) (by decide)
  refine wr_aload_n rfl rfl rfl ?_
  refine wr_bipush rfl rfl (by decide) ?_
  refine wr_iload rfl rfl rfl ?_
  refine wr_iadd rfl rfl ?_
  rw [ei2]
  refine wr_bipush rfl rfl (by decide) ?_
  refine wr_iload rfl rfl rfl ?_
  refine wr_iadd rfl rfl ?_
  rw [ei2]
  refine wr_bipush rfl rfl (by decide) ?_
  refine wr_cv3 (k' := 178) (ci := 12) rfl rfl rfl rfl (by assumption) rfl rfl (fw_add (f := 26 + i) (a := 26 + i) (b := 95) w (by omega) (by omega) (by decide) q10' q10 (by decide)) (fun r h2 q => ?_)
  obtain ⟨rfl, w⟩ := q
  obtain ⟨F11, w, s11, m11⟩ := ff_ex w
  refine wr_vret rfl rfl ?_
  refine ⟨rfl, F11, w, ?_, ?_, fun f x y z u => by rw [m11 f y, m10 f u, m9 f u, m8 f x]⟩
  · rw [m11 i (by omega), m10 i (by omega), m9 i (by omega), s8, f1, s7]
    have e1 : ((sg * out : Int) : Rat) = (sg : Rat) * out := by grind
    rw [e1]
    grind
  · rw [s11, t10, s10, s9, t9, divQ]
theorem rr_slopeC {d i : Nat} {a s15 s17 D : Int} {x3 x4 x7 x8 x9 x10 x11 x12 x13 x14 x16 x18 : Value} (w : FW h0 h o3 F3 A3) (e29 : o3 29 = sg) (hs : sg = 1 ∨ sg = -1) (hi : i ≤ 24) (f94 : F3 94 = Rat.divInt a 1000) (f1 : F3 i = ((sg * out : Int) : Rat)) (f2 : F3 (26 + i) = (high : Rat) / 1000) (ho : 0 ≤ out ∧ out ≤ 2000000) (hh : -200000000000 ≤ high ∧ high ≤ 200000000000) (hw : way = 1 ∨ way = -1) (hu : 0 < up ∧ up ≤ 99999) (hv : 0 < ov ∧ ov ≤ 99999) (hD : s17 * ov - way * up * s15 = D) (D0 : D ≠ 0) (rD : -1000000000000 ≤ D ∧ D ≤ 1000000000000) (ra : -1000000000000000000 ≤ a ∧ a ≤ 1000000000000000000) (hE : e - out = (a : Rat) / 1000 * ((ov : Rat) / D)) : am_w X (d + 6) 172 (389, [.ref 164, .int (iI up), .int (iI ov), x3, x4, .int (iI i), .int (iI way), x7, x8, x9, x10, x11, x12, x13, x14, .long (lI s15), x16, .long (lI s17), x18], [], h) (fun r h' => r = none ∧ ∃ F', FW h0 h' o3 F' A3 ∧ F' i = (sg : Rat) * e ∧ F' (26 + i) = (high : Rat) / 1000 + ((way * up : Int) : Rat) / ov * (e - out) ∧ ∀ f, f ≠ i → f ≠ 26 + i → f ≠ 94 → f ≠ 95 → F' f = F3 f) := by
  have cO := w.cO
  have wu : -99999 ≤ way * up ∧ way * up ≤ 99999 := by rcases hw with rfl | rfl <;> omega
  have ei0 : (0 : Int) + (i : Int) = (i : Int) := by omega
  have ei2 : (26 : Int) + (i : Int) = ((26 + i : Nat) : Int) := by omega
  have hx : -2000000 ≤ sg * out ∧ sg * out ≤ 2000000 := by rcases hs with rfl | rfl <;> omega
  refine wr_aload_n rfl rfl rfl ?_
  refine wr_bipush rfl rfl (by decide) ?_
  refine wr_iload_n rfl rfl rfl ?_
  refine wr_i2l rfl rfl (by omega) ?_
  refine wr_lload rfl rfl rfl ?_
  refine wr_iload_n rfl rfl rfl ?_
  refine wr_i2l rfl rfl (by omega) ?_
  refine wr_lmul rfl rfl ?_
  refine wr_iload rfl rfl rfl ?_
  refine wr_iload_n rfl rfl rfl ?_
  refine wr_imul rfl rfl ?_
  refine wr_i2l rfl rfl (by omega) ?_
  refine wr_lload rfl rfl rfl ?_
  refine wr_lmul rfl rfl ?_
  refine wr_lsub rfl rfl ?_
  rw [hD]
  refine wr_cv3 (k' := 140) (ci := 12) rfl rfl rfl rfl (by assumption) rfl rfl (fw_set (f := 95) (u := ov) (v := D) w (by decide) (by omega) (by omega) D0) (fun r h2 q => ?_)
  obtain ⟨rfl, w⟩ := q
  obtain ⟨F4, w, s4, m4⟩ := ff_ex w
  have cO := w.cO
  have qa : qB 3 (F4 94) := by rw [m4 94 (by decide), f94]; exact qB.long (by omega) (by decide)
  have qb : qB 3 (F4 95) := by rw [s4]; exact qB.longN (by omega) (by omega) D0
  refine wr_aload_n rfl rfl rfl ?_
  refine wr_bipush rfl rfl (by decide) ?_
  refine wr_bipush rfl rfl (by decide) ?_
  refine wr_bipush rfl rfl (by decide) ?_
  refine wr_cv3 (k' := 176) (ci := 12) rfl rfl rfl rfl (by assumption) rfl rfl (fw_times (f := 94) (a := 94) (b := 95) w (by decide) (by decide) (by decide) qa qb (by decide)) (fun r h2 q => ?_)
  obtain ⟨rfl, w⟩ := q
  obtain ⟨F5, w, s5, m5⟩ := ff_ex w
  have q5 : qB (3 + 3) (F5 94) := by rw [s5]; exact qa.mul qb
  have v5 : F5 94 = e - out := by
    rw [s5, m4 94 (by decide), f94, s4, divQ, divQ, hE]
    rfl
  have cO := w.cO
  refine wr_aload_n rfl rfl rfl ?_
  refine wr_bipush rfl rfl (by decide) ?_
  refine wr_aload_n rfl rfl rfl ?_
  refine wr_get (ci := 12) (f := 29) rfl rfl rfl (by assumption) rfl ?_
  rw [e29]
  refine wr_i2l rfl rfl (by omega) ?_
  refine wr_lconst (z := 1) rfl rfl rfl ?_
  refine wr_cv3 (k' := 140) (ci := 12) rfl rfl rfl rfl (by assumption) rfl rfl (fw_set (f := 95) (u := sg) (v := 1) w (by decide) (by omega) (by decide) (by decide)) (fun r h2 q => ?_)
  obtain ⟨rfl, w⟩ := q
  obtain ⟨F6, w, s6, m6⟩ := ff_ex w
  have cO := w.cO
  have q6 : qB 3 (F6 95) := by rw [s6]; exact qB.long (by omega) (by decide)
  have q6' : qB (3 + 3) (F6 94) := by rw [m6 94 (by decide)]; exact q5
  refine wr_aload_n rfl rfl rfl ?_
  refine wr_bipush rfl rfl (by decide) ?_
  refine wr_bipush rfl rfl (by decide) ?_
  refine wr_bipush rfl rfl (by decide) ?_
  refine wr_cv3 (k' := 176) (ci := 12) rfl rfl rfl rfl (by assumption) rfl rfl (fw_times (f := 95) (a := 95) (b := 94) w (by decide) (by decide) (by decide) q6 q6' (by decide)) (fun r h2 q => ?_)
  obtain ⟨rfl, w⟩ := q
  obtain ⟨F7, w, s7, m7⟩ := ff_ex w
  have cO := w.cO
  refine (rr_slopeD w hs hi (by rw [m7 94 (by decide), m6 94 (by decide), v5]) (by rw [m7 94 (by decide), m6 94 (by decide)]; exact q5) (by rw [s7, s6, m6 94 (by decide), v5, div1Q]) (by rw [s7]; exact q6.mul q6') (by rw [m7 i (by omega), m6 i (by omega), m5 i (by omega), m4 i (by omega), f1]) (by rw [m7 (26 + i) (by omega), m6 (26 + i) (by omega), m5 (26 + i) (by omega), m4 (26 + i) (by omega), f2]) ho hh hw hu hv).mono (fun r h' q => ?_)
  obtain ⟨q1, F8, q2, q3, q4, q5⟩ := q
  exact ⟨q1, F8, q2, q3, q4, fun f x y z u => by rw [q5 f x y z u, m7 f u, m6 f u, m5 f z, m4 f u]⟩
theorem rr_slopeB {d i : Nat} {a s11 s13 s15 s17 D b9 b10 : Int} {x3 x4 x7 x8 x12 x14 x16 x18 : Value} (w : FW h0 h o3 F3 A3) (e29 : o3 29 = sg) (e31 : o3 31 = high) (hs : sg = 1 ∨ sg = -1) (hi : i ≤ 24) (f1 : F3 i = ((sg * out : Int) : Rat)) (f2 : F3 (26 + i) = (high : Rat) / 1000) (ho : 0 ≤ out ∧ out ≤ 2000000) (hh : -200000000000 ≤ high ∧ high ≤ 200000000000) (hw : way = 1 ∨ way = -1) (hu : 0 < up ∧ up ≤ 99999) (hv : 0 < ov ∧ ov ≤ 99999) (hb : (b9 = 1 ∧ b10 = 1 ∧ (high - 1000 * s13) * s15 + 1000 * s17 * s11 = a) ∨ (b9 = 1 ∧ b10 = 0 ∧ (high - 1000 * s13) * s15 + 1000 * s17 * 0 = a) ∨ (b9 = 0 ∧ (high - 1000 * s13) * s15 + 1000 * s17 * 0 = a)) (hD : s17 * ov - way * up * s15 = D) (D0 : D ≠ 0) (rD : -1000000000000 ≤ D ∧ D ≤ 1000000000000) (ra : -1000000000000000000 ≤ a ∧ a ≤ 1000000000000000000) (hE : e - out = (a : Rat) / 1000 * ((ov : Rat) / D)) : am_w X (d + 6) 172 (342, [.ref 164, .int (iI up), .int (iI ov), x3, x4, .int (iI i), .int (iI way), x7, x8, .int (iI b9), .int (iI b10), .long (lI s11), x12, .long (lI s13), x14, .long (lI s15), x16, .long (lI s17), x18], [], h) (fun r h' => r = none ∧ ∃ F', FW h0 h' o3 F' A3 ∧ F' i = (sg : Rat) * e ∧ F' (26 + i) = (high : Rat) / 1000 + ((way * up : Int) : Rat) / ov * (e - out) ∧ ∀ f, f ≠ i → f ≠ 26 + i → f ≠ 94 → f ≠ 95 → F' f = F3 f) := by
  have cO := w.cO
  have K : ∀ (h1 : am_H) (F4 : Nat → Rat) (y9 y10 : Value), FW h0 h1 o3 F4 A3 → F4 94 = Rat.divInt a 1000 → (∀ f, f ≠ 94 → F4 f = F3 f) → am_w X (d + 6) 172 (389, [.ref 164, .int (iI up), .int (iI ov), x3, x4, .int (iI i), .int (iI way), x7, x8, y9, y10, .long (lI s11), x12, .long (lI s13), x14, .long (lI s15), x16, .long (lI s17), x18], [], h1) (fun r h' => r = none ∧ ∃ F', FW h0 h' o3 F' A3 ∧ F' i = (sg : Rat) * e ∧ F' (26 + i) = (high : Rat) / 1000 + ((way * up : Int) : Rat) / ov * (e - out) ∧ ∀ f, f ≠ i → f ≠ 26 + i → f ≠ 94 → f ≠ 95 → F' f = F3 f) := by
    intro h1 F4 y9 y10 w s4 m4
    refine (rr_slopeC w e29 hs hi s4 (by rw [m4 i (by omega), f1]) (by rw [m4 (26 + i) (by omega), f2]) ho hh hw hu hv hD D0 rD ra hE).mono (fun r h' q => ?_)
    obtain ⟨q1, F5, q2, q3, q4, q5⟩ := q
    exact ⟨q1, F5, q2, q3, q4, fun f x y z u => by rw [q5 f x y z u, m4 f z]⟩
  rcases hb with ⟨rfl, rfl, hA⟩ | ⟨rfl, rfl, hA⟩ | ⟨rfl, hA⟩
  ·
    refine wr_aload_n rfl rfl rfl ?_
    refine wr_bipush rfl rfl (by decide) ?_
    refine wr_aload_n rfl rfl rfl ?_
    refine wr_get (ci := 12) (f := 31) rfl rfl rfl (by assumption) rfl ?_
    rw [e31]
    refine wr_ldc2 (z := 1000) rfl rfl rfl (by decide) ?_
    refine wr_lload rfl rfl rfl ?_
    refine wr_lmul rfl rfl ?_
    refine wr_lsub rfl rfl ?_
    refine wr_lload rfl rfl rfl ?_
    refine wr_lmul rfl rfl ?_
    refine wr_ldc2 (z := 1000) rfl rfl rfl (by decide) ?_
    refine wr_lload rfl rfl rfl ?_
    refine wr_lmul rfl rfl ?_
    refine wr_iload rfl rfl rfl ?_
    refine wr_if_eq rfl rfl rfl (by omega) (fun c367 => by exfalso; omega) (fun c367 => ?_)
    refine wr_iload rfl rfl rfl ?_
    refine wr_if_eq rfl rfl rfl (by omega) (fun c372 => by exfalso; omega) (fun c372 => ?_)
    refine wr_lload rfl rfl rfl ?_
    refine wr_goto rfl rfl ?_
    refine wr_lmul rfl rfl ?_
    refine wr_ladd rfl rfl ?_
    rw [hA]
    refine wr_ldc2 (z := 1000) rfl rfl rfl (by decide) ?_
    refine wr_cv3 (k' := 140) (ci := 12) rfl rfl rfl rfl (by assumption) rfl rfl (fw_set (f := 94) (u := a) (v := 1000) w (by decide) (by omega) (by decide) (by decide)) (fun r h2 q => ?_)
    obtain ⟨rfl, w⟩ := q
    obtain ⟨F4, w, s4, m4⟩ := ff_ex w
    exact K _ F4 _ _ w s4 m4
  ·
    refine wr_aload_n rfl rfl rfl ?_
    refine wr_bipush rfl rfl (by decide) ?_
    refine wr_aload_n rfl rfl rfl ?_
    refine wr_get (ci := 12) (f := 31) rfl rfl rfl (by assumption) rfl ?_
    rw [e31]
    refine wr_ldc2 (z := 1000) rfl rfl rfl (by decide) ?_
    refine wr_lload rfl rfl rfl ?_
    refine wr_lmul rfl rfl ?_
    refine wr_lsub rfl rfl ?_
    refine wr_lload rfl rfl rfl ?_
    refine wr_lmul rfl rfl ?_
    refine wr_ldc2 (z := 1000) rfl rfl rfl (by decide) ?_
    refine wr_lload rfl rfl rfl ?_
    refine wr_lmul rfl rfl ?_
    refine wr_iload rfl rfl rfl ?_
    refine wr_if_eq rfl rfl rfl (by omega) (fun c367 => by exfalso; omega) (fun c367 => ?_)
    refine wr_iload rfl rfl rfl ?_
    refine wr_if_eq rfl rfl rfl (by omega) (fun c372 => ?_) (fun c372 => by exfalso; omega)
    refine wr_lconst (z := 0) rfl rfl rfl ?_
    refine wr_lmul rfl rfl ?_
    refine wr_ladd rfl rfl ?_
    rw [hA]
    refine wr_ldc2 (z := 1000) rfl rfl rfl (by decide) ?_
    refine wr_cv3 (k' := 140) (ci := 12) rfl rfl rfl rfl (by assumption) rfl rfl (fw_set (f := 94) (u := a) (v := 1000) w (by decide) (by omega) (by decide) (by decide)) (fun r h2 q => ?_)
    obtain ⟨rfl, w⟩ := q
    obtain ⟨F4, w, s4, m4⟩ := ff_ex w
    exact K _ F4 _ _ w s4 m4
  ·
    refine wr_aload_n rfl rfl rfl ?_
    refine wr_bipush rfl rfl (by decide) ?_
    refine wr_aload_n rfl rfl rfl ?_
    refine wr_get (ci := 12) (f := 31) rfl rfl rfl (by assumption) rfl ?_
    rw [e31]
    refine wr_ldc2 (z := 1000) rfl rfl rfl (by decide) ?_
    refine wr_lload rfl rfl rfl ?_
    refine wr_lmul rfl rfl ?_
    refine wr_lsub rfl rfl ?_
    refine wr_lload rfl rfl rfl ?_
    refine wr_lmul rfl rfl ?_
    refine wr_ldc2 (z := 1000) rfl rfl rfl (by decide) ?_
    refine wr_lload rfl rfl rfl ?_
    refine wr_lmul rfl rfl ?_
    refine wr_iload rfl rfl rfl ?_
    refine wr_if_eq rfl rfl rfl (by omega) (fun c367 => ?_) (fun c367 => by exfalso; omega)
    refine wr_lconst (z := 0) rfl rfl rfl ?_
    refine wr_lmul rfl rfl ?_
    refine wr_ladd rfl rfl ?_
    rw [hA]
    refine wr_ldc2 (z := 1000) rfl rfl rfl (by decide) ?_
    refine wr_cv3 (k' := 140) (ci := 12) rfl rfl rfl rfl (by assumption) rfl rfl (fw_set (f := 94) (u := a) (v := 1000) w (by decide) (by omega) (by decide) (by decide)) (fun r h2 q => ?_)
    obtain ⟨rfl, w⟩ := q
    obtain ⟨F4, w, s4, m4⟩ := ff_ex w
    exact K _ F4 _ _ w s4 m4
end RSA
