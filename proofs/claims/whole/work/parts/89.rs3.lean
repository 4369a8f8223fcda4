/-! THE REFERENCE WALKS: a side's steps -/
section RSD
variable {X : Nat × (Nat → Int32)} {h0 h h' : am_H} {o o' o'' : Nat → Int} {A A' A'' : Nat → Nat → Int} {F F' F'' : Nat → Rat} {n ax : Nat} {off lev : Nat → Int} {sg : Int}
theorem rr_wk1 {d t k : Nat} {w1 : WS} {y : Value} {Q : Option Value → am_H → Prop} {f e : Int} (W : FW h0 h o F A) (hs : sg = 1 ∨ sg = -1) (R : RKW ax sg w1 o F A) (ob : okB w1.s) (e0 : w1.s.e = 0) (hN : w1.s.N < 12) (hax : ax ≤ 12) (hk : k < 144)  (r70 : A 170 k = f) (r71 : A 171 k = e) (hf : 0 ≤ f ∧ f ≤ 99999) (he : -99999 ≤ e ∧ e ≤ 99999) (K : ∀ (o' : Nat → Int) (F' : Nat → Rat) (A' : Nat → Nat → Int) (h' : am_H), FW h0 h' o' F' A' → RKW ax sg ((WS.mk (wStride w1.s 1 f e) w1.eo w1.el w1.ch w1.tk)) o' F' A' → kpW ax o F A o' F' A' → A' 179 = A 179 → am_w X (d + 7) 170 (387, [.ref 164, .int (iI t), .int (iI sg), .int (iI k), .int (iI ((k : Int) + 1)), y], [], h') Q) : am_w X (d + 7) 170 (108, [.ref 164, .int (iI t), .int (iI sg), .int (iI k), .int (iI ((k : Int) + 1)), y], [], h) Q := by
  have w := W
  have cO := w.cO
  obtain ⟨⟨⟨e25, e29⟩, ⟨e30, e31⟩, e32, e33⟩, -, -⟩ := id R
  have b1 := ob.2.2.1 _ (Nat.le_refl _)
  have b3 := ob.2.2.2 _ (Nat.le_refl _)
  have m := mulB (a := f) (b := e) (A := 99999) (B := 99999) (by omega) (by omega)
  have c70 := w.arr (p := 170) (n := 300) (by decide) (by decide)
  refine wr_aload_n rfl rfl rfl ?_
  refine wr_dup rfl rfl ?_
  refine wr_get (ci := 12) (f := 30) rfl rfl rfl (by assumption) rfl ?_
  rw [e30]
  refine wr_aload_n rfl rfl rfl ?_
  refine wr_get (ci := 12) (f := 8) rfl rfl rfl (by assumption) rfl ?_
  refine wr_iload_n rfl rfl rfl ?_
  refine wr_iald rfl rfl (by assumption) (by omega) (by omega) ?_
  rw [Int.toNat_natCast, r70]
  refine wr_i2l rfl rfl (by omega) ?_
  refine wr_ladd rfl rfl ?_
  refine wr_putL (ci := 12) (f := 30) (fs' := [_, _, _, _, _, _, _, _, _, _, _, _, _, _, _, _, _, _, _, _, _, _, _, _, _, _, _, _, _, _, _, _, _, _, _, _, _, _, _]) rfl rfl rfl (by assumption) rfl rfl rfl (fun h1 e1 => ?_)
  have w : FW h0 h1 (updI o 30 (w1.s.ou w1.s.N + f)) F A := by rw [e1]; exact w.setO (updI o 30 (w1.s.ou w1.s.N + f))
  clear e1
  obtain ⟨o2, w, s2, n2⟩ := fo_ex w
  have cO := w.cO
  have f31 : o2 31 = w1.s.hi w1.s.N := by rw [n2 31 (by decide), e31]
  have f29 : o2 29 = sg := by rw [n2 29 (by decide), e29]
  have c70 := w.arr (p := 170) (n := 300) (by decide) (by decide)
  have c71 := w.arr (p := 171) (n := 300) (by decide) (by decide)
  refine wr_aload_n rfl rfl rfl ?_
  refine wr_dup rfl rfl ?_
  refine wr_get (ci := 12) (f := 31) rfl rfl rfl (by assumption) rfl ?_
  rw [f31]
  refine wr_aload_n rfl rfl rfl ?_
  refine wr_get (ci := 12) (f := 8) rfl rfl rfl (by assumption) rfl ?_
  refine wr_iload_n rfl rfl rfl ?_
  refine wr_iald rfl rfl (by assumption) (by omega) (by omega) ?_
  rw [Int.toNat_natCast, r70]
  refine wr_i2l rfl rfl (by omega) ?_
  refine wr_aload_n rfl rfl rfl ?_
  refine wr_get (ci := 12) (f := 9) rfl rfl rfl (by assumption) rfl ?_
  refine wr_iload_n rfl rfl rfl ?_
  refine wr_iald rfl rfl (by assumption) (by omega) (by omega) ?_
  rw [Int.toNat_natCast, r71]
  refine wr_i2l rfl rfl (by omega) ?_
  refine wr_lmul rfl rfl ?_
  refine wr_lsub rfl rfl ?_
  refine wr_putL (ci := 12) (f := 31) (fs' := [_, _, _, _, _, _, _, _, _, _, _, _, _, _, _, _, _, _, _, _, _, _, _, _, _, _, _, _, _, _, _, _, _, _, _, _, _, _, _]) rfl rfl rfl (by assumption) rfl rfl rfl (fun h1 e1 => ?_)
  have w : FW h0 h1 (updI o2 31 (w1.s.hi w1.s.N - f * e)) F A := by rw [e1]; exact w.setO (updI o2 31 (w1.s.hi w1.s.N - f * e))
  clear e1
  obtain ⟨o3, w, s3, n3⟩ := fo_ex w
  have cO := w.cO
  refine wr_aload_n rfl rfl rfl ?_
  refine wr_iconst rfl rfl ?_
  refine wr_cv1 (k' := 171) (ci := 12) rfl rfl rfl rfl (by assumption) rfl rfl (rr_cornI (c := 1) (ax := ax) (N := w1.s.N) (sg := sg) (out := w1.s.ou w1.s.N + f) (high := w1.s.hi w1.s.N - f * e) w hs (by rw [n3 25 (by decide), n2 25 (by decide), e25]) (by rw [n3 32 (by decide), n2 32 (by decide), e32]) (by rw [n3 29 (by decide), f29]) (by rw [n3 30 (by decide), s2]) s3 (by omega) (by omega) (by omega)) (fun r h2 q => ?_)
  obtain ⟨rfl, o4, F4, A4, w, ⟨s4, n4⟩, ⟨sA, nA⟩, g1, g2, gn⟩ := q
  refine wr_goto rfl rfl ?_
  have k4 : ∀ j, j ≠ 32 → j ≠ 31 → j ≠ 30 → o4 j = o j := fun j a b c => by rw [n4 j a, n3 j b, n2 j c]
  refine K o4 F4 A4 _ w (R.more (c := 1) (out' := w1.s.ou w1.s.N + f) (high' := w1.s.hi w1.s.N - f * e) e0 rfl rfl rfl ?_ rfl rfl (k4 _ (by decide) (by decide) (by decide)) (k4 _ (by decide) (by decide) (by decide)) (k4 _ (by decide) (by decide) (by decide)) (by rw [n4 30 (by decide), n3 30 (by decide), s2]) (by rw [n4 31 (by decide), s3]) s4 ((k4 _ (by decide) (by decide) (by decide)).trans e33) (nA _ (by decide)) sA ?_ ?_ (fun i hi => ⟨gn _ (by omega) (by omega), gn _ (by omega) (by omega)⟩)) ⟨fun j a b => k4 j (by omega) (by omega) (by omega), fun j a _ _ => nA j a, fun j hj => by rw [sA, updI_n (by omega)], fun f hf => gn f (by omega) (by omega)⟩ (nA _ (by decide))
  · show updI w1.s.hi (w1.s.N + 1) (w1.s.hi w1.s.N - _) = updI w1.s.hi (w1.s.N + 1) _
    congr 1
  · rw [g1]
    show _ = (sg : Rat) * (if w1.s.e = 1 ∧ w1.s.N + 1 = w1.s.N + 1 then _ else ((updI w1.s.ou (w1.s.N + 1) (w1.s.ou w1.s.N + f) (w1.s.N + 1) : Int) : Rat))
    rw [if_neg (by omega), updI_s, Rat.intCast_mul]
  · rw [g2]
    show _ = (if w1.s.e = 1 ∧ w1.s.N + 1 = w1.s.N + 1 then _ else ((updI w1.s.hi (w1.s.N + 1) (w1.s.hi w1.s.N - _) (w1.s.N + 1) : Int) : Rat) / 1000)
    rw [if_neg (by omega), updI_s]
    congr 2
theorem rr_wk2 {d t k : Nat} {w1 : WS} {y : Value} {Q : Option Value → am_H → Prop} {f e : Int} (W : FW h0 h o F A) (hs : sg = 1 ∨ sg = -1) (R : RKW ax sg w1 o F A) (ob : okB w1.s) (e0 : w1.s.e = 0) (hN : w1.s.N < 12) (hax : ax ≤ 12) (hk : k < 144) {bank : Int} (e21 : o 21 = bank) (hb : -150 ≤ bank ∧ bank ≤ 150) (r70 : A 170 k = f) (r71 : A 171 k = e) (hf : 0 ≤ f ∧ f ≤ 99999) (he : -99999 ≤ e ∧ e ≤ 99999) (K : ∀ (o' : Nat → Int) (F' : Nat → Rat) (A' : Nat → Nat → Int) (h' : am_H), FW h0 h' o' F' A' → RKW ax sg ((WS.mk (wStride w1.s 2 f (-sg * bank)) w1.eo w1.el w1.ch w1.tk)) o' F' A' → kpW ax o F A o' F' A' → A' 179 = A 179 → am_w X (d + 7) 170 (387, [.ref 164, .int (iI t), .int (iI sg), .int (iI k), .int (iI ((k : Int) + 1)), y], [], h') Q) : am_w X (d + 7) 170 (156, [.ref 164, .int (iI t), .int (iI sg), .int (iI k), .int (iI ((k : Int) + 1)), y], [], h) Q := by
  have w := W
  have cO := w.cO
  obtain ⟨⟨⟨e25, e29⟩, ⟨e30, e31⟩, e32, e33⟩, -, -⟩ := id R
  have b1 := ob.2.2.1 _ (Nat.le_refl _)
  have b3 := ob.2.2.2 _ (Nat.le_refl _)
  have m := mulB (a := f) (b := e) (A := 99999) (B := 99999) (by omega) (by omega)
  have c70 := w.arr (p := 170) (n := 300) (by decide) (by decide)
  have m2 := mulB (a := f) (b := bank) (A := 99999) (B := 150) (by omega) hb
  have m3 : -14999850 ≤ sg * f * bank ∧ sg * f * bank ≤ 14999850 := by
    rcases hs with rfl | rfl
    · rw [Int.one_mul]; omega
    · rw [Int.neg_mul, Int.neg_mul, Int.one_mul]; omega
  refine wr_aload_n rfl rfl rfl ?_
  refine wr_dup rfl rfl ?_
  refine wr_get (ci := 12) (f := 30) rfl rfl rfl (by assumption) rfl ?_
  rw [e30]
  refine wr_aload_n rfl rfl rfl ?_
  refine wr_get (ci := 12) (f := 8) rfl rfl rfl (by assumption) rfl ?_
  refine wr_iload_n rfl rfl rfl ?_
  refine wr_iald rfl rfl (by assumption) (by omega) (by omega) ?_
  rw [Int.toNat_natCast, r70]
  refine wr_i2l rfl rfl (by omega) ?_
  refine wr_ladd rfl rfl ?_
  refine wr_putL (ci := 12) (f := 30) (fs' := [_, _, _, _, _, _, _, _, _, _, _, _, _, _, _, _, _, _, _, _, _, _, _, _, _, _, _, _, _, _, _, _, _, _, _, _, _, _, _]) rfl rfl rfl (by assumption) rfl rfl rfl (fun h1 e1 => ?_)
  have w : FW h0 h1 (updI o 30 (w1.s.ou w1.s.N + f)) F A := by rw [e1]; exact w.setO (updI o 30 (w1.s.ou w1.s.N + f))
  clear e1
  obtain ⟨o2, w, s2, n2⟩ := fo_ex w
  have cO := w.cO
  have f31 : o2 31 = w1.s.hi w1.s.N := by rw [n2 31 (by decide), e31]
  have f29 : o2 29 = sg := by rw [n2 29 (by decide), e29]
  have f21 : o2 21 = bank := by rw [n2 21 (by decide), e21]
  have c70 := w.arr (p := 170) (n := 300) (by decide) (by decide)
  have c71 := w.arr (p := 171) (n := 300) (by decide) (by decide)
  refine wr_aload_n rfl rfl rfl ?_
  refine wr_dup rfl rfl ?_
  refine wr_get (ci := 12) (f := 31) rfl rfl rfl (by assumption) rfl ?_
  rw [f31]
  refine wr_aload_n rfl rfl rfl ?_
  refine wr_get (ci := 12) (f := 29) rfl rfl rfl (by assumption) rfl ?_
  rw [f29]
  refine wr_i2l rfl rfl (by omega) ?_
  refine wr_aload_n rfl rfl rfl ?_
  refine wr_get (ci := 12) (f := 8) rfl rfl rfl (by assumption) rfl ?_
  refine wr_iload_n rfl rfl rfl ?_
  refine wr_iald rfl rfl (by assumption) (by omega) (by omega) ?_
  rw [Int.toNat_natCast, r70]
  refine wr_i2l rfl rfl (by omega) ?_
  refine wr_lmul rfl rfl ?_
  refine wr_aload_n rfl rfl rfl ?_
  refine wr_get (ci := 12) (f := 21) rfl rfl rfl (by assumption) rfl ?_
  rw [f21]
  refine wr_i2l rfl rfl (by omega) ?_
  refine wr_lmul rfl rfl ?_
  refine wr_ladd rfl rfl ?_
  refine wr_putL (ci := 12) (f := 31) (fs' := [_, _, _, _, _, _, _, _, _, _, _, _, _, _, _, _, _, _, _, _, _, _, _, _, _, _, _, _, _, _, _, _, _, _, _, _, _, _, _]) rfl rfl rfl (by assumption) rfl rfl rfl (fun h1 e1 => ?_)
  have w : FW h0 h1 (updI o2 31 (w1.s.hi w1.s.N + sg * f * bank)) F A := by rw [e1]; exact w.setO (updI o2 31 (w1.s.hi w1.s.N + sg * f * bank))
  clear e1
  obtain ⟨o3, w, s3, n3⟩ := fo_ex w
  have cO := w.cO
  refine wr_aload_n rfl rfl rfl ?_
  refine wr_iconst rfl rfl ?_
  refine wr_cv1 (k' := 171) (ci := 12) rfl rfl rfl rfl (by assumption) rfl rfl (rr_cornI (c := 2) (ax := ax) (N := w1.s.N) (sg := sg) (out := w1.s.ou w1.s.N + f) (high := w1.s.hi w1.s.N + sg * f * bank) w hs (by rw [n3 25 (by decide), n2 25 (by decide), e25]) (by rw [n3 32 (by decide), n2 32 (by decide), e32]) (by rw [n3 29 (by decide), f29]) (by rw [n3 30 (by decide), s2]) s3 (by omega) (by omega) (by omega)) (fun r h2 q => ?_)
  obtain ⟨rfl, o4, F4, A4, w, ⟨s4, n4⟩, ⟨sA, nA⟩, g1, g2, gn⟩ := q
  refine wr_goto rfl rfl ?_
  have k4 : ∀ j, j ≠ 32 → j ≠ 31 → j ≠ 30 → o4 j = o j := fun j a b c => by rw [n4 j a, n3 j b, n2 j c]
  refine K o4 F4 A4 _ w (R.more (c := 2) (out' := w1.s.ou w1.s.N + f) (high' := w1.s.hi w1.s.N + sg * f * bank) e0 rfl rfl rfl ?_ rfl rfl (k4 _ (by decide) (by decide) (by decide)) (k4 _ (by decide) (by decide) (by decide)) (k4 _ (by decide) (by decide) (by decide)) (by rw [n4 30 (by decide), n3 30 (by decide), s2]) (by rw [n4 31 (by decide), s3]) s4 ((k4 _ (by decide) (by decide) (by decide)).trans e33) (nA _ (by decide)) sA ?_ ?_ (fun i hi => ⟨gn _ (by omega) (by omega), gn _ (by omega) (by omega)⟩)) ⟨fun j a b => k4 j (by omega) (by omega) (by omega), fun j a _ _ => nA j a, fun j hj => by rw [sA, updI_n (by omega)], fun f hf => gn f (by omega) (by omega)⟩ (nA _ (by decide))
  · show updI w1.s.hi (w1.s.N + 1) (w1.s.hi w1.s.N - _) = updI w1.s.hi (w1.s.N + 1) _
    congr 1
    show w1.s.hi w1.s.N - f * (-sg * bank) = w1.s.hi w1.s.N + sg * f * bank
    grind
  · rw [g1]
    show _ = (sg : Rat) * (if w1.s.e = 1 ∧ w1.s.N + 1 = w1.s.N + 1 then _ else ((updI w1.s.ou (w1.s.N + 1) (w1.s.ou w1.s.N + f) (w1.s.N + 1) : Int) : Rat))
    rw [if_neg (by omega), updI_s, Rat.intCast_mul]
  · rw [g2]
    show _ = (if w1.s.e = 1 ∧ w1.s.N + 1 = w1.s.N + 1 then _ else ((updI w1.s.hi (w1.s.N + 1) (w1.s.hi w1.s.N - _) (w1.s.N + 1) : Int) : Rat) / 1000)
    rw [if_neg (by omega), updI_s]
    congr 2
    show w1.s.hi w1.s.N + sg * f * bank = w1.s.hi w1.s.N - f * (-sg * bank)
    grind
theorem rr_wk3 {d t k : Nat} {w1 : WS} {y : Value} {Q : Option Value → am_H → Prop} {f e : Int} (W : FW h0 h o F A) (hs : sg = 1 ∨ sg = -1) (R : RKW ax sg w1 o F A) (ob : okB w1.s) (e0 : w1.s.e = 0) (hN : w1.s.N < 12) (hax : ax ≤ 12) (hk : k < 144)  (r70 : A 170 k = f) (r71 : A 171 k = e) (hf : 0 ≤ f ∧ f ≤ 99999) (he : -99999 ≤ e ∧ e ≤ 99999) (K : ∀ (o' : Nat → Int) (F' : Nat → Rat) (A' : Nat → Nat → Int) (h' : am_H), FW h0 h' o' F' A' → RKW ax sg ((WS.mk (wStride w1.s 3 f e) w1.eo w1.el w1.ch w1.tk)) o' F' A' → kpW ax o F A o' F' A' → A' 179 = A 179 → am_w X (d + 7) 170 (387, [.ref 164, .int (iI t), .int (iI sg), .int (iI k), .int (iI ((k : Int) + 1)), y], [], h') Q) : am_w X (d + 7) 170 (208, [.ref 164, .int (iI t), .int (iI sg), .int (iI k), .int (iI ((k : Int) + 1)), y], [], h) Q := by
  have w := W
  have cO := w.cO
  obtain ⟨⟨⟨e25, e29⟩, ⟨e30, e31⟩, e32, e33⟩, -, -⟩ := id R
  have b1 := ob.2.2.1 _ (Nat.le_refl _)
  have b3 := ob.2.2.2 _ (Nat.le_refl _)
  have m := mulB (a := f) (b := e) (A := 99999) (B := 99999) (by omega) (by omega)
  have c70 := w.arr (p := 170) (n := 300) (by decide) (by decide)
  refine wr_aload_n rfl rfl rfl ?_
  refine wr_dup rfl rfl ?_
  refine wr_get (ci := 12) (f := 30) rfl rfl rfl (by assumption) rfl ?_
  rw [e30]
  refine wr_aload_n rfl rfl rfl ?_
  refine wr_get (ci := 12) (f := 8) rfl rfl rfl (by assumption) rfl ?_
  refine wr_iload_n rfl rfl rfl ?_
  refine wr_iald rfl rfl (by assumption) (by omega) (by omega) ?_
  rw [Int.toNat_natCast, r70]
  refine wr_i2l rfl rfl (by omega) ?_
  refine wr_ladd rfl rfl ?_
  refine wr_putL (ci := 12) (f := 30) (fs' := [_, _, _, _, _, _, _, _, _, _, _, _, _, _, _, _, _, _, _, _, _, _, _, _, _, _, _, _, _, _, _, _, _, _, _, _, _, _, _]) rfl rfl rfl (by assumption) rfl rfl rfl (fun h1 e1 => ?_)
  have w : FW h0 h1 (updI o 30 (w1.s.ou w1.s.N + f)) F A := by rw [e1]; exact w.setO (updI o 30 (w1.s.ou w1.s.N + f))
  clear e1
  obtain ⟨o2, w, s2, n2⟩ := fo_ex w
  have cO := w.cO
  have f31 : o2 31 = w1.s.hi w1.s.N := by rw [n2 31 (by decide), e31]
  have f29 : o2 29 = sg := by rw [n2 29 (by decide), e29]
  have c70 := w.arr (p := 170) (n := 300) (by decide) (by decide)
  have c71 := w.arr (p := 171) (n := 300) (by decide) (by decide)
  refine wr_aload_n rfl rfl rfl ?_
  refine wr_dup rfl rfl ?_
  refine wr_get (ci := 12) (f := 31) rfl rfl rfl (by assumption) rfl ?_
  rw [f31]
  refine wr_ldc2 (z := 1000) rfl rfl rfl (by decide) ?_
  refine wr_aload_n rfl rfl rfl ?_
  refine wr_get (ci := 12) (f := 9) rfl rfl rfl (by assumption) rfl ?_
  refine wr_iload_n rfl rfl rfl ?_
  refine wr_iald rfl rfl (by assumption) (by omega) (by omega) ?_
  rw [Int.toNat_natCast, r71]
  refine wr_i2l rfl rfl (by omega) ?_
  refine wr_lmul rfl rfl ?_
  refine wr_lsub rfl rfl ?_
  refine wr_putL (ci := 12) (f := 31) (fs' := [_, _, _, _, _, _, _, _, _, _, _, _, _, _, _, _, _, _, _, _, _, _, _, _, _, _, _, _, _, _, _, _, _, _, _, _, _, _, _]) rfl rfl rfl (by assumption) rfl rfl rfl (fun h1 e1 => ?_)
  have w : FW h0 h1 (updI o2 31 (w1.s.hi w1.s.N - 1000 * e)) F A := by rw [e1]; exact w.setO (updI o2 31 (w1.s.hi w1.s.N - 1000 * e))
  clear e1
  obtain ⟨o3, w, s3, n3⟩ := fo_ex w
  have cO := w.cO
  refine wr_aload_n rfl rfl rfl ?_
  refine wr_iconst rfl rfl ?_
  refine wr_cv1 (k' := 171) (ci := 12) rfl rfl rfl rfl (by assumption) rfl rfl (rr_cornI (c := 3) (ax := ax) (N := w1.s.N) (sg := sg) (out := w1.s.ou w1.s.N + f) (high := w1.s.hi w1.s.N - 1000 * e) w hs (by rw [n3 25 (by decide), n2 25 (by decide), e25]) (by rw [n3 32 (by decide), n2 32 (by decide), e32]) (by rw [n3 29 (by decide), f29]) (by rw [n3 30 (by decide), s2]) s3 (by omega) (by omega) (by omega)) (fun r h2 q => ?_)
  obtain ⟨rfl, o4, F4, A4, w, ⟨s4, n4⟩, ⟨sA, nA⟩, g1, g2, gn⟩ := q
  refine wr_goto rfl rfl ?_
  have k4 : ∀ j, j ≠ 32 → j ≠ 31 → j ≠ 30 → o4 j = o j := fun j a b c => by rw [n4 j a, n3 j b, n2 j c]
  refine K o4 F4 A4 _ w (R.more (c := 3) (out' := w1.s.ou w1.s.N + f) (high' := w1.s.hi w1.s.N - 1000 * e) e0 rfl rfl rfl ?_ rfl rfl (k4 _ (by decide) (by decide) (by decide)) (k4 _ (by decide) (by decide) (by decide)) (k4 _ (by decide) (by decide) (by decide)) (by rw [n4 30 (by decide), n3 30 (by decide), s2]) (by rw [n4 31 (by decide), s3]) s4 ((k4 _ (by decide) (by decide) (by decide)).trans e33) (nA _ (by decide)) sA ?_ ?_ (fun i hi => ⟨gn _ (by omega) (by omega), gn _ (by omega) (by omega)⟩)) ⟨fun j a b => k4 j (by omega) (by omega) (by omega), fun j a _ _ => nA j a, fun j hj => by rw [sA, updI_n (by omega)], fun f hf => gn f (by omega) (by omega)⟩ (nA _ (by decide))
  · show updI w1.s.hi (w1.s.N + 1) (w1.s.hi w1.s.N - _) = updI w1.s.hi (w1.s.N + 1) _
    congr 1
  · rw [g1]
    show _ = (sg : Rat) * (if w1.s.e = 1 ∧ w1.s.N + 1 = w1.s.N + 1 then _ else ((updI w1.s.ou (w1.s.N + 1) (w1.s.ou w1.s.N + f) (w1.s.N + 1) : Int) : Rat))
    rw [if_neg (by omega), updI_s, Rat.intCast_mul]
  · rw [g2]
    show _ = (if w1.s.e = 1 ∧ w1.s.N + 1 = w1.s.N + 1 then _ else ((updI w1.s.hi (w1.s.N + 1) (w1.s.hi w1.s.N - _) (w1.s.N + 1) : Int) : Rat) / 1000)
    rw [if_neg (by omega), updI_s]
    congr 2
end RSD
