/-! THE CLASS: corner, passed, level -/
theorem tellP_neg (q : Rat) (part : Int) : tellP q (-1) part = tellP (-q) 1 part := by
  unfold tellP
  rw [Rat.neg_num, Rat.neg_den, Int.natAbs_neg, Int.sign_neg]
  split
  · rfl
  · split
    · omega
    · rfl
/-- corner k: how far out (left below 0), its level -/
def cornO (z : PS) (k : Int) : Rat := if k < z.L.N then -(OuQ z.L z.eL (z.L.N - k).toNat) else OuQ z.R z.eR (k - z.L.N).toNat
def cornL (z : PS) (k : Int) : Rat := if k < z.L.N then LvQ z.L z.fL (z.L.N - k).toNat else LvQ z.R z.fR (k - z.L.N).toNat
section STB
variable {X : Nat × (Nat → Int32)} {h0 h h' : am_H} {z : PS} {tp dr into p op ws as : Nat} {wr st ix pl : Int} {wt : Nat → Int} {Md : Tm} {S : Nat → Sq} {F : Nat → Rat} {W : Nat → Int}
theorem CG.told {q : Rat} (G : CG h0 h z ws as st ix pl S F W) (w : GW h0 h' z.vn z.vo z.vl z.wk z.ch z.tk S ws st as ix pl (updR F 159 q) W) : CG h0 h' z ws as st ix pl S (updR F 159 q) W := by
  obtain ⟨g, gs, gf, gt, gw, gv, gv2⟩ := G
  exact ⟨w, gs, by rw [updR_n (by decide), updR_n (by decide), updR_n (by decide), updR_n (by decide)]; exact gf, by rw [updR_n (by decide), updR_n (by decide)]; exact gt, gw, by rw [updR_n (by decide)]; exact gv, by rw [updR_n (by decide)]; exact gv2⟩
/-- one corner of a side told -/
theorem cr_cornS {d b0 i : Nat} {ax part : Int} {k : Int} {s : Sq} {eo el : Rat} (a : (tp = 1 ∧ dr = 7) ∨ (tp = 7 ∧ dr = 1)) (b : h[0]? = some (.inr (0, [.ref 13, .ref tp, .ref dr, .ref 16, .ref 19, .int (iI z.al), .int (iI z.ab), .int (iI z.ll), .int (iI z.lr), .ref 22, .ref 45, .ref 79, .ref 95, .ref 131, .ref 145, .int (iI z.ks), .int (iI z.lm), .ref 159]))) (c : isT h tp z.M) (e : isT h dr Md) (f : isR h 13 into z.T z.n p wr wt op) (g : isG h 16 z.gn z.go z.gl) (G : CG h h z ws as st ix pl S F W) (hb : b0 = 46 ∨ b0 = 62) (eS : S b0 = s) (e6 : F (b0 + 6) = eo) (e11 : F (b0 + 11) = el) (o : okB s) (hi : i ≤ s.N) (hax : ax = 0 ∨ ax = 1) (hp : -2147483648 ≤ part ∧ part ≤ 2147483647) : am_w X (d + 2) 106 (49, [.ref 0, .int (iI k), .int (iI ax), .int (iI part), .ref b0, .int (iI i), am_U, am_U], [], h) (fun r h' => r = some (.long (lI (if ax = 0 then tellP (OuQ s eo i) (sgO b0) part else tellP (LvQ s el i) 1 part))) ∧ CR h' z ∧ frI [(0, 163)] h h') := by
  have ce0 := (G.1.sd hb).1
  have ca0 := G.1.arc
  unfold arCell at ca0
  have sg := sgO_in b0
  have oN := o.1
  have eI := o.2.1
  have o1 := o.2.2.1 i hi
  have o2 := o.2.2.2 i hi
  have m6 : (b0 + 6, 16) ∈ LF := by rcases hb with rfl | rfl <;> decide
  have m11 : (b0 + 11, 16) ∈ LF := by rcases hb with rfl | rfl <;> decide
  have be := b2_in (s.e = 1 ∧ (i : Int) = s.N)
  have sE := wp_sisEnd (X := X) (d := d + 1) (i := (i : Int)) (G.1.sS hb) (by omega) (by rw [eS]; exact oN) (by rw [eS]; exact eI)
  have sO := wp_sout (X := X) (d := d) (i := i) (G.1.sS hb) (by omega)
  have sH := wp_shigh (X := X) (d := d) (i := i) (G.1.sS hb) (by omega)
  rw [eS] at sE sO sH
  have R0 := CR.re a b c e f g G
  by_cases en : s.e = 1 ∧ i = s.N
  · have t1 : b2 (s.e = 1 ∧ (i : Int) = s.N) = 1 := b2_t (by omega)
    have u1 : OuQ s eo i = eo := by unfold OuQ; rw [if_pos en]
    have u2 : LvQ s el i = el := by unfold LvQ; rw [if_pos en]
    rw [u1, u2]
    rcases hax with rfl | rfl
    · rw [if_pos rfl]
      refine wr_iload_n rfl rfl rfl ?_
      refine wr_if_ne rfl rfl rfl (by omega) (fun c50 => by exfalso; omega) (fun c50 => ?_)
      refine wr_iconst rfl rfl ?_
      refine wr_goto rfl rfl ?_
      refine wr_istore (ls' := [_, _, _, _, _, _, _, _]) rfl rfl (Nat.le_of_ble_eq_true rfl) rfl ?_
      refine wr_iload rfl rfl rfl ?_
      refine wr_if_eq rfl rfl rfl (by omega) (fun c62 => by exfalso; omega) (fun c62 => ?_)
      refine wr_aload rfl rfl rfl ?_
      refine wr_get (ci := 7) (f := 0) rfl rfl rfl (by assumption) rfl ?_
      refine wr_goto rfl rfl ?_
      refine wr_istore (ls' := [_, _, _, _, _, _, _, _]) rfl rfl (Nat.le_of_ble_eq_true rfl) rfl ?_
      refine wr_aload rfl rfl rfl ?_
      refine wr_iload rfl rfl rfl ?_
      refine wr_cv1 (k' := 110) (ci := 7) rfl rfl rfl rfl (by assumption) rfl rfl (sE) (fun r h2 q => ?_)
      obtain ⟨rfl, hh⟩ := q
      rw [hh]
      clear hh h2
      dsimp only [Option.toList, List.cons_append, List.nil_append]
      refine wr_if_eq rfl rfl rfl (by omega) (fun c83 => by exfalso; omega) (fun c83 => ?_)
      refine wr_iload rfl rfl rfl ?_
      refine wr_if_eq rfl rfl rfl (by omega) (fun c88 => by exfalso; omega) (fun c88 => ?_)
      refine wr_aload rfl rfl rfl ?_
      refine wr_get (ci := 7) (f := 8) rfl rfl rfl (by assumption) rfl ?_
      refine wr_goto rfl rfl ?_
      refine wr_iload rfl rfl rfl ?_
      refine wr_iload_n rfl rfl rfl ?_
      refine wr_cs3 (k' := 111) rfl rfl rfl rfl rfl (wp_tell (G.1.ff _ m6) (show 16 ≤ 1000000 by decide) hp sg) (fun r h2 q => ?_)
      obtain ⟨rfl, hh⟩ := q
      rw [hh]
      clear hh h2
      dsimp only [Option.toList, List.cons_append, List.nil_append]
      rw [e6]
      refine wr_lret rfl rfl ?_
      exact ⟨rfl, R0⟩
    · rw [if_neg (by decide)]
      refine wr_iload_n rfl rfl rfl ?_
      refine wr_if_ne rfl rfl rfl (by omega) (fun c50 => ?_) (fun c50 => by exfalso; omega)
      refine wr_iconst rfl rfl ?_
      refine wr_istore (ls' := [_, _, _, _, _, _, _, _]) rfl rfl (Nat.le_of_ble_eq_true rfl) rfl ?_
      refine wr_iload rfl rfl rfl ?_
      refine wr_if_eq rfl rfl rfl (by omega) (fun c62 => ?_) (fun c62 => by exfalso; omega)
      refine wr_iconst rfl rfl ?_
      refine wr_istore (ls' := [_, _, _, _, _, _, _, _]) rfl rfl (Nat.le_of_ble_eq_true rfl) rfl ?_
      refine wr_aload rfl rfl rfl ?_
      refine wr_iload rfl rfl rfl ?_
      refine wr_cv1 (k' := 110) (ci := 7) rfl rfl rfl rfl (by assumption) rfl rfl (sE) (fun r h2 q => ?_)
      obtain ⟨rfl, hh⟩ := q
      rw [hh]
      clear hh h2
      dsimp only [Option.toList, List.cons_append, List.nil_append]
      refine wr_if_eq rfl rfl rfl (by omega) (fun c83 => by exfalso; omega) (fun c83 => ?_)
      refine wr_iload rfl rfl rfl ?_
      refine wr_if_eq rfl rfl rfl (by omega) (fun c88 => ?_) (fun c88 => by exfalso; omega)
      refine wr_aload rfl rfl rfl ?_
      refine wr_get (ci := 7) (f := 9) rfl rfl rfl (by assumption) rfl ?_
      refine wr_iload rfl rfl rfl ?_
      refine wr_iload_n rfl rfl rfl ?_
      refine wr_cs3 (k' := 111) rfl rfl rfl rfl rfl (wp_tell (G.1.ff _ m11) (show 16 ≤ 1000000 by decide) hp (Or.inl rfl)) (fun r h2 q => ?_)
      obtain ⟨rfl, hh⟩ := q
      rw [hh]
      clear hh h2
      dsimp only [Option.toList, List.cons_append, List.nil_append]
      rw [e11]
      refine wr_lret rfl rfl ?_
      exact ⟨rfl, R0⟩
  · have t1 : b2 (s.e = 1 ∧ (i : Int) = s.N) = 0 := b2_f (by omega)
    have u1 : OuQ s eo i = Rat.divInt (s.ou i) 1 := by unfold OuQ; rw [if_neg en, div1]
    have u2 : LvQ s el i = Rat.divInt (s.hi i) 1000 := by unfold LvQ; rw [if_neg en, divQ]; rfl
    rw [u1, u2]
    rcases hax with rfl | rfl
    · rw [if_pos rfl]
      refine wr_iload_n rfl rfl rfl ?_
      refine wr_if_ne rfl rfl rfl (by omega) (fun c50 => by exfalso; omega) (fun c50 => ?_)
      refine wr_iconst rfl rfl ?_
      refine wr_goto rfl rfl ?_
      refine wr_istore (ls' := [_, _, _, _, _, _, _, _]) rfl rfl (Nat.le_of_ble_eq_true rfl) rfl ?_
      refine wr_iload rfl rfl rfl ?_
      refine wr_if_eq rfl rfl rfl (by omega) (fun c62 => by exfalso; omega) (fun c62 => ?_)
      refine wr_aload rfl rfl rfl ?_
      refine wr_get (ci := 7) (f := 0) rfl rfl rfl (by assumption) rfl ?_
      refine wr_goto rfl rfl ?_
      refine wr_istore (ls' := [_, _, _, _, _, _, _, _]) rfl rfl (Nat.le_of_ble_eq_true rfl) rfl ?_
      refine wr_aload rfl rfl rfl ?_
      refine wr_iload rfl rfl rfl ?_
      refine wr_cv1 (k' := 110) (ci := 7) rfl rfl rfl rfl (by assumption) rfl rfl (sE) (fun r h2 q => ?_)
      obtain ⟨rfl, hh⟩ := q
      rw [hh]
      clear hh h2
      dsimp only [Option.toList, List.cons_append, List.nil_append]
      refine wr_if_eq rfl rfl rfl (by omega) (fun c83 => ?_) (fun c83 => by exfalso; omega)
      refine wr_aload_n rfl rfl rfl ?_
      refine wr_get (ci := 0) (f := 9) rfl rfl rfl (by assumption) rfl ?_
      refine wr_aload_n rfl rfl rfl ?_
      refine wr_get (ci := 0) (f := 17) rfl rfl rfl (by assumption) rfl ?_
      refine wr_iload rfl rfl rfl ?_
      refine wr_if_eq rfl rfl rfl (by omega) (fun c121 => by exfalso; omega) (fun c121 => ?_)
      refine wr_aload rfl rfl rfl ?_
      refine wr_iload rfl rfl rfl ?_
      refine wr_cv1 (k' := 67) (ci := 7) rfl rfl rfl rfl (by assumption) rfl rfl (sO) (fun r h2 q => ?_)
      obtain ⟨rfl, hh⟩ := q
      rw [hh]
      clear hh h2
      dsimp only [Option.toList, List.cons_append, List.nil_append]
      refine wr_goto rfl rfl ?_
      refine wr_iload rfl rfl rfl ?_
      refine wr_if_eq rfl rfl rfl (by omega) (fun c143 => by exfalso; omega) (fun c143 => ?_)
      refine wr_lconst (z := 1) rfl rfl rfl ?_
      refine wr_goto rfl rfl ?_
      refine wr_cv3 (k' := 79) (ci := 4) rfl rfl rfl rfl (by assumption) rfl rfl (gw_ratio G.1 mF159 (by omega) (by decide)) (fun r h2 q => ?_)
      obtain ⟨rfl, w⟩ := q
      dsimp only [Option.toList, List.nil_append]
      have G2 := G.told w
      have R2 := CR.re a b c e f g G2
      obtain ⟨⟨tp2, dr2, into2, p2, op2, wr2, wt2, Md2, a2, b2', -⟩, -⟩ := id R2.1
      refine wr_aload_n rfl rfl rfl ?_
      refine wr_get (ci := 0) (f := 17) rfl rfl rfl (by assumption) rfl ?_
      refine wr_iload rfl rfl rfl ?_
      refine wr_iload_n rfl rfl rfl ?_
      refine wr_cs3 (k' := 111) rfl rfl rfl rfl rfl (wp_tell (G2.1.ff _ mF159) (by decide) hp sg) (fun r h2 q => ?_)
      obtain ⟨rfl, hh⟩ := q
      rw [hh]
      clear hh h2
      dsimp only [Option.toList, List.cons_append, List.nil_append]
      rw [updR_s]
      refine wr_lret rfl rfl ?_
      exact ⟨rfl, R2⟩
    · rw [if_neg (by decide)]
      refine wr_iload_n rfl rfl rfl ?_
      refine wr_if_ne rfl rfl rfl (by omega) (fun c50 => ?_) (fun c50 => by exfalso; omega)
      refine wr_iconst rfl rfl ?_
      refine wr_istore (ls' := [_, _, _, _, _, _, _, _]) rfl rfl (Nat.le_of_ble_eq_true rfl) rfl ?_
      refine wr_iload rfl rfl rfl ?_
      refine wr_if_eq rfl rfl rfl (by omega) (fun c62 => ?_) (fun c62 => by exfalso; omega)
      refine wr_iconst rfl rfl ?_
      refine wr_istore (ls' := [_, _, _, _, _, _, _, _]) rfl rfl (Nat.le_of_ble_eq_true rfl) rfl ?_
      refine wr_aload rfl rfl rfl ?_
      refine wr_iload rfl rfl rfl ?_
      refine wr_cv1 (k' := 110) (ci := 7) rfl rfl rfl rfl (by assumption) rfl rfl (sE) (fun r h2 q => ?_)
      obtain ⟨rfl, hh⟩ := q
      rw [hh]
      clear hh h2
      dsimp only [Option.toList, List.cons_append, List.nil_append]
      refine wr_if_eq rfl rfl rfl (by omega) (fun c83 => ?_) (fun c83 => by exfalso; omega)
      refine wr_aload_n rfl rfl rfl ?_
      refine wr_get (ci := 0) (f := 9) rfl rfl rfl (by assumption) rfl ?_
      refine wr_aload_n rfl rfl rfl ?_
      refine wr_get (ci := 0) (f := 17) rfl rfl rfl (by assumption) rfl ?_
      refine wr_iload rfl rfl rfl ?_
      refine wr_if_eq rfl rfl rfl (by omega) (fun c121 => ?_) (fun c121 => by exfalso; omega)
      refine wr_aload rfl rfl rfl ?_
      refine wr_iload rfl rfl rfl ?_
      refine wr_cv1 (k' := 71) (ci := 7) rfl rfl rfl rfl (by assumption) rfl rfl (sH) (fun r h2 q => ?_)
      obtain ⟨rfl, hh⟩ := q
      rw [hh]
      clear hh h2
      dsimp only [Option.toList, List.cons_append, List.nil_append]
      refine wr_iload rfl rfl rfl ?_
      refine wr_if_eq rfl rfl rfl (by omega) (fun c143 => ?_) (fun c143 => by exfalso; omega)
      refine wr_ldc2 (z := 1000) rfl rfl rfl (by decide) ?_
      refine wr_cv3 (k' := 79) (ci := 4) rfl rfl rfl rfl (by assumption) rfl rfl (gw_ratio G.1 mF159 (by omega) (by decide)) (fun r h2 q => ?_)
      obtain ⟨rfl, w⟩ := q
      dsimp only [Option.toList, List.nil_append]
      have G2 := G.told w
      have R2 := CR.re a b c e f g G2
      obtain ⟨⟨tp2, dr2, into2, p2, op2, wr2, wt2, Md2, a2, b2', -⟩, -⟩ := id R2.1
      refine wr_aload_n rfl rfl rfl ?_
      refine wr_get (ci := 0) (f := 17) rfl rfl rfl (by assumption) rfl ?_
      refine wr_iload rfl rfl rfl ?_
      refine wr_iload_n rfl rfl rfl ?_
      refine wr_cs3 (k' := 111) rfl rfl rfl rfl rfl (wp_tell (G2.1.ff _ mF159) (by decide) hp (Or.inl rfl)) (fun r h2 q => ?_)
      obtain ⟨rfl, hh⟩ := q
      rw [hh]
      clear hh h2
      dsimp only [Option.toList, List.cons_append, List.nil_append]
      rw [updR_s]
      refine wr_lret rfl rfl ?_
      exact ⟨rfl, R2⟩
theorem cr_corner {d : Nat} {k ax part : Int} (C : CR h z) (V : VS z) (hk : -2147483648 ≤ k ∧ k ≤ 2147483647) (hax : -2147483648 ≤ ax ∧ ax ≤ 2147483647) (hp : -2147483648 ≤ part ∧ part ≤ 2147483647) : am_c X (d + 3) 106 [.ref 0, .int (iI k), .int (iI ax), .int (iI part)] h (fun r h' => r = some (.long (lI (if (0 ≤ k ∧ k < cornN z) ∧ 0 ≤ ax ∧ ax ≤ 1 then tellP (if ax = 0 then cornO z k else cornL z k) 1 part else missP part))) ∧ CR h' z ∧ frI [(0, 163)] h h') := by
  have C' := C
  obtain ⟨⟨tp, dr, into, p, op, wr, wt, Md, a, b, c, e, f, g⟩, ws, as, st, ix, pl, S, F, W, G⟩ := C
  have cs0 := G.1.se.1
  have SL := G.2.1.1
  have SR := G.2.1.2
  obtain ⟨fe1, fe2, fe3, fe4⟩ := G.2.2.1
  have nn : z.wk = 1 → z.L.N ≤ 12 ∧ z.R.N ≤ 12 := fun q => ⟨(V.sec q).2.1.ok.1, (V.sec q).2.2.ok.1⟩
  have cN : -1 ≤ cornN z ∧ cornN z ≤ 25 := by
    unfold cornN
    split
    · have := nn (by assumption); omega
    · omega
  have cq := gw_corners (X := X) (d := d + 1) G.1 V.wkb
  rw [SL, SR] at cq
  have bx := b2_in (0 ≤ ax ∧ ax ≤ 1)
  refine am_c.of (Nat.le_of_ble_eq_true rfl) ?_
  show am_w _ _ _ (_, [_, _, _, _, _, _, _, _], _, _) _
  by_cases k0 : 0 ≤ k
  case neg =>
    rw [if_neg (fun q => k0 q.1.1)]
    refine wr_iload_n rfl rfl rfl ?_
    refine wr_if_lt rfl rfl rfl (by omega) (fun c1 => ?_) (fun c1 => by exfalso; omega)
    refine wr_iload_n rfl rfl rfl ?_
    refine wr_cs1 (k' := 107) rfl rfl rfl rfl rfl (wp_missing hp) (fun r h2 q => ?_)
    obtain ⟨rfl, hh⟩ := q
    rw [hh]
    clear hh h2
    dsimp only [Option.toList, List.cons_append, List.nil_append]
    refine wr_lret rfl rfl ?_
    exact ⟨rfl, C', frI_rf _ _⟩
  by_cases k1 : k < cornN z
  case neg =>
    rw [if_neg (fun q => k1 q.1.2)]
    refine wr_iload_n rfl rfl rfl ?_
    refine wr_if_lt rfl rfl rfl (by omega) (fun c1 => by exfalso; omega) (fun c1 => ?_)
    refine wr_iload_n rfl rfl rfl ?_
    refine wr_aload_n rfl rfl rfl ?_
    refine wr_get (ci := 0) (f := 10) rfl rfl rfl (by assumption) rfl ?_
    refine wr_cv0 (k' := 105) (ci := 6) rfl rfl rfl rfl (by assumption) rfl rfl (cq) (fun r h2 q => ?_)
    obtain ⟨rfl, hh⟩ := q
    rw [hh]
    clear hh h2
    dsimp only [Option.toList, List.cons_append, List.nil_append]
    rw [show (if z.wk = 1 then (z.L.N : Int) + 1 + z.R.N else 0) = cornN z from rfl]
    refine wr_icmp_ge rfl rfl rfl (by omega) (by omega) (fun c12 => ?_) (fun c12 => by exfalso; omega)
    refine wr_iload_n rfl rfl rfl ?_
    refine wr_cs1 (k' := 107) rfl rfl rfl rfl rfl (wp_missing hp) (fun r h2 q => ?_)
    obtain ⟨rfl, hh⟩ := q
    rw [hh]
    clear hh h2
    dsimp only [Option.toList, List.cons_append, List.nil_append]
    refine wr_lret rfl rfl ?_
    exact ⟨rfl, C', frI_rf _ _⟩
  by_cases k2 : 0 ≤ ax ∧ ax ≤ 1
  case neg =>
    rw [if_neg (fun q => k2 q.2)]
    have t1 := b2_f k2
    refine wr_iload_n rfl rfl rfl ?_
    refine wr_if_lt rfl rfl rfl (by omega) (fun c1 => by exfalso; omega) (fun c1 => ?_)
    refine wr_iload_n rfl rfl rfl ?_
    refine wr_aload_n rfl rfl rfl ?_
    refine wr_get (ci := 0) (f := 10) rfl rfl rfl (by assumption) rfl ?_
    refine wr_cv0 (k' := 105) (ci := 6) rfl rfl rfl rfl (by assumption) rfl rfl (cq) (fun r h2 q => ?_)
    obtain ⟨rfl, hh⟩ := q
    rw [hh]
    clear hh h2
    dsimp only [Option.toList, List.cons_append, List.nil_append]
    rw [show (if z.wk = 1 then (z.L.N : Int) + 1 + z.R.N else 0) = cornN z from rfl]
    refine wr_icmp_ge rfl rfl rfl (by omega) (by omega) (fun c12 => by exfalso; omega) (fun c12 => ?_)
    refine wr_iload_n rfl rfl rfl ?_
    refine wr_iconst rfl rfl ?_
    refine wr_iconst rfl rfl ?_
    refine wr_cs3 (k' := 48) rfl rfl rfl rfl rfl (wp_within hax (by decide) (by decide)) (fun r h2 q => ?_)
    obtain ⟨rfl, hh⟩ := q
    rw [hh]
    clear hh h2
    dsimp only [Option.toList, List.cons_append, List.nil_append]
    refine wr_if_ne rfl rfl rfl (by omega) (fun c21 => by exfalso; omega) (fun c21 => ?_)
    refine wr_iload_n rfl rfl rfl ?_
    refine wr_cs1 (k' := 107) rfl rfl rfl rfl rfl (wp_missing hp) (fun r h2 q => ?_)
    obtain ⟨rfl, hh⟩ := q
    rw [hh]
    clear hh h2
    dsimp only [Option.toList, List.cons_append, List.nil_append]
    refine wr_lret rfl rfl ?_
    exact ⟨rfl, C', frI_rf _ _⟩
  rw [if_pos ⟨⟨k0, k1⟩, k2⟩]
  have t1 := b2_t k2
  have w1 : z.wk = 1 := Decidable.byContradiction fun q => by unfold cornN at k1; rw [if_neg q] at k1; omega
  have nb := nn w1
  have se := V.sec w1
  have kc : k < z.L.N + 1 + z.R.N := by unfold cornN at k1; rw [if_pos w1] at k1; exact k1
  have so := gw_sideOf (X := X) (d := d + 1) G.1 hk (by rw [SL]; exact nb.1)
  have io := gw_indexOf (X := X) (d := d + 1) G.1 hk (by rw [SL]; exact nb.1)
  rw [SL] at so io
  unfold cornO cornL
  by_cases k3 : k < z.L.N
  · rw [if_pos k3] at so io
    rw [if_pos k3, if_pos k3]
    refine wr_iload_n rfl rfl rfl ?_
    refine wr_if_lt rfl rfl rfl (by omega) (fun c1 => by exfalso; omega) (fun c1 => ?_)
    refine wr_iload_n rfl rfl rfl ?_
    refine wr_aload_n rfl rfl rfl ?_
    refine wr_get (ci := 0) (f := 10) rfl rfl rfl (by assumption) rfl ?_
    refine wr_cv0 (k' := 105) (ci := 6) rfl rfl rfl rfl (by assumption) rfl rfl (cq) (fun r h2 q => ?_)
    obtain ⟨rfl, hh⟩ := q
    rw [hh]
    clear hh h2
    dsimp only [Option.toList, List.cons_append, List.nil_append]
    rw [show (if z.wk = 1 then (z.L.N : Int) + 1 + z.R.N else 0) = cornN z from rfl]
    refine wr_icmp_ge rfl rfl rfl (by omega) (by omega) (fun c12 => by exfalso; omega) (fun c12 => ?_)
    refine wr_iload_n rfl rfl rfl ?_
    refine wr_iconst rfl rfl ?_
    refine wr_iconst rfl rfl ?_
    refine wr_cs3 (k' := 48) rfl rfl rfl rfl rfl (wp_within hax (by decide) (by decide)) (fun r h2 q => ?_)
    obtain ⟨rfl, hh⟩ := q
    rw [hh]
    clear hh h2
    dsimp only [Option.toList, List.cons_append, List.nil_append]
    refine wr_if_ne rfl rfl rfl (by omega) (fun c21 => ?_) (fun c21 => by exfalso; omega)
    refine wr_aload_n rfl rfl rfl ?_
    refine wr_get (ci := 0) (f := 10) rfl rfl rfl (by assumption) rfl ?_
    refine wr_iload_n rfl rfl rfl ?_
    refine wr_cv1 (k' := 108) (ci := 6) rfl rfl rfl rfl (by assumption) rfl rfl (so) (fun r h2 q => ?_)
    obtain ⟨rfl, hh⟩ := q
    rw [hh]
    clear hh h2
    dsimp only [Option.toList, List.cons_append, List.nil_append]
    refine wr_astore (ls' := [_, _, _, _, _, _, _, _]) rfl rfl (Nat.le_of_ble_eq_true rfl) rfl ?_
    refine wr_aload_n rfl rfl rfl ?_
    refine wr_get (ci := 0) (f := 10) rfl rfl rfl (by assumption) rfl ?_
    refine wr_iload_n rfl rfl rfl ?_
    refine wr_cv1 (k' := 109) (ci := 6) rfl rfl rfl rfl (by assumption) rfl rfl (io) (fun r h2 q => ?_)
    obtain ⟨rfl, hh⟩ := q
    rw [hh]
    clear hh h2
    dsimp only [Option.toList, List.cons_append, List.nil_append]
    rw [show (z.L.N : Int) - k = (((z.L.N : Int) - k).toNat : Int) by omega]
    refine wr_istore (ls' := [_, _, _, _, _, _, _, _]) rfl rfl (Nat.le_of_ble_eq_true rfl) rfl ?_
    refine am_w.mono (cr_cornS (z := z) a b c e f g G (Or.inl rfl) SL fe1 fe2 se.2.1.ok (i := ((z.L.N : Int) - k).toNat) (by omega) (by omega) hp) (fun r h' q => ?_)
    obtain ⟨q1, q2⟩ := q
    refine ⟨?_, q2⟩
    rw [q1]
    refine eqL ?_
    by_cases a0 : ax = 0
    · rw [if_pos a0, if_pos a0]; exact tellP_neg _ _
    · rw [if_neg a0, if_neg a0]; rfl
  · rw [if_neg k3] at so io
    rw [if_neg k3, if_neg k3]
    refine wr_iload_n rfl rfl rfl ?_
    refine wr_if_lt rfl rfl rfl (by omega) (fun c1 => by exfalso; omega) (fun c1 => ?_)
    refine wr_iload_n rfl rfl rfl ?_
    refine wr_aload_n rfl rfl rfl ?_
    refine wr_get (ci := 0) (f := 10) rfl rfl rfl (by assumption) rfl ?_
    refine wr_cv0 (k' := 105) (ci := 6) rfl rfl rfl rfl (by assumption) rfl rfl (cq) (fun r h2 q => ?_)
    obtain ⟨rfl, hh⟩ := q
    rw [hh]
    clear hh h2
    dsimp only [Option.toList, List.cons_append, List.nil_append]
    rw [show (if z.wk = 1 then (z.L.N : Int) + 1 + z.R.N else 0) = cornN z from rfl]
    refine wr_icmp_ge rfl rfl rfl (by omega) (by omega) (fun c12 => by exfalso; omega) (fun c12 => ?_)
    refine wr_iload_n rfl rfl rfl ?_
    refine wr_iconst rfl rfl ?_
    refine wr_iconst rfl rfl ?_
    refine wr_cs3 (k' := 48) rfl rfl rfl rfl rfl (wp_within hax (by decide) (by decide)) (fun r h2 q => ?_)
    obtain ⟨rfl, hh⟩ := q
    rw [hh]
    clear hh h2
    dsimp only [Option.toList, List.cons_append, List.nil_append]
    refine wr_if_ne rfl rfl rfl (by omega) (fun c21 => ?_) (fun c21 => by exfalso; omega)
    refine wr_aload_n rfl rfl rfl ?_
    refine wr_get (ci := 0) (f := 10) rfl rfl rfl (by assumption) rfl ?_
    refine wr_iload_n rfl rfl rfl ?_
    refine wr_cv1 (k' := 108) (ci := 6) rfl rfl rfl rfl (by assumption) rfl rfl (so) (fun r h2 q => ?_)
    obtain ⟨rfl, hh⟩ := q
    rw [hh]
    clear hh h2
    dsimp only [Option.toList, List.cons_append, List.nil_append]
    refine wr_astore (ls' := [_, _, _, _, _, _, _, _]) rfl rfl (Nat.le_of_ble_eq_true rfl) rfl ?_
    refine wr_aload_n rfl rfl rfl ?_
    refine wr_get (ci := 0) (f := 10) rfl rfl rfl (by assumption) rfl ?_
    refine wr_iload_n rfl rfl rfl ?_
    refine wr_cv1 (k' := 109) (ci := 6) rfl rfl rfl rfl (by assumption) rfl rfl (io) (fun r h2 q => ?_)
    obtain ⟨rfl, hh⟩ := q
    rw [hh]
    clear hh h2
    dsimp only [Option.toList, List.cons_append, List.nil_append]
    rw [show k - (z.L.N : Int) = ((k - (z.L.N : Int)).toNat : Int) by omega]
    refine wr_istore (ls' := [_, _, _, _, _, _, _, _]) rfl rfl (Nat.le_of_ble_eq_true rfl) rfl ?_
    refine am_w.mono (cr_cornS (z := z) a b c e f g G (Or.inr rfl) SR fe3 fe4 se.2.2.ok (i := (k - (z.L.N : Int)).toNat) (by omega) (by omega) hp) (fun r h' q => ?_)
    obtain ⟨q1, q2⟩ := q
    refine ⟨?_, q2⟩
    rw [q1]
    refine eqL ?_
    by_cases a0 : ax = 0
    · rw [if_pos a0, if_pos a0]; rfl
    · rw [if_neg a0, if_neg a0]; rfl
/-- a corner against a place, the heap kept -/
theorem cg_sA {d b0 i : Nat} {x : Int} (V : VS z) (w1 : z.wk = 1) (G : CG h0 h z ws as st ix pl S F W) (hb : b0 = 46 ∨ b0 = 62) (hi : i ≤ (S b0).N) (hx : 0 ≤ x ∧ x ≤ 9223372036854775807) : am_c X (d + 3) 117 [.ref b0, .int (iI i), .long (lI x), .ref 22] h (fun r h' => r = some (.int (iI (sA (S b0).N (S b0).e (S b0).ou (F (b0 + 6)) i x))) ∧ CG h0 h' z ws as st ix pl S F W) := by
  have D := (seHof V G w1).sd hb
  have oN := D.ok.1
  have o1 := D.ok.2.2.1 i hi
  obtain ⟨w, rest⟩ := G
  by_cases q : (S b0).e = 1
  · refine am_c.mono (gw_sA w hb (by omega) oN D.ok.2.1 hx (by omega) ((D.q3 q).mono (by decide))) (fun r h' y => ?_)
    exact ⟨y.1, y.2, rest⟩
  · refine am_c.mono (wp_sA0 (w.sS hb) (by omega) oN D.ok.2.1 q hx (by omega)) (fun r h' y => ?_)
    obtain ⟨y1, y2⟩ := y
    subst y2
    exact ⟨y1, w, rest⟩
def passV (z : PS) (k : Int) : Int := if z.wk = 1 ∧ k = -1 then b2 ((z.ll : Rat) < OuQ z.L z.eL z.L.N) else if z.wk = 1 ∧ k = 1 then b2 ((z.lr : Rat) < OuQ z.R z.eR z.R.N) else 0
theorem cr_passed {d : Nat} {k : Int} (C : CR h z) (V : VS z) (hk : -2147483648 ≤ k ∧ k ≤ 2147483647) : am_c X (d + 4) 116 [.ref 0, .int (iI k)] h (fun r h' => r = some (.int (iI (passV z k))) ∧ CR h' z ∧ frI [(0, 163)] h h') := by
  have C' := C
  obtain ⟨⟨tp, dr, into, p, op, wr, wt, Md, a, b, c, e, f, g⟩, ws, as, st, ix, pl, S, F, W, G⟩ := C
  have cs0 := G.1.se.1
  have cl0 := G.1.sl.1
  have cr0 := G.1.sr.1
  have ca0 := G.1.arc
  unfold arCell at ca0
  have wkb := V.wkb
  have la := V.la
  have bi := b2_in (k = -1 ∨ k = 1)
  unfold passV
  refine am_c.of (Nat.le_of_ble_eq_true rfl) ?_
  show am_w _ _ _ (_, [_, _, _], _, _) _
  by_cases w1 : z.wk = 1
  case neg =>
    rw [if_neg (fun q => w1 q.1), if_neg (fun q => w1 q.1)]
    refine wr_aload_n rfl rfl rfl ?_
    refine wr_get (ci := 0) (f := 10) rfl rfl rfl (by assumption) rfl ?_
    refine wr_get (ci := 6) (f := 2) rfl rfl rfl (by assumption) rfl ?_
    refine wr_if_eq rfl rfl rfl (by omega) (fun c7 => ?_) (fun c7 => by exfalso; omega)
    refine wr_iconst rfl rfl ?_
    refine wr_zret rfl rfl (by decide) ?_
    exact ⟨rfl, C', frI_rf _ _⟩
  by_cases s1 : k = -1 ∨ k = 1
  case neg =>
    rw [if_neg (fun q => s1 (Or.inl q.2)), if_neg (fun q => s1 (Or.inr q.2))]
    have t1 := b2_f s1
    refine wr_aload_n rfl rfl rfl ?_
    refine wr_get (ci := 0) (f := 10) rfl rfl rfl (by assumption) rfl ?_
    refine wr_get (ci := 6) (f := 2) rfl rfl rfl (by assumption) rfl ?_
    refine wr_if_eq rfl rfl rfl (by omega) (fun c7 => by exfalso; omega) (fun c7 => ?_)
    refine wr_iload_n rfl rfl rfl ?_
    refine wr_cs1 (k' := 53) rfl rfl rfl rfl rfl (wp_isSide hk) (fun r h2 q => ?_)
    obtain ⟨rfl, hh⟩ := q
    rw [hh]
    clear hh h2
    dsimp only [Option.toList, List.cons_append, List.nil_append]
    refine wr_if_ne rfl rfl rfl (by omega) (fun c14 => by exfalso; omega) (fun c14 => ?_)
    refine wr_iconst rfl rfl ?_
    refine wr_zret rfl rfl (by decide) ?_
    exact ⟨rfl, C', frI_rf _ _⟩
  have t1 := b2_t s1
  have sb := gw_sideBy (X := X) (d := d + 2) G.1 s1
  have H := seHof V G w1
  have SL := G.2.1.1
  have SR := G.2.1.2
  obtain ⟨fe1, fe2, fe3, fe4⟩ := G.2.2.1
  by_cases k1 : k = -1
  · rw [if_pos k1] at sb
    rw [if_pos ⟨w1, k1⟩]
    have sem := H.lf.sA (z := z.ll) (S 46).N
    refine wr_aload_n rfl rfl rfl ?_
    refine wr_get (ci := 0) (f := 10) rfl rfl rfl (by assumption) rfl ?_
    refine wr_get (ci := 6) (f := 2) rfl rfl rfl (by assumption) rfl ?_
    refine wr_if_eq rfl rfl rfl (by omega) (fun c7 => by exfalso; omega) (fun c7 => ?_)
    refine wr_iload_n rfl rfl rfl ?_
    refine wr_cs1 (k' := 53) rfl rfl rfl rfl rfl (wp_isSide hk) (fun r h2 q => ?_)
    obtain ⟨rfl, hh⟩ := q
    rw [hh]
    clear hh h2
    dsimp only [Option.toList, List.cons_append, List.nil_append]
    refine wr_if_ne rfl rfl rfl (by omega) (fun c14 => ?_) (fun c14 => by exfalso; omega)
    refine wr_aload_n rfl rfl rfl ?_
    refine wr_get (ci := 0) (f := 10) rfl rfl rfl (by assumption) rfl ?_
    refine wr_iload_n rfl rfl rfl ?_
    refine wr_cv1 (k' := 115) (ci := 6) rfl rfl rfl rfl (by assumption) rfl rfl (sb) (fun r h2 q => ?_)
    obtain ⟨rfl, hh⟩ := q
    rw [hh]
    clear hh h2
    dsimp only [Option.toList, List.cons_append, List.nil_append]
    refine wr_astore_n (ls' := [_, _, _]) rfl rfl (Nat.le_of_ble_eq_true rfl) rfl ?_
    refine wr_aload_n rfl rfl rfl ?_
    refine wr_aload_n rfl rfl rfl ?_
    refine wr_get (ci := 7) (f := 6) rfl rfl rfl (by assumption) rfl ?_
    refine wr_iload_n rfl rfl rfl ?_
    refine wr_iconst rfl rfl ?_
    refine wr_icmp_ne rfl rfl rfl (by omega) (by omega) (fun c35 => by exfalso; omega) (fun c35 => ?_)
    refine wr_aload_n rfl rfl rfl ?_
    refine wr_get (ci := 0) (f := 7) rfl rfl rfl (by assumption) rfl ?_
    refine wr_i2l rfl rfl (by omega) ?_
    refine wr_goto rfl rfl ?_
    refine wr_aload_n rfl rfl rfl ?_
    refine wr_get (ci := 0) (f := 9) rfl rfl rfl (by assumption) rfl ?_
    refine wr_cv3 (k' := 117) (ci := 7) rfl rfl rfl rfl (by assumption) rfl rfl (cg_sA V w1 G (Or.inl rfl) (Nat.le_refl _) (by omega)) (fun r h2 q => ?_)
    obtain ⟨rfl, G2⟩ := q
    dsimp only [Option.toList, List.cons_append, List.nil_append]
    have R := CR.re a b c e f g G2
    have si : -1 ≤ sA (S 46).N (S 46).e (S 46).ou (F (46 + 6)) (S 46).N z.ll ∧ sA (S 46).N (S 46).e (S 46).ou (F (46 + 6)) (S 46).N z.ll ≤ 1 := by
      have : (F 52) = F (46 + 6) := rfl
      rw [← this]; omega
    by_cases lt : (z.ll : Rat) < OuQ z.L z.eL z.L.N
    · rw [b2_t lt]
      have s2 : sA (S 46).N (S 46).e (S 46).ou (F (46 + 6)) (S 46).N z.ll = 1 := by
        rcases sem with ⟨q, -⟩ | ⟨-, q⟩ | ⟨-, q⟩
        · exact q
        · rw [SL, fe1] at q; grind
        · rw [SL, fe1] at q; grind
      refine wr_if_le rfl rfl rfl (by omega) (fun c58 => by exfalso; omega) (fun c58 => ?_)
      refine wr_iconst rfl rfl ?_
      refine wr_goto rfl rfl ?_
      refine wr_zret rfl rfl (by decide) ?_
      exact ⟨rfl, R⟩
    · rw [b2_f lt]
      have s2 : sA (S 46).N (S 46).e (S 46).ou (F (46 + 6)) (S 46).N z.ll ≤ 0 := by
        rcases sem with ⟨-, q⟩ | ⟨q, -⟩ | ⟨q, -⟩
        · rw [SL, fe1] at q; exact absurd q lt
        · have : sA (S 46).N (S 46).e (S 46).ou (F (46 + 6)) (S 46).N z.ll = 0 := q
          omega
        · have : sA (S 46).N (S 46).e (S 46).ou (F (46 + 6)) (S 46).N z.ll = -1 := q
          omega
      refine wr_if_le rfl rfl rfl (by omega) (fun c58 => ?_) (fun c58 => by exfalso; omega)
      refine wr_iconst rfl rfl ?_
      refine wr_zret rfl rfl (by decide) ?_
      exact ⟨rfl, R⟩
  · rw [if_neg k1] at sb
    rw [if_neg (fun q => k1 q.2), if_pos ⟨w1, by omega⟩]
    have sem := H.rg.sA (z := z.lr) (S 62).N
    refine wr_aload_n rfl rfl rfl ?_
    refine wr_get (ci := 0) (f := 10) rfl rfl rfl (by assumption) rfl ?_
    refine wr_get (ci := 6) (f := 2) rfl rfl rfl (by assumption) rfl ?_
    refine wr_if_eq rfl rfl rfl (by omega) (fun c7 => by exfalso; omega) (fun c7 => ?_)
    refine wr_iload_n rfl rfl rfl ?_
    refine wr_cs1 (k' := 53) rfl rfl rfl rfl rfl (wp_isSide hk) (fun r h2 q => ?_)
    obtain ⟨rfl, hh⟩ := q
    rw [hh]
    clear hh h2
    dsimp only [Option.toList, List.cons_append, List.nil_append]
    refine wr_if_ne rfl rfl rfl (by omega) (fun c14 => ?_) (fun c14 => by exfalso; omega)
    refine wr_aload_n rfl rfl rfl ?_
    refine wr_get (ci := 0) (f := 10) rfl rfl rfl (by assumption) rfl ?_
    refine wr_iload_n rfl rfl rfl ?_
    refine wr_cv1 (k' := 115) (ci := 6) rfl rfl rfl rfl (by assumption) rfl rfl (sb) (fun r h2 q => ?_)
    obtain ⟨rfl, hh⟩ := q
    rw [hh]
    clear hh h2
    dsimp only [Option.toList, List.cons_append, List.nil_append]
    refine wr_astore_n (ls' := [_, _, _]) rfl rfl (Nat.le_of_ble_eq_true rfl) rfl ?_
    refine wr_aload_n rfl rfl rfl ?_
    refine wr_aload_n rfl rfl rfl ?_
    refine wr_get (ci := 7) (f := 6) rfl rfl rfl (by assumption) rfl ?_
    refine wr_iload_n rfl rfl rfl ?_
    refine wr_iconst rfl rfl ?_
    refine wr_icmp_ne rfl rfl rfl (by omega) (by omega) (fun c35 => ?_) (fun c35 => by exfalso; omega)
    refine wr_aload_n rfl rfl rfl ?_
    refine wr_get (ci := 0) (f := 8) rfl rfl rfl (by assumption) rfl ?_
    refine wr_i2l rfl rfl (by omega) ?_
    refine wr_aload_n rfl rfl rfl ?_
    refine wr_get (ci := 0) (f := 9) rfl rfl rfl (by assumption) rfl ?_
    refine wr_cv3 (k' := 117) (ci := 7) rfl rfl rfl rfl (by assumption) rfl rfl (cg_sA V w1 G (Or.inr rfl) (Nat.le_refl _) (by omega)) (fun r h2 q => ?_)
    obtain ⟨rfl, G2⟩ := q
    dsimp only [Option.toList, List.cons_append, List.nil_append]
    have R := CR.re a b c e f g G2
    have si : -1 ≤ sA (S 62).N (S 62).e (S 62).ou (F (62 + 6)) (S 62).N z.lr ∧ sA (S 62).N (S 62).e (S 62).ou (F (62 + 6)) (S 62).N z.lr ≤ 1 := by
      have : (F 68) = F (62 + 6) := rfl
      rw [← this]; omega
    by_cases lt : (z.lr : Rat) < OuQ z.R z.eR z.R.N
    · rw [b2_t lt]
      have s2 : sA (S 62).N (S 62).e (S 62).ou (F (62 + 6)) (S 62).N z.lr = 1 := by
        rcases sem with ⟨q, -⟩ | ⟨-, q⟩ | ⟨-, q⟩
        · exact q
        · rw [SR, fe3] at q; grind
        · rw [SR, fe3] at q; grind
      refine wr_if_le rfl rfl rfl (by omega) (fun c58 => by exfalso; omega) (fun c58 => ?_)
      refine wr_iconst rfl rfl ?_
      refine wr_goto rfl rfl ?_
      refine wr_zret rfl rfl (by decide) ?_
      exact ⟨rfl, R⟩
    · rw [b2_f lt]
      have s2 : sA (S 62).N (S 62).e (S 62).ou (F (62 + 6)) (S 62).N z.lr ≤ 0 := by
        rcases sem with ⟨-, q⟩ | ⟨q, -⟩ | ⟨q, -⟩
        · rw [SR, fe3] at q; exact absurd q lt
        · have : sA (S 62).N (S 62).e (S 62).ou (F (62 + 6)) (S 62).N z.lr = 0 := q
          omega
        · have : sA (S 62).N (S 62).e (S 62).ou (F (62 + 6)) (S 62).N z.lr = -1 := q
          omega
      refine wr_if_le rfl rfl rfl (by omega) (fun c58 => ?_) (fun c58 => by exfalso; omega)
      refine wr_iconst rfl rfl ?_
      refine wr_zret rfl rfl (by decide) ?_
      exact ⟨rfl, R⟩
/-- the first corner as far out as x, of m from i on -/
def lvF (s : Sq) (eo : Rat) (x : Rat) : Nat → Nat → Nat
  | 0, i => i
  | m + 1, i => if x ≤ OuQ s eo i then i else lvF s eo x m (i + 1)
/-- the level at x on the way to corner i -/
def lvQ (s : Sq) (i : Nat) (x : Rat) : Rat := if i = 0 then (s.hi 0 : Rat) / 1000 else secQ s i x
def levS (s : Sq) (eo : Rat) (x : Int) (part : Int) : Int := if lvF s eo x (s.N + 1) 0 ≤ s.N then tellP (lvQ s (lvF s eo x (s.N + 1) 0) x) 1 part else missP part
def levP (z : PS) (off part : Int) : Int := if z.wk = 1 then (if off < 0 then levS z.L z.eL (-off) part else levS z.R z.eR off part) else missP part
/-- a side looked through -/
theorem cr_levS {d b0 : Nat} {off part x : Int} {s : Sq} {eo : Rat} (V : VS z) (w1 : z.wk = 1) (a : (tp = 1 ∧ dr = 7) ∨ (tp = 7 ∧ dr = 1)) (b : h[0]? = some (.inr (0, [.ref 13, .ref tp, .ref dr, .ref 16, .ref 19, .int (iI z.al), .int (iI z.ab), .int (iI z.ll), .int (iI z.lr), .ref 22, .ref 45, .ref 79, .ref 95, .ref 131, .ref 145, .int (iI z.ks), .int (iI z.lm), .ref 159]))) (c : isT h tp z.M) (e : isT h dr Md) (f : isR h 13 into z.T z.n p wr wt op) (g : isG h 16 z.gn z.go z.gl) (G : CG h h z ws as st ix pl S F W) (hb : b0 = 46 ∨ b0 = 62) (eS : S b0 = s) (e6 : F (b0 + 6) = eo) (hx : 0 ≤ x ∧ x ≤ 2147483648) (hp : -2147483648 ≤ part ∧ part ≤ 2147483647) : am_w X (d + 3) 134 (47, [.ref 0, .int (iI off), .int (iI part), .ref b0, .long (lI x), am_U, .int (iI 0)], [], h) (fun r h' => r = some (.long (lI (levS s eo x part))) ∧ CR h' z ∧ frI [(0, 163)] h h') := by
  have D := (seHof V G w1).sd hb
  rw [eS, e6] at D
  have oN := D.ok.1
  unfold levS
  have L : ∀ (m i : Nat) (hh : am_H), i + m = s.N + 1 → lvF s eo x m i = lvF s eo x (s.N + 1) 0 → (0 < i → OuQ s eo (i - 1) < (x : Rat)) → CG h hh z ws as st ix pl S F W → am_w X (d + 3) 134 (47, [.ref 0, .int (iI off), .int (iI part), .ref b0, .long (lI x), am_U, .int (iI i)], [], hh) (fun r h' => r = some (.long (lI (if lvF s eo x (s.N + 1) 0 ≤ s.N then tellP (lvQ s (lvF s eo x (s.N + 1) 0) x) 1 part else missP part))) ∧ CR h' z ∧ frI [(0, 163)] h h') := by
    intro m
    induction m with
    | zero =>
      intro i hh hi hl hq G
      have R := CR.re a b c e f g G
      have cb0 := (G.1.sd hb).1
      rw [eS] at cb0
      rw [← hl]
      unfold lvF
      rw [if_neg (by omega)]
      refine wr_iload rfl rfl rfl ?_
      refine wr_aload_n rfl rfl rfl ?_
      refine wr_get (ci := 7) (f := 6) rfl rfl rfl (by assumption) rfl ?_
      refine wr_icmp_gt rfl rfl rfl (by omega) (by omega) (fun c53 => ?_) (fun c53 => by exfalso; omega)
      refine wr_iload_n rfl rfl rfl ?_
      refine wr_cs1 (k' := 107) rfl rfl rfl rfl rfl (wp_missing hp) (fun r h2 q => ?_)
      obtain ⟨rfl, hh⟩ := q
      rw [hh]
      clear hh h2
      dsimp only [Option.toList, List.cons_append, List.nil_append]
      refine wr_lret rfl rfl ?_
      exact ⟨rfl, R⟩
    | succ m ih =>
      intro i hh hi hl hq G
      have cb0 := (G.1.sd hb).1
      rw [eS] at cb0
      have ca0 := G.1.arc
      unfold arCell at ca0
      have R := CR.re a b c e f g G
      obtain ⟨⟨tp2, dr2, into2, p2, op2, wr2, wt2, Md2, a2, b2', -⟩, -⟩ := id R.1
      have sem := D.sA (z := x) i
      have o1 := D.ok.2.2.1 i (by omega)
      have CALL := cg_sA (X := X) (d := d) (i := i) (x := x) V w1 G hb (by rw [eS]; omega) (by omega)
      rw [eS, e6] at CALL
      have si : -1 ≤ sA s.N s.e s.ou eo i x ∧ sA s.N s.e s.ou eo i x ≤ 1 := by omega
      refine wr_iload rfl rfl rfl ?_
      refine wr_aload_n rfl rfl rfl ?_
      refine wr_get (ci := 7) (f := 6) rfl rfl rfl (by assumption) rfl ?_
      refine wr_icmp_gt rfl rfl rfl (by omega) (by omega) (fun c53 => by exfalso; omega) (fun c53 => ?_)
      refine wr_aload_n rfl rfl rfl ?_
      refine wr_iload rfl rfl rfl ?_
      refine wr_lload rfl rfl rfl ?_
      refine wr_aload_n rfl rfl rfl ?_
      refine wr_get (ci := 0) (f := 9) rfl rfl rfl (by assumption) rfl ?_
      refine wr_cv3 (k' := 117) (ci := 7) rfl rfl rfl rfl (by assumption) rfl rfl (CALL) (fun r h2 q => ?_)
      obtain ⟨rfl, G2⟩ := q
      dsimp only [Option.toList, List.cons_append, List.nil_append]
      have cb0 := (G2.1.sd hb).1
      rw [eS] at cb0
      have ca0 := G2.1.arc
      unfold arCell at ca0
      have R := CR.re a b c e f g G2
      obtain ⟨⟨tp2, dr2, into2, p2, op2, wr2, wt2, Md2, a2, b2', -⟩, -⟩ := id R.1
      by_cases le : (x : Rat) ≤ OuQ s eo i
      · have s2 : 0 ≤ sA s.N s.e s.ou eo i x := by
          rcases sem with ⟨q, -⟩ | ⟨q, -⟩ | ⟨-, q⟩
          · omega
          · omega
          · grind
        have li : lvF s eo x (s.N + 1) 0 = i := by rw [← hl, lvF, if_pos le]
        rw [li, if_pos (by omega)]
        -- the level there
        have rr : (0 < s.ru i ∧ s.ru i ≤ 99999) ∧ (-99999 ≤ s.ri i ∧ s.ri i ≤ 99999) ∧ (i = 0 → s.ru i = 1 ∧ s.ri i = 0) := by
          by_cases i0 : i = 0
          · subst i0; have := D.z0; omega
          · have pr := hq (by omega)
            have ou : OuQ s eo (i - 1) = s.ou (i - 1) := by unfold OuQ; rw [if_neg (by omega)]
            rw [ou] at pr
            have t := D.top (i := i) (by omega) (by omega) (by grind)
            exact ⟨t.2.1, t.2.2, fun q => absurd q i0⟩
        have o3 := D.ok.2.2.2 (i - 1) (by omega)
        have o4 := D.ok.2.2.1 (i - 1) (by omega)
        have m1 := mulB (a := s.hi (i - 1)) (b := s.ru i) (A := 200000000000) (B := 99999) (by omega) (by omega)
        have m2 := mulB (a := 1000 * s.ri i) (b := x - s.ou (i - 1)) (A := 99999000) (B := 2150000000) (by omega) (by omega)
        have su : -300000000000000000 ≤ sU s.ou s.hi s.ri s.ru i x ∧ sU s.ou s.hi s.ri s.ru i x ≤ 300000000000000000 := by unfold sU; omega
        have U := wp_sU (X := X) (d := d) (i := i) (pl := x) (G2.1.sS hb) (by omega)
        have Lw := wp_sL (X := X) (d := d) (i := i) (G2.1.sS hb) (by omega)
        rw [eS] at U Lw
        have ev : Rat.divInt (sU s.ou s.hi s.ri s.ru i x) (1000 * s.ru i) = lvQ s i x := by
          have rq : (s.ru i : Rat) ≠ 0 := by have := q_pos rr.1.1; grind
          rw [divQ]
          unfold lvQ sU
          by_cases i0 : i = 0
          · rw [if_pos i0]
            have z1 := rr.2.2 i0
            subst i0
            rw [z1.1, z1.2]
            generalize s.hi (0 - 1) = a at *
            have : ((a * 1 + 1000 * 0 * (x - s.ou (0 - 1)) : Int) : Rat) = a := by grind
            rw [this]
            rfl
          · rw [if_neg i0]
            unfold secQ
            generalize s.hi (i - 1) = a at *
            generalize s.ru i = r at *
            generalize s.ri i = k at *
            generalize s.ou (i - 1) = p at *
            clear m1 m2 su o3 o4 rr sem si s2 CALL U Lw
            grind
        refine wr_if_lt rfl rfl rfl (by omega) (fun c68 => by exfalso; omega) (fun c68 => ?_)
        refine wr_aload_n rfl rfl rfl ?_
        refine wr_get (ci := 0) (f := 9) rfl rfl rfl (by assumption) rfl ?_
        refine wr_aload_n rfl rfl rfl ?_
        refine wr_get (ci := 0) (f := 17) rfl rfl rfl (by assumption) rfl ?_
        refine wr_aload_n rfl rfl rfl ?_
        refine wr_iload rfl rfl rfl ?_
        refine wr_lload rfl rfl rfl ?_
        refine wr_cv2 (k' := 127) (ci := 7) rfl rfl rfl rfl (by assumption) rfl rfl (U) (fun r h2 q => ?_)
        obtain ⟨rfl, hh⟩ := q
        rw [hh]
        clear hh h2
        dsimp only [Option.toList, List.cons_append, List.nil_append]
        refine wr_aload_n rfl rfl rfl ?_
        refine wr_iload rfl rfl rfl ?_
        refine wr_cv1 (k' := 130) (ci := 7) rfl rfl rfl rfl (by assumption) rfl rfl (Lw) (fun r h2 q => ?_)
        obtain ⟨rfl, hh⟩ := q
        rw [hh]
        clear hh h2
        dsimp only [Option.toList, List.cons_append, List.nil_append]
        refine wr_cv3 (k' := 79) (ci := 4) rfl rfl rfl rfl (by assumption) rfl rfl (gw_ratio G2.1 mF159 (by omega) (by omega)) (fun r h2 q => ?_)
        obtain ⟨rfl, w⟩ := q
        dsimp only [Option.toList, List.nil_append]
        rw [ev] at w
        have G3 := G2.told w
        have R := CR.re a b c e f g G3
        obtain ⟨⟨tp2, dr2, into2, p2, op2, wr2, wt2, Md2, a2, b2', -⟩, -⟩ := id R.1
        refine wr_aload_n rfl rfl rfl ?_
        refine wr_get (ci := 0) (f := 17) rfl rfl rfl (by assumption) rfl ?_
        refine wr_iconst rfl rfl ?_
        refine wr_iload_n rfl rfl rfl ?_
        refine wr_cs3 (k' := 111) rfl rfl rfl rfl rfl (wp_tell (G3.1.ff _ mF159) (by decide) hp (Or.inl rfl)) (fun r h2 q => ?_)
        obtain ⟨rfl, hh⟩ := q
        rw [hh]
        clear hh h2
        dsimp only [Option.toList, List.cons_append, List.nil_append]
        rw [updR_s]
        refine wr_lret rfl rfl ?_
        exact ⟨rfl, R⟩
      · have s2 : sA s.N s.e s.ou eo i x = -1 := by
          rcases sem with ⟨-, q⟩ | ⟨-, q⟩ | ⟨q, -⟩
          · grind
          · grind
          · exact q
        refine wr_if_lt rfl rfl rfl (by omega) (fun c68 => ?_) (fun c68 => by exfalso; omega)
        refine wr_iinc (ls' := [_, _, _, _, _, _, _]) rfl rfl rfl rfl ?_
        refine wr_goto rfl rfl ?_
        rw [show (i : Int) + 1 = ((i + 1 : Nat) : Int) by omega]
        exact ih (i + 1) _ (by omega) (by rw [← hl, lvF, if_neg le]) (fun _ => by rw [Nat.add_sub_cancel]; grind) G2
  exact L (s.N + 1) 0 h (by omega) rfl (fun q => by omega) G
theorem cr_level {d : Nat} {off part : Int} (C : CR h z) (V : VS z) (ho : -2147483648 ≤ off ∧ off ≤ 2147483647) (hp : -2147483648 ≤ part ∧ part ≤ 2147483647) : am_c X (d + 4) 134 [.ref 0, .int (iI off), .int (iI part)] h (fun r h' => r = some (.long (lI (levP z off part))) ∧ CR h' z ∧ frI [(0, 163)] h h') := by
  have C' := C
  obtain ⟨⟨tp, dr, into, p, op, wr, wt, Md, a, b, c, e, f, g⟩, ws, as, st, ix, pl, S, F, W, G⟩ := C
  have cs0 := G.1.se.1
  have wkb := V.wkb
  obtain ⟨fe1, fe2, fe3, fe4⟩ := G.2.2.1
  unfold levP
  refine am_c.of (Nat.le_of_ble_eq_true rfl) ?_
  show am_w _ _ _ (_, [_, _, _, _, _, _, _], _, _) _
  by_cases w1 : z.wk = 1
  case neg =>
    rw [if_neg w1]
    refine wr_aload_n rfl rfl rfl ?_
    refine wr_get (ci := 0) (f := 10) rfl rfl rfl (by assumption) rfl ?_
    refine wr_get (ci := 6) (f := 2) rfl rfl rfl (by assumption) rfl ?_
    refine wr_if_ne rfl rfl rfl (by omega) (fun c7 => by exfalso; omega) (fun c7 => ?_)
    refine wr_iload_n rfl rfl rfl ?_
    refine wr_cs1 (k' := 107) rfl rfl rfl rfl rfl (wp_missing hp) (fun r h2 q => ?_)
    obtain ⟨rfl, hh⟩ := q
    rw [hh]
    clear hh h2
    dsimp only [Option.toList, List.cons_append, List.nil_append]
    refine wr_lret rfl rfl ?_
    exact ⟨rfl, C', frI_rf _ _⟩
  rw [if_pos w1]
  by_cases o0 : off < 0
  · rw [if_pos o0]
    refine wr_aload_n rfl rfl rfl ?_
    refine wr_get (ci := 0) (f := 10) rfl rfl rfl (by assumption) rfl ?_
    refine wr_get (ci := 6) (f := 2) rfl rfl rfl (by assumption) rfl ?_
    refine wr_if_ne rfl rfl rfl (by omega) (fun c7 => ?_) (fun c7 => by exfalso; omega)
    refine wr_iload_n rfl rfl rfl ?_
    refine wr_if_ge rfl rfl rfl (by omega) (fun c16 => by exfalso; omega) (fun c16 => ?_)
    refine wr_aload_n rfl rfl rfl ?_
    refine wr_get (ci := 0) (f := 10) rfl rfl rfl (by assumption) rfl ?_
    refine wr_get (ci := 6) (f := 0) rfl rfl rfl (by assumption) rfl ?_
    refine wr_goto rfl rfl ?_
    refine wr_astore_n (ls' := [_, _, _, _, _, _, _]) rfl rfl (Nat.le_of_ble_eq_true rfl) rfl ?_
    refine wr_iload_n rfl rfl rfl ?_
    refine wr_i2l rfl rfl (by omega) ?_
    refine wr_mabs (b := 0) rfl rfl rfl rfl (by omega) ?_
    refine wr_lstore (ls' := [_, _, _, _, _, _, _]) rfl rfl (Nat.le_of_ble_eq_true rfl) rfl ?_
    refine wr_iconst rfl rfl ?_
    refine wr_istore (ls' := [_, _, _, _, _, _, _]) rfl rfl (Nat.le_of_ble_eq_true rfl) rfl ?_
    rw [show ((off.natAbs : Nat) : Int) = -off by omega]
    exact cr_levS V w1 a b c e f g G (Or.inl rfl) G.2.1.1 fe1 (by omega) hp
  · rw [if_neg o0]
    refine wr_aload_n rfl rfl rfl ?_
    refine wr_get (ci := 0) (f := 10) rfl rfl rfl (by assumption) rfl ?_
    refine wr_get (ci := 6) (f := 2) rfl rfl rfl (by assumption) rfl ?_
    refine wr_if_ne rfl rfl rfl (by omega) (fun c7 => ?_) (fun c7 => by exfalso; omega)
    refine wr_iload_n rfl rfl rfl ?_
    refine wr_if_ge rfl rfl rfl (by omega) (fun c16 => ?_) (fun c16 => by exfalso; omega)
    refine wr_aload_n rfl rfl rfl ?_
    refine wr_get (ci := 0) (f := 10) rfl rfl rfl (by assumption) rfl ?_
    refine wr_get (ci := 6) (f := 1) rfl rfl rfl (by assumption) rfl ?_
    refine wr_astore_n (ls' := [_, _, _, _, _, _, _]) rfl rfl (Nat.le_of_ble_eq_true rfl) rfl ?_
    refine wr_iload_n rfl rfl rfl ?_
    refine wr_i2l rfl rfl (by omega) ?_
    refine wr_mabs (b := 0) rfl rfl rfl rfl (by omega) ?_
    refine wr_lstore (ls' := [_, _, _, _, _, _, _]) rfl rfl (Nat.le_of_ble_eq_true rfl) rfl ?_
    refine wr_iconst rfl rfl ?_
    refine wr_istore (ls' := [_, _, _, _, _, _, _]) rfl rfl (Nat.le_of_ble_eq_true rfl) rfl ?_
    rw [show ((off.natAbs : Nat) : Int) = off by omega]
    exact cr_levS V w1 a b c e f g G (Or.inr rfl) G.2.1.2 fe3 (by omega) hp
end STB
