/-! THE CLASS: keep, run, read -/
section STC
variable {X : Nat × (Nat → Int32)} {h0 h h' : am_H} {z : PS} {tp dr into p op ws as : Nat} {wr st ix pl : Int} {wt : Nat → Int} {Md : Tm} {S : Nat → Sq} {F : Nat → Rat} {W : Nat → Int}
/-- kept at metre m: t metres behind the one before -/
def keepP (z : PS) (m : Int) : PS := (PS.mk z.T z.n z.M z.gn z.go z.gl z.al z.ab z.ll z.lr z.wk z.vn z.vo z.vl z.L z.R z.eL z.fL z.eR z.fR z.ch z.tk (z.ks + 1) (m) (flo (areaC z)) (flo (areaF z)) (z.vC + (z.cC + flo (areaC z)) * (500 * (if z.ks = 0 then 0 else m - z.lm))) (z.vF + (z.cF + flo (areaF z)) * (500 * (if z.ks = 0 then 0 else m - z.lm))))
abbrev keepOk (z : PS) (m : Int) : Prop := z.wk = 1 ∧ (0 ≤ m ∧ m ≤ 100000) ∧ (z.ks = 0 ∨ z.lm < m) ∧ z.ks < 20
/-- two states alike in what these cells hold -/
def lik (z z' : PS) : Prop := (z'.vn = z.vn ∧ z'.vo = z.vo ∧ z'.vl = z.vl ∧ z'.wk = z.wk ∧ z'.ch = z.ch ∧ z'.tk = z.tk) ∧ z'.L = z.L ∧ z'.R = z.R ∧ z'.eL = z.eL ∧ z'.fL = z.fL ∧ z'.eR = z.eR ∧ z'.fR = z.fR
theorem area_lik {z' : PS} (l : lik z z') : areaC z' = areaC z ∧ areaF z' = areaF z := by
  obtain ⟨⟨e1, e2, e3, e4, e5, e6⟩, e7, e8, e9, e10, e11, e12⟩ := l
  unfold areaC areaF
  rw [e1, e2, e3, e7, e8, e9, e11]
  exact ⟨rfl, rfl⟩
theorem CG.ew {z' : PS} {F3 : Nat → Rat} {W3 : Nat → Int} (G : CG h0 h z ws as st ix pl S F W) (w3 : GW h0 h' z.vn z.vo z.vl z.wk z.ch z.tk S ws st as ix pl F3 W3) (l : lik z z') (kF : ∀ i, i = 52 ∨ i = 57 ∨ i = 68 ∨ i = 73 ∨ i = 96 ∨ i = 101 → F3 i = F i) (x1 : W3 132 = z'.cC) (x2 : W3 146 = z'.cF) (x3 : F3 140 = z'.vC) (x4 : F3 154 = z'.vF) : CG h0 h' z' ws as st ix pl S F3 W3 := by
  have al := area_lik l
  obtain ⟨⟨e1, e2, e3, e4, e5, e6⟩, e7, e8, e9, e10, e11, e12⟩ := l
  obtain ⟨g, gs, gf, gt, gw, gv, gv2⟩ := G
  unfold CG
  rw [e1, e2, e3, e4, e5, e6, e7, e8, e9, e10, e11, e12, al.1, al.2, kF 52 (by omega), kF 57 (by omega), kF 68 (by omega), kF 73 (by omega), kF 96 (by omega), kF 101 (by omega)]
  exact ⟨w3, gs, gf, gt, ⟨x1, x2⟩, x3, x4⟩
theorem CG.cong {z' : PS} (G : CG h0 h z ws as st ix pl S F W) (l : lik z z') (ec : z'.cC = z.cC ∧ z'.cF = z.cF ∧ z'.vC = z.vC ∧ z'.vF = z.vF) : CG h0 h z' ws as st ix pl S F W := by
  obtain ⟨c1, c2, c3, c4⟩ := ec
  exact G.ew G.1 l (fun _ _ => rfl) (by rw [c1]; exact G.2.2.2.2.1.1) (by rw [c2]; exact G.2.2.2.2.1.2) (by rw [c3]; exact G.2.2.2.2.2.1) (by rw [c4]; exact G.2.2.2.2.2.2)
theorem keep_end {d : Nat} {m : Int} {x2 x3 x4 : Value} {z1 : PS} (R : CR h z1) : am_w X d 135 (120, [.ref 0, .int (iI m), x2, x3, x4], [], h) (fun r h' => r = some (.int (iI (z1.ks + 1))) ∧ CR h' (PS.mk z1.T z1.n z1.M z1.gn z1.go z1.gl z1.al z1.ab z1.ll z1.lr z1.wk z1.vn z1.vo z1.vl z1.L z1.R z1.eL z1.fL z1.eR z1.fR z1.ch z1.tk (z1.ks + 1) (m) z1.cC z1.cF z1.vC z1.vF) ∧ frI [(0, 163)] h h') := by
  obtain ⟨⟨tp5, dr5, into5, p5, op5, wr5, wt5, Md5, a5, b5, c5, e5, f5, g5⟩, ws5, as5, st5, ix5, pl5, S5, F5, W5, G5⟩ := id R
  refine wr_aload_n rfl rfl rfl ?_
  refine wr_iload_n rfl rfl rfl ?_
  refine wr_putI (ci := 0) (f := 16) (fs' := [_, _, _, _, _, _, _, _, _, _, _, _, _, _, _, _, _, _]) rfl rfl rfl (by assumption) rfl rfl rfl (fun h1 e1 => ?_)
  have B := CR.ob (z' := (PS.mk z1.T z1.n z1.M z1.gn z1.go z1.gl z1.al z1.ab z1.ll z1.lr z1.wk z1.vn z1.vo z1.vl z1.L z1.R z1.eL z1.fL z1.eR z1.fR z1.ch z1.tk z1.ks (m) z1.cC z1.cF z1.vC z1.vF)) R e1 a5 c5 e5 f5 g5 (G5.cong ⟨⟨rfl, rfl, rfl, rfl, rfl, rfl⟩, rfl, rfl, rfl, rfl, rfl, rfl⟩ ⟨rfl, rfl, rfl, rfl⟩)
  obtain ⟨⟨tp5, dr5, into5, p5, op5, wr5, wt5, Md5, a5, b5, c5, e5, f5, g5⟩, ws5, as5, st5, ix5, pl5, S5, F5, W5, G5⟩ := id B.1
  refine wr_aload_n rfl rfl rfl ?_
  refine wr_dup rfl rfl ?_
  refine wr_get (ci := 0) (f := 15) rfl rfl rfl (by assumption) rfl ?_
  refine wr_iconst rfl rfl ?_
  refine wr_iadd rfl rfl ?_
  refine wr_putI (ci := 0) (f := 15) (fs' := [_, _, _, _, _, _, _, _, _, _, _, _, _, _, _, _, _, _]) rfl rfl rfl (by assumption) rfl rfl rfl (fun h1 e1 => ?_)
  have B2 := CR.ob (z' := (PS.mk z1.T z1.n z1.M z1.gn z1.go z1.gl z1.al z1.ab z1.ll z1.lr z1.wk z1.vn z1.vo z1.vl z1.L z1.R z1.eL z1.fL z1.eR z1.fR z1.ch z1.tk (z1.ks + 1) (m) z1.cC z1.cF z1.vC z1.vF)) B.1 e1 a5 c5 e5 f5 g5 (G5.cong ⟨⟨rfl, rfl, rfl, rfl, rfl, rfl⟩, rfl, rfl, rfl, rfl, rfl, rfl⟩ ⟨rfl, rfl, rfl, rfl⟩)
  obtain ⟨⟨tp5, dr5, into5, p5, op5, wr5, wt5, Md5, a5, b5, c5, e5, f5, g5⟩, -⟩ := id B2.1
  refine wr_aload_n rfl rfl rfl ?_
  refine wr_get (ci := 0) (f := 15) rfl rfl rfl (by assumption) rfl ?_
  refine wr_iret rfl rfl ?_
  exact ⟨rfl, B2.1, frI_tr B.2 B2.2⟩
theorem cr_keep {d : Nat} {m : Int} (C : CR h z) (V : VS z) (hm : -2147483648 ≤ m ∧ m ≤ 2147483647) : am_c X (d + 8) 135 [.ref 0, .int (iI m)] h (fun r h' => (keepOk z m ∧ r = some (.int (iI (z.ks + 1))) ∧ CR h' (keepP z m) ∧ frI [(0, 163)] h h') ∨ (¬ keepOk z m ∧ r = some (.int (iI (-1))) ∧ CR h' z ∧ frI [(0, 163)] h h')) := by
  have C' := C
  obtain ⟨⟨tp, dr, into, p, op, wr, wt, Md, a, b, c, e, f, g⟩, ws, as, st, ix, pl, S, F, W, G⟩ := C
  have cs0 := G.1.se.1
  have caa := G.1.aa
  have wkb := V.wkb
  have ksb := V.ksb
  have lmb := V.lmb
  have bw := b2_in (0 ≤ m ∧ m ≤ 100000)
  have NO : ∀ x : Value, am_w X (d + 7) 135 (54, [.ref 0, .int (iI m), x, am_U, am_U], [], h) (fun r h' => (keepOk z m ∧ r = some (.int (iI (z.ks + 1))) ∧ CR h' (keepP z m) ∧ frI [(0, 163)] h h') ∨ (¬ keepOk z m ∧ r = some (.int (iI (-1))) ∧ CR h' z ∧ frI [(0, 163)] h h')) ∨ keepOk z m := by
    intro x
    by_cases ko : keepOk z m
    · exact Or.inr ko
    · refine Or.inl ?_
      refine wr_iconst rfl rfl ?_
      refine wr_iret rfl rfl ?_
      exact Or.inr ⟨ko, rfl, C', frI_rf _ _⟩
  have J : ∀ bh : Int, (bh = 0 ∨ bh = 1) → (bh = 1 ↔ (z.ks = 0 ∨ z.lm < m)) → am_w X (d + 7) 135 (21, [.ref 0, .int (iI m), .int (iI bh), am_U, am_U], [], h) (fun r h' => (keepOk z m ∧ r = some (.int (iI (z.ks + 1))) ∧ CR h' (keepP z m) ∧ frI [(0, 163)] h h') ∨ (¬ keepOk z m ∧ r = some (.int (iI (-1))) ∧ CR h' z ∧ frI [(0, 163)] h h')) := by
    intro bh hbh ebh
    have no : ¬ keepOk z m → am_w X (d + 7) 135 (54, [.ref 0, .int (iI m), .int (iI bh), am_U, am_U], [], h) (fun r h' => (keepOk z m ∧ r = some (.int (iI (z.ks + 1))) ∧ CR h' (keepP z m) ∧ frI [(0, 163)] h h') ∨ (¬ keepOk z m ∧ r = some (.int (iI (-1))) ∧ CR h' z ∧ frI [(0, 163)] h h')) := fun q => (NO _).resolve_right q
    by_cases w1 : z.wk = 1
    case neg =>
      refine wr_aload_n rfl rfl rfl ?_
      refine wr_get (ci := 0) (f := 10) rfl rfl rfl (by assumption) rfl ?_
      refine wr_get (ci := 6) (f := 2) rfl rfl rfl (by assumption) rfl ?_
      refine wr_if_eq rfl rfl rfl (by omega) (fun c28 => ?_) (fun c28 => by exfalso; omega)
      exact no (fun q => w1 q.1)
    by_cases m1 : 0 ≤ m ∧ m ≤ 100000
    case neg =>
      have t1 := b2_f m1
      refine wr_aload_n rfl rfl rfl ?_
      refine wr_get (ci := 0) (f := 10) rfl rfl rfl (by assumption) rfl ?_
      refine wr_get (ci := 6) (f := 2) rfl rfl rfl (by assumption) rfl ?_
      refine wr_if_eq rfl rfl rfl (by omega) (fun c28 => by exfalso; omega) (fun c28 => ?_)
      refine wr_iload_n rfl rfl rfl ?_
      refine wr_iconst rfl rfl ?_
      refine wr_ldc (z := 100000) rfl rfl rfl (by decide) ?_
      refine wr_cs3 (k' := 48) rfl rfl rfl rfl rfl (wp_within hm (by decide) (by decide)) (fun r h2 q => ?_)
      obtain ⟨rfl, hh⟩ := q
      rw [hh]
      clear hh h2
      dsimp only [Option.toList, List.cons_append, List.nil_append]
      refine wr_if_eq rfl rfl rfl (by omega) (fun c38 => ?_) (fun c38 => by exfalso; omega)
      exact no (fun q => m1 q.2.1)
    have t1 := b2_t m1
    by_cases b1 : bh = 1
    case neg =>
      refine wr_aload_n rfl rfl rfl ?_
      refine wr_get (ci := 0) (f := 10) rfl rfl rfl (by assumption) rfl ?_
      refine wr_get (ci := 6) (f := 2) rfl rfl rfl (by assumption) rfl ?_
      refine wr_if_eq rfl rfl rfl (by omega) (fun c28 => by exfalso; omega) (fun c28 => ?_)
      refine wr_iload_n rfl rfl rfl ?_
      refine wr_iconst rfl rfl ?_
      refine wr_ldc (z := 100000) rfl rfl rfl (by decide) ?_
      refine wr_cs3 (k' := 48) rfl rfl rfl rfl rfl (wp_within hm (by decide) (by decide)) (fun r h2 q => ?_)
      obtain ⟨rfl, hh⟩ := q
      rw [hh]
      clear hh h2
      dsimp only [Option.toList, List.cons_append, List.nil_append]
      refine wr_if_eq rfl rfl rfl (by omega) (fun c38 => by exfalso; omega) (fun c38 => ?_)
      refine wr_iload_n rfl rfl rfl ?_
      refine wr_if_eq rfl rfl rfl (by omega) (fun c42 => ?_) (fun c42 => by exfalso; omega)
      exact no (fun q => b1 (ebh.mpr q.2.2.1))
    by_cases k1 : z.ks < 20
    case neg =>
      refine wr_aload_n rfl rfl rfl ?_
      refine wr_get (ci := 0) (f := 10) rfl rfl rfl (by assumption) rfl ?_
      refine wr_get (ci := 6) (f := 2) rfl rfl rfl (by assumption) rfl ?_
      refine wr_if_eq rfl rfl rfl (by omega) (fun c28 => by exfalso; omega) (fun c28 => ?_)
      refine wr_iload_n rfl rfl rfl ?_
      refine wr_iconst rfl rfl ?_
      refine wr_ldc (z := 100000) rfl rfl rfl (by decide) ?_
      refine wr_cs3 (k' := 48) rfl rfl rfl rfl rfl (wp_within hm (by decide) (by decide)) (fun r h2 q => ?_)
      obtain ⟨rfl, hh⟩ := q
      rw [hh]
      clear hh h2
      dsimp only [Option.toList, List.cons_append, List.nil_append]
      refine wr_if_eq rfl rfl rfl (by omega) (fun c38 => by exfalso; omega) (fun c38 => ?_)
      refine wr_iload_n rfl rfl rfl ?_
      refine wr_if_eq rfl rfl rfl (by omega) (fun c42 => by exfalso; omega) (fun c42 => ?_)
      refine wr_aload_n rfl rfl rfl ?_
      refine wr_get (ci := 0) (f := 15) rfl rfl rfl (by assumption) rfl ?_
      refine wr_bipush rfl rfl (by decide) ?_
      refine wr_icmp_lt rfl rfl rfl (by omega) (by omega) (fun c51 => by exfalso; omega) (fun c51 => ?_)
      exact no (fun q => k1 q.2.2.2)
    have ko : keepOk z m := ⟨w1, m1, ebh.mp b1, k1⟩
    refine wr_aload_n rfl rfl rfl ?_
    refine wr_get (ci := 0) (f := 10) rfl rfl rfl (by assumption) rfl ?_
    refine wr_get (ci := 6) (f := 2) rfl rfl rfl (by assumption) rfl ?_
    refine wr_if_eq rfl rfl rfl (by omega) (fun c28 => by exfalso; omega) (fun c28 => ?_)
    refine wr_iload_n rfl rfl rfl ?_
    refine wr_iconst rfl rfl ?_
    refine wr_ldc (z := 100000) rfl rfl rfl (by decide) ?_
    refine wr_cs3 (k' := 48) rfl rfl rfl rfl rfl (wp_within hm (by decide) (by decide)) (fun r h2 q => ?_)
    obtain ⟨rfl, hh⟩ := q
    rw [hh]
    clear hh h2
    dsimp only [Option.toList, List.cons_append, List.nil_append]
    refine wr_if_eq rfl rfl rfl (by omega) (fun c38 => by exfalso; omega) (fun c38 => ?_)
    refine wr_iload_n rfl rfl rfl ?_
    refine wr_if_eq rfl rfl rfl (by omega) (fun c42 => by exfalso; omega) (fun c42 => ?_)
    refine wr_aload_n rfl rfl rfl ?_
    refine wr_get (ci := 0) (f := 15) rfl rfl rfl (by assumption) rfl ?_
    refine wr_bipush rfl rfl (by decide) ?_
    refine wr_icmp_lt rfl rfl rfl (by omega) (by omega) (fun c51 => ?_) (fun c51 => by exfalso; omega)
    refine wr_aload_n rfl rfl rfl ?_
    refine wr_get (ci := 0) (f := 12) rfl rfl rfl (by assumption) rfl ?_
    refine wr_cv0 (k' := 122) (ci := 10) rfl rfl rfl rfl (by assumption) rfl rfl (cr_settle V G w1) (fun r h2 q => ?_)
    obtain ⟨rfl, as', ix', pl', F', G', v1, v2, q1, q2⟩ := q
    dsimp only [Option.toList, List.nil_append]
    have R := CR.re a b c e f g G'
    obtain ⟨⟨tp2, dr2, into2, p2, op2, wr2, wt2, Md2, -, b2', -⟩, -⟩ := id R.1
    have cb := V.cb
    have vb := V.vb
    obtain ⟨gg, gs, gf, gt, gw, gv, gv2⟩ := id G'
    obtain ⟨mt, emt⟩ : ∃ y, y = (if z.ks = 0 then 0 else m - z.lm) := ⟨_, rfl⟩
    have mtr : 0 ≤ mt ∧ mt ≤ 100000 := by
      rw [emt]
      split
      · omega
      · rcases ko.2.2.1 with q | q
        · omega
        · omega
    have vbig : (z.ks : Int) * 1000000000000000000000000000000000 ≤ 20 * 1000000000000000000000000000000000 := by omega
    have M : ∀ (x3 : Value), am_w X (d + 7) 135 (81, [.ref 0, .int (iI m), .int (iI bh), am_U, am_U], [.long (lI mt)], h2) (fun r h' => (keepOk z m ∧ r = some (.int (iI (z.ks + 1))) ∧ CR h' (keepP z m) ∧ frI [(0, 163)] h h') ∨ (¬ keepOk z m ∧ r = some (.int (iI (-1))) ∧ CR h' z ∧ frI [(0, 163)] h h')) := by
      intro _
      have caa := gg.aa
      have ce1 := gg.e1
      refine wr_lstore_n (ls' := [_, _, _, _, _]) rfl rfl (Nat.le_of_ble_eq_true rfl) rfl ?_
      refine wr_aload_n rfl rfl rfl ?_
      refine wr_get (ci := 0) (f := 13) rfl rfl rfl (by assumption) rfl ?_
      refine wr_aload_n rfl rfl rfl ?_
      refine wr_get (ci := 0) (f := 12) rfl rfl rfl (by assumption) rfl ?_
      refine wr_get (ci := 10) (f := 3) rfl rfl rfl (by assumption) rfl ?_
      refine wr_lload_n rfl rfl rfl ?_
      refine wr_aload_n rfl rfl rfl ?_
      refine wr_get (ci := 0) (f := 9) rfl rfl rfl (by assumption) rfl ?_
      refine wr_cv3 (k' := 136) (ci := 11) rfl rfl rfl rfl (by assumption) rfl rfl (gw_ew (E := 131) (f := 96) gg (Or.inl rfl) (Or.inl rfl) v1 (v1 ▸ q1) gv (by omega) (by rw [show W (131 + 1) = z.cC from gw.1]; omega) mtr) (fun r h2 q => ?_)
      obtain ⟨rfl, W2, w2, x1, x2⟩ := q
      dsimp only [Option.toList, List.nil_append]
      have s1 := w2.low
      have caa := w2.aa
      have ce2 := w2.e2
      have b3 : h2[0]? = some _ := (s1 0 (by omega) (by omega)).trans b
      have n101 : (updR F' (131 + 9) ((z.vC + (W (131 + 1) + flo (areaC z)) * (500 * mt) : Int) : Rat)) 101 = areaF z := by rw [updR_n (by decide), v2]
      have n154 : (updR F' (131 + 9) ((z.vC + (W (131 + 1) + flo (areaC z)) * (500 * mt) : Int) : Rat)) (145 + 9) = (z.vF : Rat) := by rw [updR_n (by decide)]; exact gv2
      have w146 : W2 (145 + 1) = z.cF := by rw [x2 _ (by decide) (by decide) (by decide) (by decide)]; exact gw.2
      refine wr_aload_n rfl rfl rfl ?_
      refine wr_get (ci := 0) (f := 14) rfl rfl rfl (by assumption) rfl ?_
      refine wr_aload_n rfl rfl rfl ?_
      refine wr_get (ci := 0) (f := 12) rfl rfl rfl (by assumption) rfl ?_
      refine wr_get (ci := 10) (f := 4) rfl rfl rfl (by assumption) rfl ?_
      refine wr_lload_n rfl rfl rfl ?_
      refine wr_aload_n rfl rfl rfl ?_
      refine wr_get (ci := 0) (f := 9) rfl rfl rfl (by assumption) rfl ?_
      refine wr_cv3 (k' := 136) (ci := 11) rfl rfl rfl rfl (by assumption) rfl rfl (gw_ew (E := 145) (f := 101) w2 (Or.inr rfl) (Or.inr rfl) n101 (by rw [← v2]; exact q2) n154 (by omega) (by rw [w146]; omega) mtr) (fun r h2 q => ?_)
      obtain ⟨rfl, W3, w3, y1, y2⟩ := q
      dsimp only [Option.toList, List.nil_append]
      have G3 : CG h h2 ((PS.mk z.T z.n z.M z.gn z.go z.gl z.al z.ab z.ll z.lr z.wk z.vn z.vo z.vl z.L z.R z.eL z.fL z.eR z.fR z.ch z.tk z.ks z.lm (flo (areaC z)) (flo (areaF z)) (z.vC + (z.cC + flo (areaC z)) * (500 * mt)) (z.vF + (z.cF + flo (areaF z)) * (500 * mt)))) ws as' 1 ix' pl' S (updR (updR F' (131 + 9) ((z.vC + (W (131 + 1) + flo (areaC z)) * (500 * mt) : Int) : Rat)) (145 + 9) ((z.vF + (W2 (145 + 1) + flo (areaF z)) * (500 * mt) : Int) : Rat)) W3 := by
        refine G'.ew w3 ⟨⟨rfl, rfl, rfl, rfl, rfl, rfl⟩, rfl, rfl, rfl, rfl, rfl, rfl⟩ (fun i hi => ?_) ?_ y1 ?_ ?_
        · rw [updR_n (by omega), updR_n (by omega)]
        · rw [y2 132 (by decide) (by decide) (by decide) (by decide)]; exact x1
        · rw [updR_n (by decide), updR_s, show W (131 + 1) = z.cC from gw.1]
        · rw [updR_s, w146]
      have R3 := CR.re (z := (PS.mk z.T z.n z.M z.gn z.go z.gl z.al z.ab z.ll z.lr z.wk z.vn z.vo z.vl z.L z.R z.eL z.fL z.eR z.fR z.ch z.tk z.ks z.lm (flo (areaC z)) (flo (areaF z)) (z.vC + (z.cC + flo (areaC z)) * (500 * mt)) (z.vF + (z.cF + flo (areaF z)) * (500 * mt)))) a b c e f g G3
      refine am_w.mono (keep_end R3.1) (fun r h' q => ?_)
      obtain ⟨q1, q2, q3⟩ := q
      refine Or.inl ⟨ko, q1, ?_, frI_tr R3.2 q3⟩
      unfold keepP
      rw [← emt]
      exact q2
    by_cases k0 : z.ks = 0
    · rw [if_pos k0] at emt
      refine wr_aload_n rfl rfl rfl ?_
      refine wr_get (ci := 0) (f := 15) rfl rfl rfl (by assumption) rfl ?_
      refine wr_if_ne rfl rfl rfl (by omega) (fun c67 => by exfalso; omega) (fun c67 => ?_)
      refine wr_lconst (z := 0) rfl rfl rfl ?_
      refine wr_goto rfl rfl ?_
      have := M .null
      rw [emt] at this
      exact this
    · rw [if_neg k0] at emt
      refine wr_aload_n rfl rfl rfl ?_
      refine wr_get (ci := 0) (f := 15) rfl rfl rfl (by assumption) rfl ?_
      refine wr_if_ne rfl rfl rfl (by omega) (fun c67 => ?_) (fun c67 => by exfalso; omega)
      refine wr_iload_n rfl rfl rfl ?_
      refine wr_aload_n rfl rfl rfl ?_
      refine wr_get (ci := 0) (f := 16) rfl rfl rfl (by assumption) rfl ?_
      refine wr_isub rfl rfl ?_
      refine wr_i2l rfl rfl (by omega) ?_
      have := M .null
      rw [emt] at this
      exact this
  refine am_c.of (Nat.le_of_ble_eq_true rfl) ?_
  show am_w _ _ _ (_, [_, _, _, _, _], _, _) _
  by_cases k0 : z.ks = 0
  ·
    refine wr_aload_n rfl rfl rfl ?_
    refine wr_get (ci := 0) (f := 15) rfl rfl rfl (by assumption) rfl ?_
    refine wr_if_eq rfl rfl rfl (by omega) (fun c4 => ?_) (fun c4 => by exfalso; omega)
    refine wr_iconst rfl rfl ?_
    refine wr_goto rfl rfl ?_
    refine wr_istore_n (ls' := [_, _, _, _, _]) rfl rfl (Nat.le_of_ble_eq_true rfl) rfl ?_
    exact J 1 (Or.inr rfl) ⟨fun _ => Or.inl k0, fun _ => rfl⟩
  · by_cases l0 : z.lm < m
    ·
      refine wr_aload_n rfl rfl rfl ?_
      refine wr_get (ci := 0) (f := 15) rfl rfl rfl (by assumption) rfl ?_
      refine wr_if_eq rfl rfl rfl (by omega) (fun c4 => by exfalso; omega) (fun c4 => ?_)
      refine wr_iload_n rfl rfl rfl ?_
      refine wr_aload_n rfl rfl rfl ?_
      refine wr_get (ci := 0) (f := 16) rfl rfl rfl (by assumption) rfl ?_
      refine wr_icmp_le rfl rfl rfl (by omega) (by omega) (fun c12 => by exfalso; omega) (fun c12 => ?_)
      refine wr_iconst rfl rfl ?_
      refine wr_goto rfl rfl ?_
      refine wr_istore_n (ls' := [_, _, _, _, _]) rfl rfl (Nat.le_of_ble_eq_true rfl) rfl ?_
      exact J 1 (Or.inr rfl) ⟨fun _ => Or.inr l0, fun _ => rfl⟩
    ·
      refine wr_aload_n rfl rfl rfl ?_
      refine wr_get (ci := 0) (f := 15) rfl rfl rfl (by assumption) rfl ?_
      refine wr_if_eq rfl rfl rfl (by omega) (fun c4 => by exfalso; omega) (fun c4 => ?_)
      refine wr_iload_n rfl rfl rfl ?_
      refine wr_aload_n rfl rfl rfl ?_
      refine wr_get (ci := 0) (f := 16) rfl rfl rfl (by assumption) rfl ?_
      refine wr_icmp_le rfl rfl rfl (by omega) (by omega) (fun c12 => ?_) (fun c12 => by exfalso; omega)
      refine wr_iconst rfl rfl ?_
      refine wr_istore_n (ls' := [_, _, _, _, _]) rfl rfl (Nat.le_of_ble_eq_true rfl) rfl ?_
      exact J 0 (Or.inl rfl) ⟨fun q => by omega, fun q => by omega⟩
/-- copying leaves the same rows, where both are 0 behind their ends -/
theorem wp_gcopy2 {d g n g2 n2 : Nat} {off lev off2 lev2 : Nat → Int} (hG : isG h g n off lev) (hG2 : isG h g2 n2 off2 lev2) (hne : g + 2 < g2 ∨ g2 + 2 < g) (z1 : ∀ i, 12 ≤ i → off i = off2 i ∧ lev i = lev2 i) :
    am_c X (d + 1) 55 [.ref g, .ref g2] h (fun r h' => r = none ∧ isG h' g n2 off2 lev2 ∧ fr [g, g + 1, g + 2] h h') := by
  obtain ⟨c0, c1, c2⟩ := id hG
  obtain ⟨b0, b1, b2⟩ := id hG2
  refine am_c.of (Nat.le_of_ble_eq_true rfl) ?_
  show am_w _ _ _ (_, [_, _, _], _, _) _
  refine wr_aload_n rfl rfl rfl ?_
  refine wr_aload_n rfl rfl rfl ?_
  refine wr_get (ci := 3) (f := 2) rfl rfl rfl (by assumption) rfl ?_
  refine wr_putI (ci := 3) (f := 2) (fs' := [_, _, _]) rfl rfl rfl (by assumption) rfl rfl rfl (fun h1 e1 => ?_)
  have d0 : h1[g]? = some _ := (by rw [e1]; exact am_set_s c0)
  have d1 : h1[g + 1]? = some _ := (by rw [e1, am_set_n (by omega)]; exact c1)
  have d2 : h1[g + 2]? = some _ := (by rw [e1, am_set_n (by omega)]; exact c2)
  have f1 : fr [g, g + 1, g + 2] h h1 := fr_wk (e1 ▸ fr_set1) (fun i hi => by simp at hi ⊢; omega)
  have L : ∀ (m i : Nat) (h1 : am_H) (o1 l1 : Nat → Int), i + m = 12 → fr [g, g + 1, g + 2] h h1 → h1[g]? = some (.inr (cGr, [.ref (g + 1), .ref (g + 2), .int (iI n2)])) → h1[g + 1]? = some (am_ia 12 o1) → h1[g + 2]? = some (am_ia 12 l1) → (∀ j, j < i → o1 j = off2 j ∧ l1 j = lev2 j) → (∀ j, 12 ≤ j → o1 j = off2 j ∧ l1 j = lev2 j) → am_w X d 55 (10, [.ref g, .ref g2, .int (iI i)], [], h1) (fun r h' => r = none ∧ isG h' g n2 off2 lev2 ∧ fr [g, g + 1, g + 2] h h') := by
    intro m
    induction m with
    | zero =>
      intro i h1 o1 l1 hi f d0 d1 d2 hj hz
      have eo : o1 = off2 := funext fun j => by
        by_cases q : j < 12
        · exact (hj j (by omega)).1
        · exact (hz j (by omega)).1
      have el : l1 = lev2 := funext fun j => by
        by_cases q : j < 12
        · exact (hj j (by omega)).2
        · exact (hz j (by omega)).2
      refine wr_iload_n rfl rfl rfl ?_
      refine wr_bipush rfl rfl (by decide) ?_
      refine wr_icmp_ge rfl rfl rfl (by omega) (by omega) (fun c13 => ?_) (fun c13 => ?_)
      ·
        refine wr_vret rfl rfl ?_
        exact ⟨rfl, ⟨d0, eo ▸ d1, el ▸ d2⟩, f⟩
      · exfalso; omega
    | succ m ih =>
      intro i h1 o1 l1 hi f d0 d1 d2 hj hz
      have i0 : h1[g2]? = some _ := (f.2 g2 (by simp; omega)).trans b0
      have i1 : h1[g2 + 1]? = some _ := (f.2 (g2 + 1) (by simp; omega)).trans b1
      have i2 : h1[g2 + 2]? = some _ := (f.2 (g2 + 2) (by simp; omega)).trans b2
      refine wr_iload_n rfl rfl rfl ?_
      refine wr_bipush rfl rfl (by decide) ?_
      refine wr_icmp_ge rfl rfl rfl (by omega) (by omega) (fun c13 => ?_) (fun c13 => ?_)
      · exfalso; omega
      ·
        refine wr_aload_n rfl rfl rfl ?_
        refine wr_get (ci := 3) (f := 0) rfl rfl rfl (by assumption) rfl ?_
        refine wr_iload_n rfl rfl rfl ?_
        refine wr_aload_n rfl rfl rfl ?_
        refine wr_get (ci := 3) (f := 0) rfl rfl rfl (by assumption) rfl ?_
        refine wr_iload_n rfl rfl rfl ?_
        refine wr_iald rfl rfl (by assumption) (by omega) (by omega) ?_
        refine wr_iast rfl rfl d1 (by omega) (by omega) (fun h2 e2 => ?_)
        have k0 : h2[g]? = some _ := (by rw [e2, am_set_n (by omega)]; exact d0)
        have k1 : h2[g + 1]? = some _ := (by rw [e2]; exact am_set_s d1)
        have k2 : h2[g + 2]? = some _ := (by rw [e2, am_set_n (by omega)]; exact d2)
        have j0 : h2[g2]? = some _ := (by rw [e2, am_set_n (by omega)]; exact i0)
        have j2 : h2[g2 + 2]? = some _ := (by rw [e2, am_set_n (by omega)]; exact i2)
        have f2 : fr [g + 1] h1 h2 := e2 ▸ fr_set1
        clear e2
        refine wr_aload_n rfl rfl rfl ?_
        refine wr_get (ci := 3) (f := 1) rfl rfl rfl (by assumption) rfl ?_
        refine wr_iload_n rfl rfl rfl ?_
        refine wr_aload_n rfl rfl rfl ?_
        refine wr_get (ci := 3) (f := 1) rfl rfl rfl (by assumption) rfl ?_
        refine wr_iload_n rfl rfl rfl ?_
        refine wr_iald rfl rfl (by assumption) (by omega) (by omega) ?_
        refine wr_iast rfl rfl k2 (by omega) (by omega) (fun h3 e3 => ?_)
        have f3 : fr [g + 2] h2 h3 := e3 ▸ fr_set1
        refine wr_iinc (ls' := [_, _, _]) rfl rfl rfl rfl ?_
        refine wr_goto rfl rfl ?_
        rw [show (i : Int) + 1 = ((i + 1 : Nat) : Int) by omega]
        refine ih (i + 1) h3 (updI o1 ((i : Int)).toNat _) (updI l1 ((i : Int)).toNat _) (by omega) (fr_tr (fr_tr (U := [g, g + 1, g + 2]) f f2 (fun i hi => hi) (fun i hi => by simp at hi ⊢; omega)) f3 (fun i hi => hi) (fun i hi => by simp at hi ⊢; omega)) (by rw [e3, am_set_n (by omega)]; exact k0) (by rw [e3, am_set_n (by omega)]; exact k1) (by rw [e3]; exact am_set_s k2) (fun j hj' => ?_) (fun j hj' => ?_)
        · rw [show ((i : Int)).toNat = i by omega]
          by_cases e : j = i
          · subst e; rw [updI_s, updI_s]; exact ⟨rfl, rfl⟩
          · rw [updI_n e, updI_n e]; exact hj j (by omega)
        · rw [show ((i : Int)).toNat = i by omega, updI_n (by omega), updI_n (by omega)]
          exact hz j hj'
  clear e1
  refine wr_iconst rfl rfl ?_
  refine wr_istore_n (ls' := [_, _, _]) rfl rfl (Nat.le_of_ble_eq_true rfl) rfl ?_
  exact L 12 0 h1 off lev (by omega) f1 d0 d1 d2 (fun j hj => by omega) z1
def wkL (z : PS) (t : Nat) : WS := wLoop z.M.kd z.M.fi z.M.se z.M.ta z.gn z.go z.gl (-1) z.ab (z.M.en t) 24 (WS.mk (z.L.begin (z.al * 1000)) z.eL z.fL 0 z.tk) (stOf z.M.en t)
def wkR (z : PS) (t : Nat) : WS := wLoop z.M.kd z.M.fi z.M.se z.M.ta z.gn z.go z.gl 1 z.ab (z.M.en t) 24 (WS.mk (z.R.begin (z.al * 1000)) z.eR z.fR (wkL z t).ch (wkL z t).tk) (stOf z.M.en t)
def runP (z : PS) (t : Nat) : PS := (PS.mk z.T z.n z.M z.gn z.go z.gl z.al z.ab z.ll z.lr (1) (z.gn) (z.go) (z.gl) ((wkL z t).s) ((wkR z t).s) ((wkL z t).eo) ((wkL z t).el) ((wkR z t).eo) ((wkR z t).el) ((wkR z t).ch) ((wkR z t).tk) z.ks z.lm z.cC z.cF z.vC z.vF)
theorem begin_sd {n : Nat} {off lev : Nat → Int} {sg H : Int} {q : Sq} {eo el : Rat} (hH : -100000000 ≤ H ∧ H ≤ 100000000) : sdH n off lev sg (q.begin H) eo el := by
  unfold Sq.begin
  refine ⟨⟨Nat.zero_le _, Or.inl rfl, fun i hi => ?_, fun i hi => ?_⟩, ?_, fun i hi => absurd hi (Nat.not_lt_zero _), fun i hi => absurd hi (Nat.not_lt_zero _), fun c => ?_, ?_⟩
  · have : i = 0 := Nat.le_zero.mp hi
    subst this
    show 0 ≤ updI q.ou 0 0 0 ∧ updI q.ou 0 0 0 ≤ 99999 * ((0 : Nat) : Int)
    rw [updI_s]; omega
  · have : i = 0 := Nat.le_zero.mp hi
    subst this
    show -100000000 - 10000000000 * ((0 : Nat) : Int) ≤ updI q.hi 0 H 0 ∧ updI q.hi 0 H 0 ≤ 100000000 + 10000000000 * ((0 : Nat) : Int)
    rw [updI_s]; omega
  · show updI q.ou 0 0 0 = 0
    exact updI_s _ _ _
  · exact absurd (show (0 : Int) = 1 from c) (by decide)
  · show updI q.ri 0 0 0 = 0 ∧ updI q.ru 0 1 0 = 1
    exact ⟨updI_s _ _ _, updI_s _ _ _⟩
theorem walk_ok (V : VS z) {t : Nat} (ht : t < z.M.sz) : (sdH z.gn z.go z.gl (-1) (wkL z t).s (wkL z t).eo (wkL z t).el ∧ (wkL z t).s.N + (wkL z t).ch ≤ 12) ∧ (sdH z.gn z.go z.gl 1 (wkR z t).s (wkR z t).eo (wkR z t).el ∧ (wkR z t).s.N + ((wkR z t).ch - (wkL z t).ch) ≤ 12 ∧ (wkL z t).ch ≤ (wkR z t).ch) := by
  have g := V.tm
  have mo := g.mono t ht
  have ax := V.ax
  have a1 := wLoop_ok (kd := z.M.kd) (fi := z.M.fi) (se := z.M.se) (ta := z.M.ta) (n := z.gn) (off := z.go) (lev := z.gl) (sg := -1) (bank := z.ab) (en := z.M.en t) (st := stOf z.M.en t) (c0 := 0) V.gr (Or.inr rfl) ax.2 (fun k hk => g.row k (by omega)) (fun k h1 h2 h3 => g.tar t k ht h1 h2 h3) (g.cnt t ht) 24 (WS.mk (z.L.begin (z.al * 1000)) z.eL z.fL 0 z.tk) (stOf z.M.en t) ⟨(begin_sd (n := z.gn) (off := z.go) (lev := z.gl) (sg := -1) (eo := z.eL) (el := z.fL) (by omega)).ok, Nat.le_refl _, Nat.le_refl _, by show 0 + (0 - 0) ≤ _; omega⟩ (by omega) (begin_sd (by omega))
  have a2 := wLoop_ok (kd := z.M.kd) (fi := z.M.fi) (se := z.M.se) (ta := z.M.ta) (n := z.gn) (off := z.go) (lev := z.gl) (sg := 1) (bank := z.ab) (en := z.M.en t) (st := stOf z.M.en t) (c0 := (wkL z t).ch) V.gr (Or.inl rfl) ax.2 (fun k hk => g.row k (by omega)) (fun k h1 h2 h3 => g.tar t k ht h1 h2 h3) (g.cnt t ht) 24 (WS.mk (z.R.begin (z.al * 1000)) z.eR z.fR (wkL z t).ch (wkL z t).tk) (stOf z.M.en t) ⟨(begin_sd (n := z.gn) (off := z.go) (lev := z.gl) (sg := 1) (eo := z.eR) (el := z.fR) (by omega)).ok, Nat.le_refl _, Nat.le_refl _, by show 0 + ((wkL z t).ch - (wkL z t).ch) ≤ _; omega⟩ (by omega) (begin_sd (by omega))
  exact ⟨⟨a1.1, by have := a1.2.1; show (wkL z t).s.N + (wkL z t).ch ≤ 12; exact this⟩, a2⟩
theorem cr_run {d : Nat} {t : Int} (C : CR h z) (V : VS z) (zg : ∀ i, 12 ≤ i → z.vo i = z.go i ∧ z.vl i = z.gl i) (ht : -2147483648 ≤ t ∧ t ≤ 2147483647) : am_c X (d + 8) 54 [.ref 0, .int (iI t)] h (fun r h' => ((0 ≤ t ∧ t < z.M.sz) ∧ r = some (.int (iI (cornN (runP z t.toNat)))) ∧ CR h' (runP z t.toNat) ∧ frI [(0, 163)] h h') ∨ (¬ (0 ≤ t ∧ t < z.M.sz) ∧ r = some (.int (iI (-1))) ∧ CR h' z ∧ frI [(0, 163)] h h')) := by
  have C' := C
  obtain ⟨⟨tp, dr, into, p, op, wr, wt, Md, a, b, c, e, f, g⟩, ws, as, st, ix, pl, S, F, W, G⟩ := C
  have ctp := c.1
  have cg := g.1
  have cw := G.1.gr.1
  have cs0 := G.1.se.1
  have k6 := V.tm.k6
  have ax := V.ax
  refine am_c.of (Nat.le_of_ble_eq_true rfl) ?_
  show am_w _ _ _ (_, [_, _], _, _) _
  by_cases t0 : 0 ≤ t
  case neg =>
    refine wr_iload_n rfl rfl rfl ?_
    refine wr_if_lt rfl rfl rfl (by omega) (fun c1 => ?_) (fun c1 => by exfalso; omega)
    refine wr_iconst rfl rfl ?_
    refine wr_iret rfl rfl ?_
    exact Or.inr ⟨fun q => t0 q.1, rfl, C', frI_rf _ _⟩
  by_cases t1 : t < z.M.sz
  case neg =>
    refine wr_iload_n rfl rfl rfl ?_
    refine wr_if_lt rfl rfl rfl (by omega) (fun c1 => by exfalso; omega) (fun c1 => ?_)
    refine wr_iload_n rfl rfl rfl ?_
    refine wr_aload_n rfl rfl rfl ?_
    refine wr_get (ci := 0) (f := 1) rfl rfl rfl (by assumption) rfl ?_
    refine wr_get (ci := 1) (f := 7) rfl rfl rfl (by assumption) rfl ?_
    refine wr_icmp_lt rfl rfl rfl (by omega) (by omega) (fun c12 => by exfalso; omega) (fun c12 => ?_)
    refine wr_iconst rfl rfl ?_
    refine wr_iret rfl rfl ?_
    exact Or.inr ⟨fun q => t1 q.2, rfl, C', frI_rf _ _⟩
  obtain ⟨n, rfl⟩ := Int.eq_ofNat_of_zero_le t0
  rw [Int.toNat_natCast]
  have wo := walk_ok (t := n) V (by omega)
  have tp18 : tp + 5 < 19 := by omega
  refine wr_iload_n rfl rfl rfl ?_
  refine wr_if_lt rfl rfl rfl (by omega) (fun c1 => by exfalso; omega) (fun c1 => ?_)
  refine wr_iload_n rfl rfl rfl ?_
  refine wr_aload_n rfl rfl rfl ?_
  refine wr_get (ci := 0) (f := 1) rfl rfl rfl (by assumption) rfl ?_
  refine wr_get (ci := 1) (f := 7) rfl rfl rfl (by assumption) rfl ?_
  refine wr_icmp_lt rfl rfl rfl (by omega) (by omega) (fun c12 => ?_) (fun c12 => by exfalso; omega)
  refine wr_aload_n rfl rfl rfl ?_
  refine wr_get (ci := 0) (f := 4) rfl rfl rfl (by assumption) rfl ?_
  refine wr_aload_n rfl rfl rfl ?_
  refine wr_get (ci := 0) (f := 3) rfl rfl rfl (by assumption) rfl ?_
  refine wr_cv1 (k' := 55) (ci := 3) rfl rfl rfl rfl (by assumption) rfl rfl (wp_gcopy2 G.1.gr g (by omega) zg) (fun r h2 q => ?_)
  obtain ⟨rfl, q1, q2⟩ := q
  dsimp only [Option.toList, List.nil_append]
  have w := G.1.setG q1 (frI_fr q2 (fun i hi => ⟨(19, 21), by simp, by simp at hi; simp; omega⟩))
  have b1 : h2[0]? = some _ := (w.low 0 (by omega) (by omega)).trans b
  have cs0 := w.se.1
  refine wr_aload_n rfl rfl rfl ?_
  refine wr_get (ci := 0) (f := 10) rfl rfl rfl (by assumption) rfl ?_
  refine wr_aload_n rfl rfl rfl ?_
  refine wr_get (ci := 0) (f := 5) rfl rfl rfl (by assumption) rfl ?_
  refine wr_i2l rfl rfl (by omega) ?_
  refine wr_ldc2 (z := 1000) rfl rfl rfl (by decide) ?_
  refine wr_lmul rfl rfl ?_
  refine wr_cv1 (k' := 56) (ci := 6) rfl rfl rfl rfl (by assumption) rfl rfl (gw_cbegin w) (fun r h2 q => ?_)
  obtain ⟨rfl, w⟩ := q
  dsimp only [Option.toList, List.nil_append]
  have b1 : h2[0]? = some _ := (w.low 0 (by omega) (by omega)).trans b
  have caa := w.aa
  refine wr_aload_n rfl rfl rfl ?_
  refine wr_get (ci := 0) (f := 12) rfl rfl rfl (by assumption) rfl ?_
  refine wr_cv0 (k' := 58) (ci := 10) rfl rfl rfl rfl (by assumption) rfl rfl (gw_aforget w) (fun r h2 q => ?_)
  obtain ⟨rfl, w⟩ := q
  dsimp only [Option.toList, List.nil_append]
  have b1 : h2[0]? = some _ := (w.low 0 (by omega) (by omega)).trans b
  have cs0 := w.se.1
  have cwa := w.wa
  rw [G.2.1.1, G.2.1.2] at w
  obtain ⟨S1, eS1⟩ : ∃ y, y = updS (updS S 46 (z.L.begin (z.al * 1000))) 62 (z.R.begin (z.al * 1000)) := ⟨_, rfl⟩
  rw [← eS1] at w
  have sL : S1 46 = z.L.begin (z.al * 1000) := by rw [eS1, updS_n (by decide), updS_s]
  have sR : S1 62 = z.R.begin (z.al * 1000) := by rw [eS1, updS_s]
  have bL := begin_sd (n := 0) (off := fun _ => 0) (lev := fun _ => 0) (sg := 1) (q := z.L) (eo := 0) (el := 0) (H := z.al * 1000) (by omega)
  have bR := begin_sd (n := 0) (off := fun _ => 0) (lev := fun _ => 0) (sg := 1) (q := z.R) (eo := 0) (el := 0) (H := z.al * 1000) (by omega)
  obtain ⟨fe1, fe2, fe3, fe4⟩ := G.2.2.1
  refine wr_aload_n rfl rfl rfl ?_
  refine wr_get (ci := 0) (f := 11) rfl rfl rfl (by assumption) rfl ?_
  refine wr_aload_n rfl rfl rfl ?_
  refine wr_get (ci := 0) (f := 10) rfl rfl rfl (by assumption) rfl ?_
  refine wr_get (ci := 6) (f := 0) rfl rfl rfl (by assumption) rfl ?_
  refine wr_aload_n rfl rfl rfl ?_
  refine wr_get (ci := 0) (f := 1) rfl rfl rfl (by assumption) rfl ?_
  refine wr_iload_n rfl rfl rfl ?_
  refine wr_aload_n rfl rfl rfl ?_
  refine wr_get (ci := 0) (f := 6) rfl rfl rfl (by assumption) rfl ?_
  refine wr_cv4 (k' := 59) (ci := 9) rfl rfl rfl rfl (by assumption) rfl rfl (gw_walk (c := 0) (b := 46) (tp := n) w c tp18 (Or.inl rfl) V.gr V.tm (by omega) V.tm.od144 ax.2 (by rw [sL]; exact bL.ok) (by rw [sL]; rfl) (by omega)) (fun r h2 q => ?_)
  obtain ⟨rfl, F1, w, v6, v11, K1⟩ := q
  dsimp only [Option.toList, List.nil_append]
  have eL : (wLoop z.M.kd z.M.fi z.M.se z.M.ta z.gn z.go z.gl (sgO 46) z.ab (z.M.en n) 24 (WS.mk (S1 46) (F (46 + 6)) (F (46 + 11)) 0 z.tk) (stOf z.M.en n)) = wkL z n := by
    unfold wkL
    rw [sL, show F (46 + 6) = z.eL from fe1, show F (46 + 11) = z.fL from fe2]
    rfl
  rw [eL] at w v6 v11
  have b1 : h2[0]? = some _ := (w.low 0 (by omega) (by omega)).trans b
  have cs0 := w.se.1
  have cwa := w.wa
  refine wr_aload_n rfl rfl rfl ?_
  refine wr_get (ci := 0) (f := 11) rfl rfl rfl (by assumption) rfl ?_
  refine wr_aload_n rfl rfl rfl ?_
  refine wr_get (ci := 0) (f := 10) rfl rfl rfl (by assumption) rfl ?_
  refine wr_get (ci := 6) (f := 1) rfl rfl rfl (by assumption) rfl ?_
  refine wr_aload_n rfl rfl rfl ?_
  refine wr_get (ci := 0) (f := 1) rfl rfl rfl (by assumption) rfl ?_
  refine wr_iload_n rfl rfl rfl ?_
  refine wr_aload_n rfl rfl rfl ?_
  refine wr_get (ci := 0) (f := 6) rfl rfl rfl (by assumption) rfl ?_
  refine wr_cv4 (k' := 59) (ci := 9) rfl rfl rfl rfl (by assumption) rfl rfl (gw_walk (c := (wkL z n).ch) (b := 62) (tp := n) w c tp18 (Or.inr rfl) V.gr V.tm (by omega) V.tm.od144 ax.2 (by rw [updS_n (by decide), sR]; exact bR.ok) (by rw [updS_n (by decide), sR]; rfl) (by omega)) (fun r h2 q => ?_)
  obtain ⟨rfl, F2, w, v6', v11', K2⟩ := q
  dsimp only [Option.toList, List.nil_append]
  have eR : (wLoop z.M.kd z.M.fi z.M.se z.M.ta z.gn z.go z.gl (sgO 62) z.ab (z.M.en n) 24 (WS.mk (updS S1 46 (wkL z n).s 62) (F1 (62 + 6)) (F1 (62 + 11)) (wkL z n).ch (wkL z n).tk) (stOf z.M.en n)) = wkR z n := by
    unfold wkR
    rw [updS_n (by decide), sR, K1 (62 + 6) (by decide) (by decide) (by decide) (by decide) (by decide), K1 (62 + 11) (by decide) (by decide) (by decide) (by decide) (by decide), show F (62 + 6) = z.eR from fe3, show F (62 + 11) = z.fR from fe4]
    rfl
  rw [eR] at w v6' v11'
  have GG : CG h h2 (runP z n) 62 as 0 ix pl (updS (updS S1 46 (wkL z n).s) 62 (wkR z n).s) F2 W := by
    refine ⟨w, ⟨by rw [updS_n (by decide), updS_s]; rfl, by rw [updS_s]; rfl⟩, ⟨?_, ?_, v6', v11'⟩, Or.inl rfl, G.2.2.2.2.1, ?_, ?_⟩
    · rw [K2 52 (by decide) (by decide) (by decide) (by decide) (by decide)]; exact v6
    · rw [K2 57 (by decide) (by decide) (by decide) (by decide) (by decide)]; exact v11
    · rw [K2 140 (by decide) (by decide) (by decide) (by decide) (by decide), K1 140 (by decide) (by decide) (by decide) (by decide) (by decide)]; exact G.2.2.2.2.2.1
    · rw [K2 154 (by decide) (by decide) (by decide) (by decide) (by decide), K1 154 (by decide) (by decide) (by decide) (by decide) (by decide)]; exact G.2.2.2.2.2.2
  have R := CR.re (z := runP z n) a b c e f g GG
  have b1 : h2[0]? = some _ := (w.low 0 (by omega) (by omega)).trans b
  have cs0 := w.se.1
  have cq := gw_corners (X := X) (d := d + 6) GG.1 (Or.inr rfl)
  rw [GG.2.1.1, GG.2.1.2] at cq
  refine wr_aload_n rfl rfl rfl ?_
  refine wr_get (ci := 0) (f := 10) rfl rfl rfl (by assumption) rfl ?_
  refine wr_cv0 (k' := 105) (ci := 6) rfl rfl rfl rfl (by assumption) rfl rfl (cq) (fun r h2 q => ?_)
  obtain ⟨rfl, hh⟩ := q
  rw [hh]
  clear hh h2
  dsimp only [Option.toList, List.cons_append, List.nil_append]
  refine wr_iret rfl rfl ?_
  exact Or.inl ⟨⟨t0, t1⟩, rfl, R⟩
def readP (z : PS) (M : Tm) : PS := (PS.mk z.T (0) (M) z.gn z.go z.gl z.al z.ab z.ll z.lr (0) z.vn z.vo z.vl z.L z.R z.eL z.fL z.eR z.fR (0) z.tk z.ks z.lm z.cC z.cF z.vC z.vF)
theorem cr_read {d : Nat} (C : CR h z) (V : VS z) : am_c X (d + 7) 16 [.ref 0] h (fun r h' => ∃ (s0 : PT) (en0 : Nat → Int), match pall z.T z.n 500 (PT.mk s0.kd s0.fi s0.se s0.ta (0) s0.st s0.wt s0.op) en0 0 (skp z.T z.n 0) with
    | .error q => r = some (.int (iI (-1 - q))) ∧ CR h' (PS.mk z.T (0) z.M z.gn z.go z.gl z.al z.ab z.ll z.lr z.wk z.vn z.vo z.vl z.L z.R z.eL z.fL z.eR z.fR z.ch z.tk z.ks z.lm z.cC z.cF z.vC z.vF) ∧ frI [(0, 163)] h h'
    | .ok (a, q) => r = some (.int (iI a.2.2)) ∧ CR h' (readP z (Tm.mk a.1.kd a.1.fi a.1.se a.1.ta a.2.1 a.1.od a.1.st a.2.2)) ∧ frI [(0, 163)] h h') := by
  have C' := C
  obtain ⟨⟨tp, dr, into, p, op, wr, wt, Md, a, b, c, e, f, g⟩, ws, as, st, ix, pl, S, F, W, G⟩ := C
  have c13 := f.1
  have cs0 := G.1.se.1
  refine am_c.of (Nat.le_of_ble_eq_true rfl) ?_
  show am_w _ _ _ (_, [_, _, _, _], _, _) _
  refine wr_aload_n rfl rfl rfl ?_
  refine wr_get (ci := 0) (f := 0) rfl rfl rfl (by assumption) rfl ?_
  refine wr_aload_n rfl rfl rfl ?_
  refine wr_get (ci := 0) (f := 2) rfl rfl rfl (by assumption) rfl ?_
  refine wr_cv1 (k' := 17) (ci := 2) rfl rfl rfl rfl (by assumption) rfl rfl (wp_rparse f e (by omega) V.txt) (fun r h2 q => ?_)
  refine am_w.mono (Q' := fun r h' => match pall z.T z.n 500 (PT.mk (ptOf Md wt op).kd (ptOf Md wt op).fi (ptOf Md wt op).se (ptOf Md wt op).ta (0) (ptOf Md wt op).st (ptOf Md wt op).wt (ptOf Md wt op).op) Md.en 0 (skp z.T z.n 0) with
    | .error q => r = some (.int (iI (-1 - q))) ∧ CR h' (PS.mk z.T (0) z.M z.gn z.go z.gl z.al z.ab z.ll z.lr z.wk z.vn z.vo z.vl z.L z.R z.eL z.fL z.eR z.fR z.ch z.tk z.ks z.lm z.cC z.cF z.vC z.vF) ∧ frI [(0, 163)] h h'
    | .ok (a, q) => r = some (.int (iI a.2.2)) ∧ CR h' (readP z (Tm.mk a.1.kd a.1.fi a.1.se a.1.ta a.2.1 a.1.od a.1.st a.2.2)) ∧ frI [(0, 163)] h h') ?_ (fun r h' q => ⟨ptOf Md wt op, Md.en, q⟩)
  cases hP : pall z.T z.n 500 (PT.mk (ptOf Md wt op).kd (ptOf Md wt op).fi (ptOf Md wt op).se (ptOf Md wt op).ta (0) (ptOf Md wt op).st (ptOf Md wt op).wt (ptOf Md wt op).op) Md.en 0 (skp z.T z.n 0) with
  | error y =>
    rw [hP] at q
    obtain ⟨rfl, m', wt', op', pw⟩ := q
    dsimp only [Option.toList, List.cons_append, List.nil_append]
    have f1 : frI [(0, 18)] h h2 := frI_wk pw.fr (fun p hp => ⟨(0, 18), by simp, by simp at hp; rcases hp with rfl | rfl <;> simp; omega⟩)
    have sO : same 0 0 h h2 := pw.fr.same (fun p hp => by simp at hp; rcases hp with rfl | rfl <;> simp only <;> omega)
    have sT : same tp (tp + 5) h h2 := pw.fr.same (fun p hp => by simp at hp; rcases hp with rfl | rfl <;> simp only <;> omega)
    have sG : same 16 18 h h2 := pw.fr.same (fun p hp => by simp at hp; rcases hp with rfl | rfl <;> simp only <;> omega)
    have b1 : h2[0]? = some _ := (sO 0 (by omega) (by omega)).trans b
    have c13 := pw.rd.1
    refine wr_istore_n (ls' := [_, _, _, _]) rfl rfl (Nat.le_of_ble_eq_true rfl) rfl ?_
    refine wr_aload_n rfl rfl rfl ?_
    refine wr_get (ci := 0) (f := 0) rfl rfl rfl (by assumption) rfl ?_
    refine wr_get (ci := 2) (f := 2) rfl rfl rfl (by assumption) rfl ?_
    refine wr_istore_n (ls' := [_, _, _, _]) rfl rfl (Nat.le_of_ble_eq_true rfl) rfl ?_
    refine wr_aload_n rfl rfl rfl ?_
    refine wr_get (ci := 0) (f := 0) rfl rfl rfl (by assumption) rfl ?_
    refine wr_cv0 (k' := 44) (ci := 2) rfl rfl rfl rfl (by assumption) rfl rfl (wp_rforget pw.rd) (fun r h2 q => ?_)
    obtain ⟨rfl, q1, q2⟩ := q
    dsimp only [Option.toList, List.nil_append]
    refine wr_iload_n rfl rfl rfl ?_
    refine wr_if_ne rfl rfl rfl (by omega) (fun c28 => by exfalso; omega) (fun c28 => ?_)
    refine wr_iconst rfl rfl ?_
    refine wr_iload_n rfl rfl rfl ?_
    refine wr_isub rfl rfl ?_
    refine wr_iret rfl rfl ?_
    have s2 : same 0 12 _ h2 := q2.same (fun p hp => by simp at hp; subst hp; simp only; omega)
    have s3 : same 16 18 _ h2 := q2.same (fun p hp => by simp at hp; subst hp; simp only; omega)
    refine ⟨rfl, ⟨⟨tp, dr, dr, y, op', 1, wt', m', a, by rw [s2 0 (by omega) (by omega)]; exact b1, (c.same sT ⟨Nat.le_refl _, Nat.le_refl _⟩).same s2 (by omega), pw.tm.same s2 (by omega), q1, (g.same sG (by omega)).same s3 (by omega)⟩, ws, as, st, ix, pl, S, F, W, (G.keep f1).keep (frI_18 q2 (by omega))⟩, frI_tr (frI_wk f1 (fun p hp => ⟨(0, 163), by simp, by simp at hp; subst hp; simp⟩)) (frI_163 q2 (by omega))⟩
  | ok ay =>
    obtain ⟨ay, y⟩ := ay
    rw [hP] at q
    obtain ⟨rfl, pw⟩ := q
    dsimp only [Option.toList, List.cons_append, List.nil_append] at pw ⊢
    have f1 : frI [(0, 18)] h h2 := frI_wk pw.fr (fun p hp => ⟨(0, 18), by simp, by simp at hp; rcases hp with rfl | rfl <;> simp; omega⟩)
    have sO : same 0 0 h h2 := pw.fr.same (fun p hp => by simp at hp; rcases hp with rfl | rfl <;> simp only <;> omega)
    have sT : same tp (tp + 5) h h2 := pw.fr.same (fun p hp => by simp at hp; rcases hp with rfl | rfl <;> simp only <;> omega)
    have sG : same 16 18 h h2 := pw.fr.same (fun p hp => by simp at hp; rcases hp with rfl | rfl <;> simp only <;> omega)
    have b1 : h2[0]? = some _ := (sO 0 (by omega) (by omega)).trans b
    have c13 := pw.rd.1
    have G1 := G.keep f1
    refine wr_istore_n (ls' := [_, _, _, _]) rfl rfl (Nat.le_of_ble_eq_true rfl) rfl ?_
    refine wr_aload_n rfl rfl rfl ?_
    refine wr_get (ci := 0) (f := 0) rfl rfl rfl (by assumption) rfl ?_
    refine wr_get (ci := 2) (f := 2) rfl rfl rfl (by assumption) rfl ?_
    refine wr_istore_n (ls' := [_, _, _, _]) rfl rfl (Nat.le_of_ble_eq_true rfl) rfl ?_
    refine wr_aload_n rfl rfl rfl ?_
    refine wr_get (ci := 0) (f := 0) rfl rfl rfl (by assumption) rfl ?_
    refine wr_cv0 (k' := 44) (ci := 2) rfl rfl rfl rfl (by assumption) rfl rfl (wp_rforget pw.rd) (fun r h2 q => ?_)
    obtain ⟨rfl, q1, q2⟩ := q
    dsimp only [Option.toList, List.nil_append]
    have s2 : same 0 12 _ h2 := q2.same (fun p hp => by simp at hp; subst hp; simp only; omega)
    have s3 : same 16 18 _ h2 := q2.same (fun p hp => by simp at hp; subst hp; simp only; omega)
    have b2' : h2[0]? = some _ := (s2 0 (by omega) (by omega)).trans b1
    have tT := (c.same sT ⟨Nat.le_refl _, Nat.le_refl _⟩).same s2 (by omega)
    have tD := pw.tm.same s2 (by omega)
    have tG := (g.same sG (by omega)).same s3 (by omega)
    have G2 := G1.keep (frI_18 q2 (by omega))
    have F2 := frI_tr (frI_wk f1 (fun p hp => ⟨(0, 163), by simp, by simp at hp; subst hp; simp⟩)) (frI_163 q2 (by omega))
    have R2 : CR h2 (PS.mk z.T (0) z.M z.gn z.go z.gl z.al z.ab z.ll z.lr z.wk z.vn z.vo z.vl z.L z.R z.eL z.fL z.eR z.fR z.ch z.tk z.ks z.lm z.cC z.cF z.vC z.vF) := ⟨⟨tp, dr, dr, y, ay.1.op, 0, ay.1.wt, _, a, b2', tT, tD, q1, tG⟩, ws, as, st, ix, pl, S, F, W, G2⟩
    refine wr_iload_n rfl rfl rfl ?_
    refine wr_if_ne rfl rfl rfl (by omega) (fun c28 => ?_) (fun c28 => by exfalso; omega)
    refine wr_aload_n rfl rfl rfl ?_
    refine wr_get (ci := 0) (f := 1) rfl rfl rfl (by assumption) rfl ?_
    refine wr_astore_n (ls' := [_, _, _, _]) rfl rfl (Nat.le_of_ble_eq_true rfl) rfl ?_
    refine wr_aload_n rfl rfl rfl ?_
    refine wr_aload_n rfl rfl rfl ?_
    refine wr_get (ci := 0) (f := 2) rfl rfl rfl (by assumption) rfl ?_
    refine wr_putR (ci := 0) (f := 1) (fs' := [_, _, _, _, _, _, _, _, _, _, _, _, _, _, _, _, _, _]) rfl rfl rfl (by assumption) rfl rfl rfl (fun h1 e1 => ?_)
    have g1 : frI [(0, 0)] h2 h1 := e1 ▸ frI_set (by omega)
    have g2 : same 1 18 h2 h1 := g1.same (fun p hp => by simp at hp; subst hp; simp only; omega)
    have b3 : h1[0]? = some _ := (by rw [e1]; exact am_set_s b2')
    clear e1
    refine wr_aload_n rfl rfl rfl ?_
    refine wr_aload_n rfl rfl rfl ?_
    refine wr_putR (ci := 0) (f := 2) (fs' := [_, _, _, _, _, _, _, _, _, _, _, _, _, _, _, _, _, _]) rfl rfl rfl (by assumption) rfl rfl rfl (fun h3 e1 => ?_)
    have g3 : frI [(0, 0)] h1 h3 := e1 ▸ frI_set (by omega)
    have g4 : same 1 18 h1 h3 := g3.same (fun p hp => by simp at hp; subst hp; simp only; omega)
    have b4 : h3[0]? = some _ := (by rw [e1]; exact am_set_s b3)
    clear e1
    have G4 := (G2.keep (frI_18 g1 (by omega))).keep (frI_18 g3 (by omega))
    have cs0 := G4.1.se.1
    have tD4 := (tD.same g2 (by omega)).same g4 (by omega)
    have tT4 := (tT.same g2 (by omega)).same g4 (by omega)
    have tR4 := (q1.same g2 (by omega)).same g4 (by omega)
    have tG4 := (tG.same g2 (by omega)).same g4 (by omega)
    refine wr_aload_n rfl rfl rfl ?_
    refine wr_get (ci := 0) (f := 10) rfl rfl rfl (by assumption) rfl ?_
    refine wr_cv0 (k' := 45) (ci := 6) rfl rfl rfl rfl (by assumption) rfl rfl (gw_cforget G4.1) (fun r h4 q => ?_)
    obtain ⟨rfl, w⟩ := q
    dsimp only [Option.toList, List.nil_append]
    have sl := w.low
    have b5 : h4[0]? = some _ := (sl 0 (by omega) (by omega)).trans b4
    have tD5 := tD4.same sl (by omega)
    have cD := tD5.1
    refine wr_aload_n rfl rfl rfl ?_
    refine wr_get (ci := 0) (f := 1) rfl rfl rfl (by assumption) rfl ?_
    refine wr_get (ci := 1) (f := 7) rfl rfl rfl (by assumption) rfl ?_
    refine wr_iret rfl rfl ?_
    refine ⟨rfl, ⟨⟨dr, tp, dr, y, ay.1.op, 0, ay.1.wt, z.M, by omega, b5, tD5, tT4.same sl (by omega), tR4.same sl (by omega), tG4.same sl (by omega)⟩, ws, as, st, ix, pl, S, F, W, ⟨w.base, G4.2⟩⟩, frI_tr F2 (frI_tr (frI_163 g1 (by omega)) (frI_tr (frI_163 g3 (by omega)) w.out))⟩
end STC
