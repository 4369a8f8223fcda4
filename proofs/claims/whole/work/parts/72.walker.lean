/-! THE CLASS'S WALKER -/
theorem updS_2 (S : Nat → Sq) (b : Nat) (x y : Sq) : updS (updS S b x) b y = updS S b y := by
  funext j
  unfold updS
  split <;> rfl
theorem gU_in {n : Nat} {off lev : Nat → Int} {o : Int} (ok : okG n off lev) : -60000000000 ≤ gU n off lev o ∧ gU n off lev o ≤ 60000000000 := by
  have s := gk_spec n off o
  unfold gU
  generalize gk n off o = k at *
  have l0 := ok.2.2.1 0
  have l1 := ok.2.2.1 (k - 1)
  have l2 := ok.2.2.1 k
  have o1 := ok.2.1 (k - 1)
  have o2 := ok.2.1 k
  split
  · omega
  split
  · omega
  split
  · omega
  · have s1 := s.2.1 (k - 1) (by omega)
    have s2 := s.2.2 (by omega)
    have m1 := mulB (a := lev (k - 1)) (b := off k - off (k - 1)) (A := 100000) (B := 200000) (by omega) (by omega)
    have m2 := mulB (a := lev k - lev (k - 1)) (b := o - off (k - 1)) (A := 200000) (B := 200000) (by omega) (by omega)
    omega
/-- how far the ground is above a corner at ou, hi: over 1000 gL -/
def gapS (n : Nat) (off lev : Nat → Int) (sg ou hi : Int) : Int := 1000 * gU n off lev (sg * ou) - hi * gL n off (sg * ou)
theorem gapS_in {n : Nat} {off lev : Nat → Int} {sg ou hi : Int} (ok : okG n off lev) (hh : -200000000000 ≤ hi ∧ hi ≤ 200000000000) : -100000000000000000 ≤ gapS n off lev sg ou hi ∧ gapS n off lev sg ou hi ≤ 100000000000000000 := by
  have a := gU_in (o := sg * ou) ok
  have b := gL_in (o := sg * ou) ok
  have m := mulB (a := hi) (b := gL n off (sg * ou)) (A := 200000000000) (B := 200000) hh (by omega)
  unfold gapS
  omega
abbrev holdP (k far gap low : Int) : Prop := (k = 6 ∧ 0 < gap) ∨ (k = 7 ∧ gap < 0) ∨ (k = 8 ∧ gap = 0) ∨ (k = 9 ∧ far * low < gap.natAbs)
def okB (s : Sq) : Prop := s.N ≤ 12 ∧ (s.e = 0 ∨ s.e = 1) ∧ (∀ i : Nat, i ≤ s.N → 0 ≤ s.ou i ∧ s.ou i ≤ 99999 * i) ∧ (∀ i : Nat, i ≤ s.N → -100000000 - 10000000000 * i ≤ s.hi i ∧ s.hi i ≤ 100000000 + 10000000000 * i)
theorem sgO_in (b : Nat) : sgO b = 1 ∨ sgO b = -1 := by unfold sgO; split <;> simp
theorem sgO_mul (b : Nat) (x : Int) : sgO b * x = x ∨ sgO b * x = -x := by rcases sgO_in b with e | e <;> rw [e] <;> omega
theorem mF80 : (80, 16) ∈ LF := by decide
theorem mF85 : (85, 16) ∈ LF := by decide
theorem mF90 : (90, 16) ∈ LF := by decide
theorem mF96 : (96, 100) ∈ LF := by decide
theorem mF101 : (101, 100) ∈ LF := by decide
theorem mF106 : (106, 16) ∈ LF := by decide
theorem mF111 : (111, 16) ∈ LF := by decide
theorem mF116 : (116, 16) ∈ LF := by decide
theorem mF121 : (121, 16) ∈ LF := by decide
theorem mF126 : (126, 16) ∈ LF := by decide
theorem mF140 : (140, 16) ∈ LF := by decide
theorem mF154 : (154, 16) ∈ LF := by decide
theorem mF159 : (159, 16) ∈ LF := by decide
section WLK
variable {X : Nat × (Nat → Int32)} {h0 h h' : am_H} {gn ws as b : Nat} {go gl tk : Nat → Int} {wk ch st ix pl : Int} {S : Nat → Sq} {F : Nat → Rat} {W : Nat → Int}
theorem GW.arc (w : GW h0 (h) gn go gl wk ch tk S ws st as ix pl F W) : h[22]? = some (arCell 22) := by
  obtain ⟨v, hv⟩ := w.ar
  exact hv.1
theorem GW.setE (w : GW h0 (h) gn go gl wk ch tk S ws st as ix pl F W) (hb : b = 46 ∨ b = 62) : GW h0 (h.set b (.inr (cSd, [.int (iI (sgO b)), .ref (b + 1), .ref (b + 2), .ref (b + 3), .ref (b + 4), .ref (b + 5), .int (iI (S b).N), .int (iI 1), .ref (b + 6), .ref (b + 11)]))) gn go gl wk ch tk (updS S b (Sq.mk (S b).N 1 (S b).cd (S b).ou (S b).hi (S b).ri (S b).ru)) ws st as ix pl F W := by
  obtain ⟨c0, c1, c2, c3, c4, c5⟩ := w.sd hb
  exact w.setS hb ⟨am_set_s c0, by rw [am_set_n (by omega)]; exact c1, by rw [am_set_n (by omega)]; exact c2, by rw [am_set_n (by omega)]; exact c3, by rw [am_set_n (by omega)]; exact c4, by rw [am_set_n (by omega)]; exact c5⟩ (frI_set (by omega))
theorem gw_gapUp {d : Nat} (w : GW h0 (h) gn go gl wk ch tk S (b) st as ix pl F W) (hb : b = 46 ∨ b = 62) (ok : okG gn go gl) (o : okB (S b)) : am_c X (d + 3) 66 [.ref 79] h (fun r h' => r = some (.long (lI (gapS gn go gl (sgO b) ((S b).ou (S b).N) ((S b).hi (S b).N)))) ∧ h' = h) := by
  have o1 := o.2.2.1 (S b).N (Nat.le_refl _)
  have oN := o.1
  have sg := sgO_in b
  have sm := sgO_mul b ((S b).ou (S b).N)
  have cwa := w.wa
  have cb0 := (w.sd hb).1
  have cg0 := w.gr.1
  have ca0 := w.arc
  unfold arCell at ca0
  have cs0 := w.se.1
  refine am_c.of (Nat.le_of_ble_eq_true rfl) ?_
  show am_w _ _ _ (_, [_, _, _], _, _) _
  refine wr_aload_n rfl rfl rfl ?_
  refine wr_get (ci := 9) (f := 3) rfl rfl rfl (by assumption) rfl ?_
  refine wr_get (ci := 7) (f := 0) rfl rfl rfl (by assumption) rfl ?_
  refine wr_i2l rfl rfl (by omega) ?_
  refine wr_aload_n rfl rfl rfl ?_
  refine wr_get (ci := 9) (f := 3) rfl rfl rfl (by assumption) rfl ?_
  refine wr_aload_n rfl rfl rfl ?_
  refine wr_get (ci := 9) (f := 3) rfl rfl rfl (by assumption) rfl ?_
  refine wr_get (ci := 7) (f := 6) rfl rfl rfl (by assumption) rfl ?_
  refine wr_cv1 (k' := 67) (ci := 7) rfl rfl rfl rfl (by assumption) rfl rfl (wp_sout (w.sS hb) oN) (fun r h2 q => ?_)
  obtain ⟨rfl, hh⟩ := q
  rw [hh]
  clear hh h2
  dsimp only [Option.toList, List.cons_append, List.nil_append]
  refine wr_lmul rfl rfl ?_
  refine wr_lstore_n (ls' := [_, _, _]) rfl rfl (Nat.le_of_ble_eq_true rfl) rfl ?_
  refine wr_ldc2 (z := 1000) rfl rfl rfl (by decide) ?_
  refine wr_aload_n rfl rfl rfl ?_
  refine wr_get (ci := 9) (f := 1) rfl rfl rfl (by assumption) rfl ?_
  refine wr_lload_n rfl rfl rfl ?_
  refine wr_cv1 (k' := 69) (ci := 3) rfl rfl rfl rfl (by assumption) rfl rfl (wp_gU w.gr ok (by omega)) (fun r h2 q => ?_)
  obtain ⟨rfl, hh⟩ := q
  rw [hh]
  clear hh h2
  dsimp only [Option.toList, List.cons_append, List.nil_append]
  refine wr_lmul rfl rfl ?_
  refine wr_aload_n rfl rfl rfl ?_
  refine wr_get (ci := 9) (f := 3) rfl rfl rfl (by assumption) rfl ?_
  refine wr_aload_n rfl rfl rfl ?_
  refine wr_get (ci := 9) (f := 3) rfl rfl rfl (by assumption) rfl ?_
  refine wr_get (ci := 7) (f := 6) rfl rfl rfl (by assumption) rfl ?_
  refine wr_cv1 (k' := 71) (ci := 7) rfl rfl rfl rfl (by assumption) rfl rfl (wp_shigh (w.sS hb) oN) (fun r h2 q => ?_)
  obtain ⟨rfl, hh⟩ := q
  rw [hh]
  clear hh h2
  dsimp only [Option.toList, List.cons_append, List.nil_append]
  refine wr_aload_n rfl rfl rfl ?_
  refine wr_get (ci := 9) (f := 1) rfl rfl rfl (by assumption) rfl ?_
  refine wr_lload_n rfl rfl rfl ?_
  refine wr_cv1 (k' := 72) (ci := 3) rfl rfl rfl rfl (by assumption) rfl rfl (wp_gL w.gr ok (by omega)) (fun r h2 q => ?_)
  obtain ⟨rfl, hh⟩ := q
  rw [hh]
  clear hh h2
  dsimp only [Option.toList, List.cons_append, List.nil_append]
  refine wr_lmul rfl rfl ?_
  refine wr_lsub rfl rfl ?_
  refine wr_lret rfl rfl ?_
  exact ⟨rfl, rfl⟩
theorem gw_gapLow {d : Nat} (w : GW h0 (h) gn go gl wk ch tk S (b) st as ix pl F W) (hb : b = 46 ∨ b = 62) (ok : okG gn go gl) (o : okB (S b)) : am_c X (d + 3) 74 [.ref 79] h (fun r h' => r = some (.long (lI (1000 * gL gn go (sgO b * (S b).ou (S b).N)))) ∧ h' = h) := by
  have o1 := o.2.2.1 (S b).N (Nat.le_refl _)
  have oN := o.1
  have sg := sgO_in b
  have sm := sgO_mul b ((S b).ou (S b).N)
  have cwa := w.wa
  have cb0 := (w.sd hb).1
  have cg0 := w.gr.1
  have ca0 := w.arc
  unfold arCell at ca0
  have cs0 := w.se.1
  refine am_c.of (Nat.le_of_ble_eq_true rfl) ?_
  show am_w _ _ _ (_, [_], _, _) _
  refine wr_ldc2 (z := 1000) rfl rfl rfl (by decide) ?_
  refine wr_aload_n rfl rfl rfl ?_
  refine wr_get (ci := 9) (f := 1) rfl rfl rfl (by assumption) rfl ?_
  refine wr_aload_n rfl rfl rfl ?_
  refine wr_get (ci := 9) (f := 3) rfl rfl rfl (by assumption) rfl ?_
  refine wr_get (ci := 7) (f := 0) rfl rfl rfl (by assumption) rfl ?_
  refine wr_i2l rfl rfl (by omega) ?_
  refine wr_aload_n rfl rfl rfl ?_
  refine wr_get (ci := 9) (f := 3) rfl rfl rfl (by assumption) rfl ?_
  refine wr_aload_n rfl rfl rfl ?_
  refine wr_get (ci := 9) (f := 3) rfl rfl rfl (by assumption) rfl ?_
  refine wr_get (ci := 7) (f := 6) rfl rfl rfl (by assumption) rfl ?_
  refine wr_cv1 (k' := 67) (ci := 7) rfl rfl rfl rfl (by assumption) rfl rfl (wp_sout (w.sS hb) oN) (fun r h2 q => ?_)
  obtain ⟨rfl, hh⟩ := q
  rw [hh]
  clear hh h2
  dsimp only [Option.toList, List.cons_append, List.nil_append]
  refine wr_lmul rfl rfl ?_
  refine wr_cv1 (k' := 72) (ci := 3) rfl rfl rfl rfl (by assumption) rfl rfl (wp_gL w.gr ok (by omega)) (fun r h2 q => ?_)
  obtain ⟨rfl, hh⟩ := q
  rw [hh]
  clear hh h2
  dsimp only [Option.toList, List.cons_append, List.nil_append]
  refine wr_lmul rfl rfl ?_
  refine wr_lret rfl rfl ?_
  exact ⟨rfl, rfl⟩
theorem gw_holds {d : Nat} {k far : Int} (w : GW h0 (h) gn go gl wk ch tk S (b) st as ix pl F W) (hb : b = 46 ∨ b = 62) (ok : okG gn go gl) (o : okB (S b)) (hk : 6 ≤ k ∧ k ≤ 9) (hf : 0 ≤ far ∧ far ≤ 99999) : am_c X (d + 4) 65 [.ref 79, .int (iI k), .long (lI far)] h (fun r h' => r = some (.int (iI (b2 (holdP k far (gapS gn go gl (sgO b) ((S b).ou (S b).N) ((S b).hi (S b).N)) (1000 * gL gn go (sgO b * (S b).ou (S b).N)))))) ∧ h' = h) := by
  have o1 := o.2.2.2 (S b).N (Nat.le_refl _)
  have oN := o.1
  have gi := gapS_in (n := gn) (off := go) (lev := gl) (sg := sgO b) (ou := (S b).ou (S b).N) (hi := (S b).hi (S b).N) ok (by omega)
  have li := gL_in (o := sgO b * (S b).ou (S b).N) ok
  have fm := mulB (a := far) (b := 1000 * gL gn go (sgO b * (S b).ou (S b).N)) (A := 99999) (B := 200000000) (by omega) (by omega)
  have cwa := w.wa
  have cb0 := (w.sd hb).1
  have cg0 := w.gr.1
  have ca0 := w.arc
  unfold arCell at ca0
  have cs0 := w.se.1
  obtain ⟨g, eg⟩ : ∃ g, g = gapS gn go gl (sgO b) ((S b).ou (S b).N) ((S b).hi (S b).N) := ⟨_, rfl⟩
  obtain ⟨L, eL⟩ : ∃ L, L = 1000 * gL gn go (sgO b * (S b).ou (S b).N) := ⟨_, rfl⟩
  rw [← eg] at gi ⊢
  rw [← eL] at fm ⊢
  refine am_c.of (Nat.le_of_ble_eq_true rfl) ?_
  show am_w _ _ _ (_, [_, _, _, _, _, _], _, _) _
  refine wr_aload_n rfl rfl rfl ?_
  refine wr_cv0 (k' := 66) (ci := 9) rfl rfl rfl rfl (by assumption) rfl rfl (gw_gapUp w hb ok o) (fun r h2 q => ?_)
  obtain ⟨rfl, hh⟩ := q
  rw [hh]
  clear hh h2
  dsimp only [Option.toList, List.cons_append, List.nil_append]
  rw [← eg]
  refine wr_lstore (ls' := [_, _, _, _, _, _]) rfl rfl (Nat.le_of_ble_eq_true rfl) rfl ?_
  refine wr_iload_n rfl rfl rfl ?_
  refine sw_65_7 (by omega) (fun c7 => ?_) (fun c7 => ?_) (fun c7 => ?_) (fun c7_0 c7_1 c7_2 => ?_)
  ·
    refine wr_lload rfl rfl rfl ?_
    refine wr_lconst (z := 0) rfl rfl rfl ?_
    refine wr_l_le rfl rfl rfl rfl rfl (by omega) (by omega) (fun c35 => ?_) (fun c35 => ?_)
    ·
      refine wr_iconst rfl rfl ?_
      refine wr_zret rfl rfl (by decide) ?_
      refine ⟨?_, rfl⟩
      first | (exfalso; omega) | rw [b2_t (by omega)] | rw [b2_f (by omega)]
    ·
      refine wr_iconst rfl rfl ?_
      refine wr_goto rfl rfl ?_
      refine wr_zret rfl rfl (by decide) ?_
      refine ⟨?_, rfl⟩
      first | (exfalso; omega) | rw [b2_t (by omega)] | rw [b2_f (by omega)]
  ·
    refine wr_lload rfl rfl rfl ?_
    refine wr_lconst (z := 0) rfl rfl rfl ?_
    refine wr_l_ge rfl rfl rfl rfl rfl (by omega) (by omega) (fun c48 => ?_) (fun c48 => ?_)
    ·
      refine wr_iconst rfl rfl ?_
      refine wr_zret rfl rfl (by decide) ?_
      refine ⟨?_, rfl⟩
      first | (exfalso; omega) | rw [b2_t (by omega)] | rw [b2_f (by omega)]
    ·
      refine wr_iconst rfl rfl ?_
      refine wr_goto rfl rfl ?_
      refine wr_zret rfl rfl (by decide) ?_
      refine ⟨?_, rfl⟩
      first | (exfalso; omega) | rw [b2_t (by omega)] | rw [b2_f (by omega)]
  ·
    refine wr_lload rfl rfl rfl ?_
    refine wr_lconst (z := 0) rfl rfl rfl ?_
    refine wr_l_ne rfl rfl rfl rfl rfl (by omega) (by omega) (fun c61 => ?_) (fun c61 => ?_)
    ·
      refine wr_iconst rfl rfl ?_
      refine wr_zret rfl rfl (by decide) ?_
      refine ⟨?_, rfl⟩
      first | (exfalso; omega) | rw [b2_t (by omega)] | rw [b2_f (by omega)]
    ·
      refine wr_iconst rfl rfl ?_
      refine wr_goto rfl rfl ?_
      refine wr_zret rfl rfl (by decide) ?_
      refine ⟨?_, rfl⟩
      first | (exfalso; omega) | rw [b2_t (by omega)] | rw [b2_f (by omega)]
  ·
    refine wr_lload rfl rfl rfl ?_
    refine wr_mabs (b := 0) rfl rfl rfl rfl (by omega) ?_
    refine wr_lload_n rfl rfl rfl ?_
    refine wr_aload_n rfl rfl rfl ?_
    refine wr_cv0 (k' := 74) (ci := 9) rfl rfl rfl rfl (by assumption) rfl rfl (gw_gapLow w hb ok o) (fun r h2 q => ?_)
    obtain ⟨rfl, hh⟩ := q
    rw [hh]
    clear hh h2
    dsimp only [Option.toList, List.cons_append, List.nil_append]
    rw [← eL]
    refine wr_lmul rfl rfl ?_
    refine wr_l_le rfl rfl rfl rfl rfl (by omega) (by omega) (fun c82 => ?_) (fun c82 => ?_)
    ·
      refine wr_iconst rfl rfl ?_
      refine wr_zret rfl rfl (by decide) ?_
      refine ⟨?_, rfl⟩
      first | (exfalso; omega) | rw [b2_t (by omega)] | rw [b2_f (by omega)]
    ·
      refine wr_iconst rfl rfl ?_
      refine wr_goto rfl rfl ?_
      refine wr_zret rfl rfl (by decide) ?_
      refine ⟨?_, rfl⟩
      first | (exfalso; omega) | rw [b2_t (by omega)] | rw [b2_f (by omega)]
theorem gw_choose {d c : Nat} {x y : Int} (w : GW h0 (h) gn go gl wk ((c : Int)) tk S ws st as ix pl F W) (hc : c < 24) (hx : x = 0 ∨ x = 1) (hy : y = 0 ∨ y = 1) : am_c X (d + 2) 75 [.ref 79, .int (iI x), .int (iI y)] h (fun r h' => r = some (.int (iI x)) ∧ GW h0 (h') gn go gl wk (((c + 1 : Nat) : Int)) (updI tk c (if x = 1 then 1 else if y = 1 then 2 else 0)) S ws st as ix pl F W) := by
  have cwa := w.wa
  have cs0 := w.se.1
  refine am_c.of (Nat.le_of_ble_eq_true rfl) ?_
  show am_w _ _ _ (_, [_, _, _], _, _) _
  rcases hx with rfl | rfl
  · rcases hy with rfl | rfl
    ·
      refine wr_aload_n rfl rfl rfl ?_
      refine wr_get (ci := 9) (f := 0) rfl rfl rfl (by assumption) rfl ?_
      refine wr_iload_n rfl rfl rfl ?_
      refine wr_if_eq rfl rfl rfl (by omega) (fun c5 => ?_) (fun c5 => by exfalso; omega)
      refine wr_iload_n rfl rfl rfl ?_
      refine wr_if_eq rfl rfl rfl (by omega) (fun c13 => ?_) (fun c13 => by exfalso; omega)
      refine wr_iconst rfl rfl ?_
      refine wr_cv1 (k' := 76) (ci := 6) rfl rfl rfl rfl (by assumption) rfl rfl (gw_addChoice w hc) (fun r h2 q => ?_)
      obtain ⟨rfl, w⟩ := q
      dsimp only [Option.toList, List.cons_append, List.nil_append]
      refine wr_iload_n rfl rfl rfl ?_
      refine wr_zret rfl rfl (by decide) ?_
      exact ⟨rfl, w⟩
    ·
      refine wr_aload_n rfl rfl rfl ?_
      refine wr_get (ci := 9) (f := 0) rfl rfl rfl (by assumption) rfl ?_
      refine wr_iload_n rfl rfl rfl ?_
      refine wr_if_eq rfl rfl rfl (by omega) (fun c5 => ?_) (fun c5 => by exfalso; omega)
      refine wr_iload_n rfl rfl rfl ?_
      refine wr_if_eq rfl rfl rfl (by omega) (fun c13 => by exfalso; omega) (fun c13 => ?_)
      refine wr_iconst rfl rfl ?_
      refine wr_goto rfl rfl ?_
      refine wr_cv1 (k' := 76) (ci := 6) rfl rfl rfl rfl (by assumption) rfl rfl (gw_addChoice w hc) (fun r h2 q => ?_)
      obtain ⟨rfl, w⟩ := q
      dsimp only [Option.toList, List.cons_append, List.nil_append]
      refine wr_iload_n rfl rfl rfl ?_
      refine wr_zret rfl rfl (by decide) ?_
      exact ⟨rfl, w⟩
  ·
    refine wr_aload_n rfl rfl rfl ?_
    refine wr_get (ci := 9) (f := 0) rfl rfl rfl (by assumption) rfl ?_
    refine wr_iload_n rfl rfl rfl ?_
    refine wr_if_eq rfl rfl rfl (by omega) (fun c5 => by exfalso; omega) (fun c5 => ?_)
    refine wr_iconst rfl rfl ?_
    refine wr_goto rfl rfl ?_
    refine wr_cv1 (k' := 76) (ci := 6) rfl rfl rfl rfl (by assumption) rfl rfl (gw_addChoice w hc) (fun r h2 q => ?_)
    obtain ⟨rfl, w⟩ := q
    dsimp only [Option.toList, List.cons_append, List.nil_append]
    refine wr_iload_n rfl rfl rfl ?_
    refine wr_zret rfl rfl (by decide) ?_
    exact ⟨rfl, w⟩
theorem gw_stride {d : Nat} {k wd dn : Int} (w : GW h0 (h) gn go gl wk ch tk S (b) st as ix pl F W) (hb : b = 46 ∨ b = 62) (hN : (S b).N < 12) (hk : 1 ≤ k ∧ k ≤ 3) : am_c X (d + 2) 104 [.ref 79, .int (iI k), .long (lI wd), .long (lI dn)] h (fun r h' => r = none ∧ GW h0 (h') gn go gl wk ch tk (updS S b ((S b).add k wd (if k = 3 then 1000 * dn else wd * dn) (-dn) (if k = 3 then wd else 1000))) (b) st as ix pl F W) := by
  have cwa := w.wa
  have cb0 := (w.sd hb).1
  have cg0 := w.gr.1
  have ca0 := w.arc
  unfold arCell at ca0
  have cs0 := w.se.1
  refine am_c.of (Nat.le_of_ble_eq_true rfl) ?_
  show am_w _ _ _ (_, [_, _, _, _, _, _], _, _) _
  by_cases c : k = 3
  · rw [if_pos c, if_pos c]
    refine wr_iload_n rfl rfl rfl ?_
    refine wr_iconst rfl rfl ?_
    refine wr_icmp_ne rfl rfl rfl (by omega) (by omega) (fun c2 => by exfalso; omega) (fun c2 => ?_)
    refine wr_aload_n rfl rfl rfl ?_
    refine wr_get (ci := 9) (f := 3) rfl rfl rfl (by assumption) rfl ?_
    refine wr_iload_n rfl rfl rfl ?_
    refine wr_lload_n rfl rfl rfl ?_
    refine wr_ldc2 (z := 1000) rfl rfl rfl (by decide) ?_
    refine wr_lload rfl rfl rfl ?_
    refine wr_lmul rfl rfl ?_
    refine wr_lload rfl rfl rfl ?_
    refine wr_lneg rfl rfl ?_
    refine wr_lload_n rfl rfl rfl ?_
    refine wr_cv5 (k' := 102) (ci := 7) rfl rfl rfl rfl (by assumption) rfl rfl (gw_sadd w hb hN) (fun r h2 q => ?_)
    obtain ⟨rfl, w⟩ := q
    dsimp only [Option.toList, List.cons_append, List.nil_append]
    have cwa := w.wa
    have cb0 := (w.sd hb).1
    have cg0 := w.gr.1
    have ca0 := w.arc
    unfold arCell at ca0
    have cs0 := w.se.1
    refine wr_goto rfl rfl ?_
    refine wr_vret rfl rfl ?_
    exact ⟨rfl, w⟩
  · rw [if_neg c, if_neg c]
    refine wr_iload_n rfl rfl rfl ?_
    refine wr_iconst rfl rfl ?_
    refine wr_icmp_ne rfl rfl rfl (by omega) (by omega) (fun c2 => ?_) (fun c2 => by exfalso; omega)
    refine wr_aload_n rfl rfl rfl ?_
    refine wr_get (ci := 9) (f := 3) rfl rfl rfl (by assumption) rfl ?_
    refine wr_iload_n rfl rfl rfl ?_
    refine wr_lload_n rfl rfl rfl ?_
    refine wr_lload_n rfl rfl rfl ?_
    refine wr_lload rfl rfl rfl ?_
    refine wr_lmul rfl rfl ?_
    refine wr_lload rfl rfl rfl ?_
    refine wr_lneg rfl rfl ?_
    refine wr_ldc2 (z := 1000) rfl rfl rfl (by decide) ?_
    refine wr_cv5 (k' := 102) (ci := 7) rfl rfl rfl rfl (by assumption) rfl rfl (gw_sadd w hb hN) (fun r h2 q => ?_)
    obtain ⟨rfl, w⟩ := q
    dsimp only [Option.toList, List.cons_append, List.nil_append]
    have cwa := w.wa
    have cb0 := (w.sd hb).1
    have cg0 := w.gr.1
    have ca0 := w.arc
    unfold arCell at ca0
    have cs0 := w.se.1
    refine wr_vret rfl rfl ?_
    exact ⟨rfl, w⟩
theorem gw_wall {d : Nat} (w : GW h0 (h) gn go gl wk ch tk S (b) st as ix pl F W) (hb : b = 46 ∨ b = 62) (ok : okG gn go gl) (o : okB (S b)) (hN : (S b).N < 12) : am_c X (d + 3) 103 [.ref 79] h (fun r h' => r = none ∧ GW h0 (h') gn go gl wk ch tk (updS S b (Sq.mk ((S b).N + 1) (1) (updI (S b).cd ((S b).N + 1) 5) (updI (S b).ou ((S b).N + 1) ((S b).ou (S b).N + 0)) (updI (S b).hi ((S b).N + 1) ((S b).hi (S b).N - 0)) (updI (S b).ri ((S b).N + 1) 0) (updI (S b).ru ((S b).N + 1) 1))) (b) st as ix pl (updR (updR F (b + 6) (Rat.divInt ((S b).ou (S b).N) 1)) (b + 11) (Rat.divInt (gU gn go gl (sgO b * (S b).ou (S b).N)) (gL gn go (sgO b * (S b).ou (S b).N)))) W) := by
  have o1 := o.2.2.1 (S b).N (Nat.le_refl _)
  have oN := o.1
  have sg := sgO_in b
  have sm := sgO_mul b ((S b).ou (S b).N)
  have m1 : (b + 6, 16) ∈ LF := by rcases hb with rfl | rfl <;> decide
  have m2 : (b + 11, 16) ∈ LF := by rcases hb with rfl | rfl <;> decide
  have ui := gU_in (o := sgO b * (S b).ou (S b).N) ok
  have li := gL_in (o := sgO b * (S b).ou (S b).N) ok
  have cwa := w.wa
  have cb0 := (w.sd hb).1
  have cg0 := w.gr.1
  have ca0 := w.arc
  unfold arCell at ca0
  have cs0 := w.se.1
  refine am_c.of (Nat.le_of_ble_eq_true rfl) ?_
  show am_w _ _ _ (_, [_, _, _], _, _) _
  refine wr_aload_n rfl rfl rfl ?_
  refine wr_get (ci := 9) (f := 3) rfl rfl rfl (by assumption) rfl ?_
  refine wr_aload_n rfl rfl rfl ?_
  refine wr_get (ci := 9) (f := 3) rfl rfl rfl (by assumption) rfl ?_
  refine wr_get (ci := 7) (f := 6) rfl rfl rfl (by assumption) rfl ?_
  refine wr_cv1 (k' := 67) (ci := 7) rfl rfl rfl rfl (by assumption) rfl rfl (wp_sout (w.sS hb) oN) (fun r h2 q => ?_)
  obtain ⟨rfl, hh⟩ := q
  rw [hh]
  clear hh h2
  dsimp only [Option.toList, List.cons_append, List.nil_append]
  refine wr_lstore_n (ls' := [_, _, _]) rfl rfl (Nat.le_of_ble_eq_true rfl) rfl ?_
  refine wr_aload_n rfl rfl rfl ?_
  refine wr_get (ci := 9) (f := 2) rfl rfl rfl (by assumption) rfl ?_
  refine wr_aload_n rfl rfl rfl ?_
  refine wr_get (ci := 9) (f := 3) rfl rfl rfl (by assumption) rfl ?_
  refine wr_get (ci := 7) (f := 8) rfl rfl rfl (by assumption) rfl ?_
  refine wr_lload_n rfl rfl rfl ?_
  refine wr_lconst (z := 1) rfl rfl rfl ?_
  refine wr_cv3 (k' := 79) (ci := 4) rfl rfl rfl rfl (by assumption) rfl rfl (gw_ratio w m1 (by omega) (by decide)) (fun r h2 q => ?_)
  obtain ⟨rfl, w⟩ := q
  dsimp only [Option.toList, List.cons_append, List.nil_append]
  have cwa := w.wa
  have cb0 := (w.sd hb).1
  have cg0 := w.gr.1
  have ca0 := w.arc
  unfold arCell at ca0
  have cs0 := w.se.1
  refine wr_aload_n rfl rfl rfl ?_
  refine wr_get (ci := 9) (f := 2) rfl rfl rfl (by assumption) rfl ?_
  refine wr_aload_n rfl rfl rfl ?_
  refine wr_get (ci := 9) (f := 3) rfl rfl rfl (by assumption) rfl ?_
  refine wr_get (ci := 7) (f := 9) rfl rfl rfl (by assumption) rfl ?_
  refine wr_aload_n rfl rfl rfl ?_
  refine wr_get (ci := 9) (f := 1) rfl rfl rfl (by assumption) rfl ?_
  refine wr_aload_n rfl rfl rfl ?_
  refine wr_get (ci := 9) (f := 3) rfl rfl rfl (by assumption) rfl ?_
  refine wr_get (ci := 7) (f := 0) rfl rfl rfl (by assumption) rfl ?_
  refine wr_i2l rfl rfl (by omega) ?_
  refine wr_lload_n rfl rfl rfl ?_
  refine wr_lmul rfl rfl ?_
  refine wr_cv1 (k' := 69) (ci := 3) rfl rfl rfl rfl (by assumption) rfl rfl (wp_gU w.gr ok (by omega)) (fun r h2 q => ?_)
  obtain ⟨rfl, hh⟩ := q
  rw [hh]
  clear hh h2
  dsimp only [Option.toList, List.cons_append, List.nil_append]
  refine wr_aload_n rfl rfl rfl ?_
  refine wr_get (ci := 9) (f := 1) rfl rfl rfl (by assumption) rfl ?_
  refine wr_aload_n rfl rfl rfl ?_
  refine wr_get (ci := 9) (f := 3) rfl rfl rfl (by assumption) rfl ?_
  refine wr_get (ci := 7) (f := 0) rfl rfl rfl (by assumption) rfl ?_
  refine wr_i2l rfl rfl (by omega) ?_
  refine wr_lload_n rfl rfl rfl ?_
  refine wr_lmul rfl rfl ?_
  refine wr_cv1 (k' := 72) (ci := 3) rfl rfl rfl rfl (by assumption) rfl rfl (wp_gL w.gr ok (by omega)) (fun r h2 q => ?_)
  obtain ⟨rfl, hh⟩ := q
  rw [hh]
  clear hh h2
  dsimp only [Option.toList, List.cons_append, List.nil_append]
  refine wr_cv3 (k' := 79) (ci := 4) rfl rfl rfl rfl (by assumption) rfl rfl (gw_ratio w m2 (by omega) (by omega)) (fun r h2 q => ?_)
  obtain ⟨rfl, w⟩ := q
  dsimp only [Option.toList, List.cons_append, List.nil_append]
  have cwa := w.wa
  have cb0 := (w.sd hb).1
  have cg0 := w.gr.1
  have ca0 := w.arc
  unfold arCell at ca0
  have cs0 := w.se.1
  refine wr_aload_n rfl rfl rfl ?_
  refine wr_get (ci := 9) (f := 3) rfl rfl rfl (by assumption) rfl ?_
  refine wr_iconst rfl rfl ?_
  refine wr_lconst (z := 0) rfl rfl rfl ?_
  refine wr_lconst (z := 0) rfl rfl rfl ?_
  refine wr_lconst (z := 0) rfl rfl rfl ?_
  refine wr_lconst (z := 1) rfl rfl rfl ?_
  refine wr_cv5 (k' := 102) (ci := 7) rfl rfl rfl rfl (by assumption) rfl rfl (gw_sadd w hb hN) (fun r h2 q => ?_)
  obtain ⟨rfl, w⟩ := q
  dsimp only [Option.toList, List.cons_append, List.nil_append]
  have cwa := w.wa
  have cb0 := (w.sd hb).1
  have cg0 := w.gr.1
  have ca0 := w.arc
  unfold arCell at ca0
  have cs0 := w.se.1
  refine wr_aload_n rfl rfl rfl ?_
  refine wr_get (ci := 9) (f := 3) rfl rfl rfl (by assumption) rfl ?_
  refine wr_iconst rfl rfl ?_
  refine wr_putZ (ci := 7) (f := 7) (fs' := [_, _, _, _, _, _, _, _, _, _]) rfl rfl rfl (by assumption) rfl rfl (by decide) rfl (fun h1 e1 => ?_)
  have w := e1 ▸ w.setE hb
  rw [updS_2, updS_s] at w
  refine wr_vret rfl rfl ?_
  exact ⟨rfl, w⟩
theorem lfS_in {n j : Nat} {off lev : Nat → Int} {sg out high way up ov : Int} (ok : okG n off lev) (hs : sg = 1 ∨ sg = -1) (ho : 0 ≤ out ∧ out ≤ 2000000) (hh : -200000000000 ≤ high ∧ high ≤ 200000000000) (hw : -1 ≤ way ∧ way ≤ 1) (hu : 0 < up ∧ up ≤ 99999) (hv : 0 < ov ∧ ov ≤ 99999) : -30000000000000000 ≤ lfS n off lev sg out high way up ov j ∧ lfS n off lev sg out high way up ov j ≤ 30000000000000000 := by
  have u := uO_in (j := j) ok hs
  have v := vO_in (j := j) (sg := sg) ok
  have m0 := mulB (a := way) (b := ov) (A := 1) (B := 99999) hw (by omega)
  have m1 := mulB (a := way * ov) (b := 1000 * vO n lev sg j - high) (A := 99999) (B := 200100000000) (by omega) (by omega)
  have m2 := mulB (a := 1000 * up) (b := uO n off sg j - out) (A := 99999000) (B := 2200000) (by omega) (by omega)
  unfold lfS
  omega
theorem qB2 {u L : Int} (h1 : -900000000000000000 ≤ u ∧ u ≤ 900000000000000000) (h2 : 0 < L ∧ L ≤ 900000000000000000) : qB 2 (Rat.divInt u L) := by
  refine qB.div ?_ ⟨h2.1, ?_⟩ <;> rw [show (1000000000 : Int) ^ 2 = 1000000000000000000 by decide] <;> omega
theorem qB1 {u L : Int} (h1 : -900000000 ≤ u ∧ u ≤ 900000000) (h2 : 0 < L ∧ L ≤ 900000000) : qB 1 (Rat.divInt u L) := by
  refine qB.div ?_ ⟨h2.1, ?_⟩ <;> rw [show (1000000000 : Int) ^ 1 = 1000000000 by decide] <;> omega
theorem div1 (a : Int) : Rat.divInt a 1 = (a : Rat) := by rw [divQ]; grind
def keepF (b : Nat) (F F' : Nat → Rat) : Prop := ∀ f, f ≠ 80 → f ≠ 85 → f ≠ 90 → f ≠ b → F' f = F f
theorem gw_meet {d : Nat} {out high way up ov : Int} (w : GW h0 (h) gn go gl wk ch tk S (b) st as ix pl F W) (hb : b = 46 ∨ b = 62) (ok : okG gn go gl) (oN : (S b).N ≤ 12) (eo : (S b).ou (S b).N = out) (eh : (S b).hi (S b).N = high) (ho : 0 ≤ out ∧ out ≤ 2000000) (hh : -200000000000 ≤ high ∧ high ≤ 200000000000) (hu : 0 < up ∧ up ≤ 99999) (hv : 0 < ov ∧ ov ≤ 99999) (hw : way = (1000 * gU gn go gl (sgO b * out) - high * gL gn go (sgO b * out)).sign) (h80 : F 80 = slE gn go gl (sgO b) out high way up ov out) (q80 : qB 2 (F 80)) : am_c X (d + 5) 81 [.ref 79, .int (iI way), .long (lI up), .long (lI ov)] h (fun r h' => r = none ∧ ∃ F', GW h0 (h') gn go gl wk ch tk S (b) st as ix pl (F') W ∧ F' (b + 6) = enS gn go gl (sgO b) out high way up ov (jS gn go gl (sgO b) out high way up ov) ∧ keepF (b + 6) F F') := by
  have hs := sgO_in b
  have wi : -1 ≤ way ∧ way ≤ 1 := by
    rcases Int.lt_trichotomy (1000 * gU gn go gl (sgO b * out) - high * gL gn go (sgO b * out)) 0 with c | c | c
    · rw [hw, Int.sign_eq_neg_one_of_neg c]; decide
    · rw [hw, c]; decide
    · rw [hw, Int.sign_eq_one_of_pos c]; decide
  have SH := slH_of (up := up) (ov := ov) ok hs hu.1 hv.1 hw
  have m6 : (b + 6, 16) ∈ LF := by rcases hb with rfl | rfl <;> decide
  have kn : kO gn go (sgO b) out ≤ gn := (gk_spec gn (uO gn go (sgO b)) out).1
  have n12 := ok.1
  have J : ∀ (p : Int) (F1 : Nat → Rat) (h1 : am_H) (x12 x13 x14 x15 x16 x17 : Value), GW h0 (h1) gn go gl wk ch tk S (b) st as ix pl (F1) W → 0 ≤ p ∧ p ≤ 2000000 → qB 2 (F1 80) → qB 6 (F1 90) → (p : Rat) + F1 80 * F1 90 = enS gn go gl (sgO b) out high way up ov (jS gn go gl (sgO b) out high way up ov) → keepF (b + 6) F F1 → am_w X (d + 4) 81 (255, [.ref 79, .int (iI way), .long (lI up), am_U, .long (lI ov), am_U, .long (lI out), am_U, .long (lI high), am_U, .long (lI p), am_U, x12, x13, x14, x15, x16, x17], [], h1) (fun r h' => r = none ∧ ∃ F', GW h0 (h') gn go gl wk ch tk S (b) st as ix pl (F') W ∧ F' (b + 6) = enS gn go gl (sgO b) out high way up ov (jS gn go gl (sgO b) out high way up ov) ∧ keepF (b + 6) F F') := by
    intro p F1 h1 x12 x13 x14 x15 x16 x17 w hp a80 a90 e K
    have cwa := w.wa
    have cb0 := (w.sd hb).1
    have cg0 := w.gr.1
    have ca0 := w.arc
    unfold arCell at ca0
    have cs0 := w.se.1
    refine wr_aload_n rfl rfl rfl ?_
    refine wr_get (ci := 9) (f := 2) rfl rfl rfl (by assumption) rfl ?_
    refine wr_aload_n rfl rfl rfl ?_
    refine wr_get (ci := 9) (f := 4) rfl rfl rfl (by assumption) rfl ?_
    refine wr_aload_n rfl rfl rfl ?_
    refine wr_get (ci := 9) (f := 4) rfl rfl rfl (by assumption) rfl ?_
    refine wr_aload_n rfl rfl rfl ?_
    refine wr_get (ci := 9) (f := 6) rfl rfl rfl (by assumption) rfl ?_
    refine wr_iconst rfl rfl ?_
    refine wr_cv4 (k' := 101) (ci := 4) rfl rfl rfl rfl (by assumption) rfl rfl (gw_mul w mF80 mF80 mF90 a80 a90 (by decide)) (fun r h2 q => ?_)
    obtain ⟨rfl, w⟩ := q
    dsimp only [Option.toList, List.cons_append, List.nil_append]
    have cwa := w.wa
    have cb0 := (w.sd hb).1
    have cg0 := w.gr.1
    have ca0 := w.arc
    unfold arCell at ca0
    have cs0 := w.se.1
    obtain ⟨F2, e2⟩ : ∃ z, z = updR F1 80 (F1 80 * F1 90) := ⟨_, rfl⟩
    rw [← e2] at w
    refine wr_aload_n rfl rfl rfl ?_
    refine wr_get (ci := 9) (f := 2) rfl rfl rfl (by assumption) rfl ?_
    refine wr_aload_n rfl rfl rfl ?_
    refine wr_get (ci := 9) (f := 5) rfl rfl rfl (by assumption) rfl ?_
    refine wr_lload rfl rfl rfl ?_
    refine wr_lconst (z := 1) rfl rfl rfl ?_
    refine wr_cv3 (k' := 79) (ci := 4) rfl rfl rfl rfl (by assumption) rfl rfl (gw_ratio w mF85 (by omega) (by decide)) (fun r h2 q => ?_)
    obtain ⟨rfl, w⟩ := q
    dsimp only [Option.toList, List.cons_append, List.nil_append]
    have cwa := w.wa
    have cb0 := (w.sd hb).1
    have cg0 := w.gr.1
    have ca0 := w.arc
    unfold arCell at ca0
    have cs0 := w.se.1
    obtain ⟨F3, e3⟩ : ∃ z, z = updR F2 85 (Rat.divInt p 1) := ⟨_, rfl⟩
    rw [← e3] at w
    have v85 : F3 85 = (p : Rat) := by rw [e3, updR_s, div1]
    have v80 : F3 80 = F1 80 * F1 90 := by rw [e3, updR_n (by decide), e2, updR_s]
    have b85 : qB 1 (F3 85) := by rw [e3, updR_s]; exact qB1 (by omega) (by decide)
    have b80 : qB 8 (F3 80) := by rw [v80]; exact (a80.mul a90).mono (by decide)
    refine wr_aload_n rfl rfl rfl ?_
    refine wr_get (ci := 9) (f := 2) rfl rfl rfl (by assumption) rfl ?_
    refine wr_aload_n rfl rfl rfl ?_
    refine wr_get (ci := 9) (f := 3) rfl rfl rfl (by assumption) rfl ?_
    refine wr_get (ci := 7) (f := 8) rfl rfl rfl (by assumption) rfl ?_
    refine wr_aload_n rfl rfl rfl ?_
    refine wr_get (ci := 9) (f := 5) rfl rfl rfl (by assumption) rfl ?_
    refine wr_aload_n rfl rfl rfl ?_
    refine wr_get (ci := 9) (f := 4) rfl rfl rfl (by assumption) rfl ?_
    refine wr_iconst rfl rfl ?_
    refine wr_cv4 (k' := 85) (ci := 4) rfl rfl rfl rfl (by assumption) rfl rfl (gw_sum w m6 mF85 mF80 b85 b80 (by decide)) (fun r h2 q => ?_)
    obtain ⟨rfl, w⟩ := q
    dsimp only [Option.toList, List.cons_append, List.nil_append]
    have cwa := w.wa
    have cb0 := (w.sd hb).1
    have cg0 := w.gr.1
    have ca0 := w.arc
    unfold arCell at ca0
    have cs0 := w.se.1
    refine wr_vret rfl rfl ?_
    refine ⟨rfl, _, w, ?_, fun f f1 f2 f3 f4 => ?_⟩
    · rw [updR_s, v85, v80]; exact e
    · rw [updR_n f4, e3, updR_n f2, e2, updR_n f1]; exact K f f1 f2 f3 f4
  have L : ∀ (m j : Nat) (F1 : Nat → Rat) (h1 : am_H), j + m = gn → kO gn go (sgO b) out ≤ j → (∀ i, kO gn go (sgO b) out ≤ i → i < j → 0 < lfS gn go gl (sgO b) out high way up ov i) → F1 80 = slE gn go gl (sgO b) out high way up ov (plS gn go (sgO b) out j) → qB 2 (F1 80) → F1 90 = Rat.divInt ov up → keepF (b + 6) F F1 → GW h0 (h1) gn go gl wk ch tk S (b) st as ix pl (F1) W → am_w X (d + 4) 81 (53, [.ref 79, .int (iI way), .long (lI up), am_U, .long (lI ov), am_U, .long (lI out), am_U, .long (lI high), am_U, .long (lI (plS gn go (sgO b) out j)), am_U, .int (iI ((j : Int) - kO gn go (sgO b) out)), am_U, am_U, am_U, am_U, am_U], [], h1) (fun r h' => r = none ∧ ∃ F', GW h0 (h') gn go gl wk ch tk S (b) st as ix pl (F') W ∧ F' (b + 6) = enS gn go gl (sgO b) out high way up ov (jS gn go gl (sgO b) out high way up ov) ∧ keepF (b + 6) F F') := by
    intro m
    induction m with
    | zero =>
      intro j F1 h1 hj h0 hB a80 b80 a90 K w
      have pin := plS_in ok hs ho h0 (by omega)
      have gNx := gN_kO (pl := plS gn go (sgO b) out j) ok hs
      rw [kO_pl ok hs h0 (by omega)] at gNx
      have eg : gN go (sgO b) (plS gn go (sgO b) out j) gn = -1 := by omega
      have ej : jS gn go gl (sgO b) out high way up ov = j := jS_stop h0 (by omega) hB (fun q => by omega)
      have cwa := w.wa
      have cb0 := (w.sd hb).1
      have cg0 := w.gr.1
      have ca0 := w.arc
      unfold arCell at ca0
      have cs0 := w.se.1
      refine wr_iload rfl rfl rfl ?_
      refine wr_bipush rfl rfl (by decide) ?_
      refine wr_icmp_gt rfl rfl rfl (by omega) (by omega) (fun c57 => by exfalso; omega) (fun c57 => ?_)
      refine wr_aload_n rfl rfl rfl ?_
      refine wr_get (ci := 9) (f := 1) rfl rfl rfl (by assumption) rfl ?_
      refine wr_aload_n rfl rfl rfl ?_
      refine wr_get (ci := 9) (f := 3) rfl rfl rfl (by assumption) rfl ?_
      refine wr_get (ci := 7) (f := 0) rfl rfl rfl (by assumption) rfl ?_
      refine wr_lload rfl rfl rfl ?_
      refine wr_cv2 (k' := 82) (ci := 3) rfl rfl rfl rfl (by assumption) rfl rfl (wp_gnext w.gr ok hs (by omega)) (fun r h2 q => ?_)
      obtain ⟨rfl, hh⟩ := q
      rw [hh]
      clear hh h2
      dsimp only [Option.toList, List.cons_append, List.nil_append]
      rw [eg]
      refine wr_istore (ls' := [_, _, _, _, _, _, _, _, _, _, _, _, _, _, _, _, _, _]) rfl rfl (Nat.le_of_ble_eq_true rfl) rfl ?_
      refine wr_iload rfl rfl rfl ?_
      refine wr_if_ge rfl rfl rfl (by omega) (fun c80 => by exfalso; omega) (fun c80 => ?_)
      refine wr_goto rfl rfl ?_
      refine J _ F1 _ _ _ _ _ _ _ w pin b80 ?_ ?_ K
      · rw [a90]; exact (qB1 (by omega) (by omega)).mono (by decide)
      · rw [ej, a80, a90, divQ]
        unfold enS
        rw [if_neg (by omega)]
    | succ m ih =>
      intro j F1 h1 hj h0 hB a80 b80 a90 K w
      have pin := plS_in ok hs ho h0 (by omega)
      have gNx := gN_kO (pl := plS gn go (sgO b) out j) ok hs
      rw [kO_pl ok hs h0 (by omega)] at gNx
      have eg : gN go (sgO b) (plS gn go (sgO b) out j) gn = ((ixO gn (sgO b) j : Nat) : Int) := by omega
      have xl := ixO_lt (sg := sgO b) (show j < gn by omega)
      have eu : (if 0 ≤ ((ixO gn (sgO b) j : Nat) : Int) then sgO b * go ((ixO gn (sgO b) j : Nat) : Int).toNat else 0) = uO gn go (sgO b) j := by rw [if_pos (by omega), Int.toNat_natCast]; rfl
      have ev : (if 0 ≤ ((ixO gn (sgO b) j : Nat) : Int) then gl ((ixO gn (sgO b) j : Nat) : Int).toNat else 0) = vO gn gl (sgO b) j := by rw [if_pos (by omega), Int.toNat_natCast]; rfl
      have lf : way * ov * (1000 * vO gn gl (sgO b) j - high) - 1000 * up * (uO gn go (sgO b) j - out) = lfS gn go gl (sgO b) out high way up ov j := rfl
      have li := lfS_in (j := j) ok hs ho hh wi hu hv
      have ui := uO_in (j := j) ok hs
      have cwa := w.wa
      have cb0 := (w.sd hb).1
      have cg0 := w.gr.1
      have ca0 := w.arc
      unfold arCell at ca0
      have cs0 := w.se.1
      refine wr_iload rfl rfl rfl ?_
      refine wr_bipush rfl rfl (by decide) ?_
      refine wr_icmp_gt rfl rfl rfl (by omega) (by omega) (fun c57 => by exfalso; omega) (fun c57 => ?_)
      refine wr_aload_n rfl rfl rfl ?_
      refine wr_get (ci := 9) (f := 1) rfl rfl rfl (by assumption) rfl ?_
      refine wr_aload_n rfl rfl rfl ?_
      refine wr_get (ci := 9) (f := 3) rfl rfl rfl (by assumption) rfl ?_
      refine wr_get (ci := 7) (f := 0) rfl rfl rfl (by assumption) rfl ?_
      refine wr_lload rfl rfl rfl ?_
      refine wr_cv2 (k' := 82) (ci := 3) rfl rfl rfl rfl (by assumption) rfl rfl (wp_gnext w.gr ok hs (by omega)) (fun r h2 q => ?_)
      obtain ⟨rfl, hh⟩ := q
      rw [hh]
      clear hh h2
      dsimp only [Option.toList, List.cons_append, List.nil_append]
      rw [eg]
      refine wr_istore (ls' := [_, _, _, _, _, _, _, _, _, _, _, _, _, _, _, _, _, _]) rfl rfl (Nat.le_of_ble_eq_true rfl) rfl ?_
      refine wr_iload rfl rfl rfl ?_
      refine wr_if_ge rfl rfl rfl (by omega) (fun c80 => ?_) (fun c80 => by exfalso; omega)
      refine wr_aload_n rfl rfl rfl ?_
      refine wr_get (ci := 9) (f := 1) rfl rfl rfl (by assumption) rfl ?_
      refine wr_iload rfl rfl rfl ?_
      refine wr_aload_n rfl rfl rfl ?_
      refine wr_get (ci := 9) (f := 3) rfl rfl rfl (by assumption) rfl ?_
      refine wr_get (ci := 7) (f := 0) rfl rfl rfl (by assumption) rfl ?_
      refine wr_cv2 (k' := 83) (ci := 3) rfl rfl rfl rfl (by assumption) rfl rfl (wp_gout w.gr ok (by omega) hs) (fun r h2 q => ?_)
      obtain ⟨rfl, hh⟩ := q
      rw [hh]
      clear hh h2
      dsimp only [Option.toList, List.cons_append, List.nil_append]
      rw [eu]
      refine wr_lstore (ls' := [_, _, _, _, _, _, _, _, _, _, _, _, _, _, _, _, _, _]) rfl rfl (Nat.le_of_ble_eq_true rfl) rfl ?_
      refine wr_iload_n rfl rfl rfl ?_
      refine wr_i2l rfl rfl (by omega) ?_
      refine wr_lload rfl rfl rfl ?_
      refine wr_lmul rfl rfl ?_
      refine wr_ldc2 (z := 1000) rfl rfl rfl (by decide) ?_
      refine wr_aload_n rfl rfl rfl ?_
      refine wr_get (ci := 9) (f := 1) rfl rfl rfl (by assumption) rfl ?_
      refine wr_iload rfl rfl rfl ?_
      refine wr_cv1 (k' := 84) (ci := 3) rfl rfl rfl rfl (by assumption) rfl rfl (wp_glev w.gr ok (by omega)) (fun r h2 q => ?_)
      obtain ⟨rfl, hh⟩ := q
      rw [hh]
      clear hh h2
      dsimp only [Option.toList, List.cons_append, List.nil_append]
      rw [ev]
      refine wr_lmul rfl rfl ?_
      refine wr_lload rfl rfl rfl ?_
      refine wr_lsub rfl rfl ?_
      refine wr_lmul rfl rfl ?_
      refine wr_ldc2 (z := 1000) rfl rfl rfl (by decide) ?_
      refine wr_lload_n rfl rfl rfl ?_
      refine wr_lmul rfl rfl ?_
      refine wr_lload rfl rfl rfl ?_
      refine wr_lload rfl rfl rfl ?_
      refine wr_lsub rfl rfl ?_
      refine wr_lmul rfl rfl ?_
      refine wr_lsub rfl rfl ?_
      rw [lf]
      refine wr_lstore (ls' := [_, _, _, _, _, _, _, _, _, _, _, _, _, _, _, _, _, _]) rfl rfl (Nat.le_of_ble_eq_true rfl) rfl ?_
      refine wr_aload_n rfl rfl rfl ?_
      refine wr_get (ci := 9) (f := 2) rfl rfl rfl (by assumption) rfl ?_
      refine wr_aload_n rfl rfl rfl ?_
      refine wr_get (ci := 9) (f := 5) rfl rfl rfl (by assumption) rfl ?_
      refine wr_lload rfl rfl rfl ?_
      refine wr_ldc2 (z := 1000) rfl rfl rfl (by decide) ?_
      refine wr_lload rfl rfl rfl ?_
      refine wr_lmul rfl rfl ?_
      refine wr_cv3 (k' := 79) (ci := 4) rfl rfl rfl rfl (by assumption) rfl rfl (gw_ratio w mF85 (by omega) (by omega)) (fun r h2 q => ?_)
      obtain ⟨rfl, w⟩ := q
      dsimp only [Option.toList, List.cons_append, List.nil_append]
      have cwa := w.wa
      have cb0 := (w.sd hb).1
      have cg0 := w.gr.1
      have ca0 := w.arc
      unfold arCell at ca0
      have cs0 := w.se.1
      obtain ⟨F2, e2⟩ : ∃ z, z = updR F1 85 (Rat.divInt (lfS gn go gl (sgO b) out high way up ov j) (1000 * ov)) := ⟨_, rfl⟩
      rw [← e2] at w
      have at85 : F2 85 = slE gn go gl (sgO b) out high way up ov (uO gn go (sgO b) j) := by
        rw [e2, updR_s, slE_at ok hs (by omega) hv.1, divQ]
        grind
      have b85 : qB 2 (F2 85) := by rw [e2, updR_s]; exact qB2 (by omega) (by omega)
      have k80 : F2 80 = F1 80 := by rw [e2, updR_n (by decide)]
      have k90 : F2 90 = F1 90 := by rw [e2, updR_n (by decide)]
      by_cases c : 0 < lfS gn go gl (sgO b) out high way up ov j
      ·
        refine wr_lload rfl rfl rfl ?_
        refine wr_lconst (z := 0) rfl rfl rfl ?_
        refine wr_l_gt rfl rfl rfl rfl rfl (by omega) (by omega) (fun c162 => ?_) (fun c162 => by exfalso; omega)
        refine wr_aload_n rfl rfl rfl ?_
        refine wr_get (ci := 9) (f := 2) rfl rfl rfl (by assumption) rfl ?_
        refine wr_aload_n rfl rfl rfl ?_
        refine wr_get (ci := 9) (f := 4) rfl rfl rfl (by assumption) rfl ?_
        refine wr_lload rfl rfl rfl ?_
        refine wr_ldc2 (z := 1000) rfl rfl rfl (by decide) ?_
        refine wr_lload rfl rfl rfl ?_
        refine wr_lmul rfl rfl ?_
        refine wr_cv3 (k' := 79) (ci := 4) rfl rfl rfl rfl (by assumption) rfl rfl (gw_ratio w mF80 (by omega) (by omega)) (fun r h2 q => ?_)
        obtain ⟨rfl, w⟩ := q
        dsimp only [Option.toList, List.cons_append, List.nil_append]
        have cwa := w.wa
        have cb0 := (w.sd hb).1
        have cg0 := w.gr.1
        have ca0 := w.arc
        unfold arCell at ca0
        have cs0 := w.se.1
        refine wr_lload rfl rfl rfl ?_
        refine wr_lstore (ls' := [_, _, _, _, _, _, _, _, _, _, _, _, _, _, _, _, _, _]) rfl rfl (Nat.le_of_ble_eq_true rfl) rfl ?_
        refine wr_iinc (ls' := [_, _, _, _, _, _, _, _, _, _, _, _, _, _, _, _, _, _]) rfl rfl rfl rfl ?_
        refine wr_goto rfl rfl ?_
        have pe : plS gn go (sgO b) out (j + 1) = uO gn go (sgO b) j := by
          unfold plS
          rw [if_neg (by omega), Nat.add_sub_cancel]
        rw [show (j : Int) - kO gn go (sgO b) out + 1 = ((j + 1 : Nat) : Int) - kO gn go (sgO b) out by omega, ← pe]
        refine am_w.wk (ls' := [_, _, _, _, _, _, _, _, _, _, _, _, _, am_U, am_U, am_U, am_U, am_U]) ⟨Or.inr rfl, Or.inr rfl, Or.inr rfl, Or.inr rfl, Or.inr rfl, Or.inr rfl, Or.inr rfl, Or.inr rfl, Or.inr rfl, Or.inr rfl, Or.inr rfl, Or.inr rfl, Or.inr rfl, Or.inl rfl, Or.inl rfl, Or.inl rfl, Or.inl rfl, Or.inl rfl, trivial⟩ ?_
        refine ih (j + 1) _ _ (by omega) (by omega) (fun i i1 i2 => ?_) ?_ ?_ ?_ (fun f f1 f2 f3 f4 => ?_) w
        · by_cases q : i = j
          · subst q; exact c
          · exact hB i i1 (by omega)
        · rw [updR_s, pe, slE_at ok hs (by omega) hv.1, divQ]
          grind
        · rw [updR_s]; exact qB2 (by omega) (by omega)
        · rw [updR_n (by decide), k90, a90]
        · rw [updR_n f1, e2, updR_n f2]; exact K f f1 f2 f3 f4
      · have ej : jS gn go gl (sgO b) out high way up ov = j := jS_stop h0 (by omega) hB (fun _ => by omega)
        have El := SH.E_lt (by rw [ej]; omega)
        rw [ej] at El
        refine wr_lload rfl rfl rfl ?_
        refine wr_lconst (z := 0) rfl rfl rfl ?_
        refine wr_l_gt rfl rfl rfl rfl rfl (by omega) (by omega) (fun c162 => by exfalso; omega) (fun c162 => ?_)
        refine wr_aload_n rfl rfl rfl ?_
        refine wr_get (ci := 9) (f := 2) rfl rfl rfl (by assumption) rfl ?_
        refine wr_aload_n rfl rfl rfl ?_
        refine wr_get (ci := 9) (f := 5) rfl rfl rfl (by assumption) rfl ?_
        refine wr_aload_n rfl rfl rfl ?_
        refine wr_get (ci := 9) (f := 4) rfl rfl rfl (by assumption) rfl ?_
        refine wr_aload_n rfl rfl rfl ?_
        refine wr_get (ci := 9) (f := 5) rfl rfl rfl (by assumption) rfl ?_
        refine wr_iconst rfl rfl ?_
        refine wr_cv4 (k' := 85) (ci := 4) rfl rfl rfl rfl (by assumption) rfl rfl (gw_dif w mF85 mF80 mF85 (k80.symm ▸ b80) b85 (by decide)) (fun r h2 q => ?_)
        obtain ⟨rfl, w⟩ := q
        dsimp only [Option.toList, List.cons_append, List.nil_append]
        have cwa := w.wa
        have cb0 := (w.sd hb).1
        have cg0 := w.gr.1
        have ca0 := w.arc
        unfold arCell at ca0
        have cs0 := w.se.1
        obtain ⟨F3, e3⟩ : ∃ z, z = updR F2 85 (F2 80 - F2 85) := ⟨_, rfl⟩
        rw [← e3] at w
        refine wr_aload_n rfl rfl rfl ?_
        refine wr_get (ci := 9) (f := 2) rfl rfl rfl (by assumption) rfl ?_
        refine wr_aload_n rfl rfl rfl ?_
        refine wr_get (ci := 9) (f := 6) rfl rfl rfl (by assumption) rfl ?_
        refine wr_lload rfl rfl rfl ?_
        refine wr_lload rfl rfl rfl ?_
        refine wr_lsub rfl rfl ?_
        refine wr_lconst (z := 1) rfl rfl rfl ?_
        refine wr_cv3 (k' := 79) (ci := 4) rfl rfl rfl rfl (by assumption) rfl rfl (gw_ratio w mF90 (by omega) (by decide)) (fun r h2 q => ?_)
        obtain ⟨rfl, w⟩ := q
        dsimp only [Option.toList, List.cons_append, List.nil_append]
        have cwa := w.wa
        have cb0 := (w.sd hb).1
        have cg0 := w.gr.1
        have ca0 := w.arc
        unfold arCell at ca0
        have cs0 := w.se.1
        obtain ⟨F4, e4⟩ : ∃ z, z = updR F3 90 (Rat.divInt (uO gn go (sgO b) j - plS gn go (sgO b) out j) 1) := ⟨_, rfl⟩
        rw [← e4] at w
        have v85 : F4 85 = slE gn go gl (sgO b) out high way up ov (plS gn go (sgO b) out j) - slE gn go gl (sgO b) out high way up ov (uO gn go (sgO b) j) := by rw [e4, updR_n (by decide), e3, updR_s, k80, a80, at85]
        have q85 : qB 5 (F4 85) := by
          rw [e4, updR_n (by decide), e3, updR_s, Rat.sub_eq_add_neg]
          exact (qB.add (show qB 2 (F2 80) from k80.symm ▸ b80) b85.neg).mono (by decide)
        have q90 : qB 1 (F4 90) := by rw [e4, updR_s]; exact qB1 (by omega) (by decide)
        have nz : F4 85 ≠ 0 := by rw [v85]; grind
        have v90 : F4 90 = (uO gn go (sgO b) j : Rat) - plS gn go (sgO b) out j := by rw [e4, updR_s, div1]; grind
        have v80 : F4 80 = F1 80 := by rw [e4, updR_n (by decide), e3, updR_n (by decide), k80]
        refine wr_aload_n rfl rfl rfl ?_
        refine wr_get (ci := 9) (f := 2) rfl rfl rfl (by assumption) rfl ?_
        refine wr_aload_n rfl rfl rfl ?_
        refine wr_get (ci := 9) (f := 6) rfl rfl rfl (by assumption) rfl ?_
        refine wr_aload_n rfl rfl rfl ?_
        refine wr_get (ci := 9) (f := 6) rfl rfl rfl (by assumption) rfl ?_
        refine wr_aload_n rfl rfl rfl ?_
        refine wr_get (ci := 9) (f := 5) rfl rfl rfl (by assumption) rfl ?_
        refine wr_iconst rfl rfl ?_
        refine wr_cv4 (k' := 101) (ci := 4) rfl rfl rfl rfl (by assumption) rfl rfl (gw_quo w mF90 mF90 mF85 nz q90 q85 (by decide)) (fun r h2 q => ?_)
        obtain ⟨rfl, w⟩ := q
        dsimp only [Option.toList, List.cons_append, List.nil_append]
        have cwa := w.wa
        have cb0 := (w.sd hb).1
        have cg0 := w.gr.1
        have ca0 := w.arc
        unfold arCell at ca0
        have cs0 := w.se.1
        refine wr_goto rfl rfl ?_
        refine J _ _ _ _ _ _ _ _ _ w pin ?_ ?_ ?_ (fun f f1 f2 f3 f4 => ?_)
        · rw [updR_n (by decide), v80]; exact b80
        · rw [updR_s, Rat.div_def]; exact (q90.mul (q85.inv (fun q => nz (Rat.num_eq_zero.mp q)))).mono (by decide)
        · rw [updR_s, updR_n (by decide), v80, v85, v90, a80, ej]
          unfold enS
          rw [if_pos (by omega)]
        · rw [updR_n f3, e4, updR_n f3, e3, updR_n f2, e2, updR_n f2]; exact K f f1 f2 f3 f4
  have cwa := w.wa
  have cb0 := (w.sd hb).1
  have cg0 := w.gr.1
  have ca0 := w.arc
  unfold arCell at ca0
  have cs0 := w.se.1
  refine am_c.of (Nat.le_of_ble_eq_true rfl) ?_
  show am_w _ _ _ (_, [_, _, _, _, _, _, _, _, _, _, _, _, _, _, _, _, _, _], _, _) _
  refine wr_aload_n rfl rfl rfl ?_
  refine wr_get (ci := 9) (f := 3) rfl rfl rfl (by assumption) rfl ?_
  refine wr_aload_n rfl rfl rfl ?_
  refine wr_get (ci := 9) (f := 3) rfl rfl rfl (by assumption) rfl ?_
  refine wr_get (ci := 7) (f := 6) rfl rfl rfl (by assumption) rfl ?_
  refine wr_cv1 (k' := 67) (ci := 7) rfl rfl rfl rfl (by assumption) rfl rfl (wp_sout (w.sS hb) oN) (fun r h2 q => ?_)
  obtain ⟨rfl, hh⟩ := q
  rw [hh]
  clear hh h2
  dsimp only [Option.toList, List.cons_append, List.nil_append]
  rw [eo]
  refine wr_lstore (ls' := [_, _, _, _, _, _, _, _, _, _, _, _, _, _, _, _, _, _]) rfl rfl (Nat.le_of_ble_eq_true rfl) rfl ?_
  refine wr_aload_n rfl rfl rfl ?_
  refine wr_get (ci := 9) (f := 3) rfl rfl rfl (by assumption) rfl ?_
  refine wr_aload_n rfl rfl rfl ?_
  refine wr_get (ci := 9) (f := 3) rfl rfl rfl (by assumption) rfl ?_
  refine wr_get (ci := 7) (f := 6) rfl rfl rfl (by assumption) rfl ?_
  refine wr_cv1 (k' := 71) (ci := 7) rfl rfl rfl rfl (by assumption) rfl rfl (wp_shigh (w.sS hb) oN) (fun r h2 q => ?_)
  obtain ⟨rfl, hh⟩ := q
  rw [hh]
  clear hh h2
  dsimp only [Option.toList, List.cons_append, List.nil_append]
  rw [eh]
  refine wr_lstore (ls' := [_, _, _, _, _, _, _, _, _, _, _, _, _, _, _, _, _, _]) rfl rfl (Nat.le_of_ble_eq_true rfl) rfl ?_
  refine wr_lload rfl rfl rfl ?_
  refine wr_lstore (ls' := [_, _, _, _, _, _, _, _, _, _, _, _, _, _, _, _, _, _]) rfl rfl (Nat.le_of_ble_eq_true rfl) rfl ?_
  refine wr_aload_n rfl rfl rfl ?_
  refine wr_get (ci := 9) (f := 2) rfl rfl rfl (by assumption) rfl ?_
  refine wr_aload_n rfl rfl rfl ?_
  refine wr_get (ci := 9) (f := 6) rfl rfl rfl (by assumption) rfl ?_
  refine wr_lload rfl rfl rfl ?_
  refine wr_lload_n rfl rfl rfl ?_
  refine wr_cv3 (k' := 79) (ci := 4) rfl rfl rfl rfl (by assumption) rfl rfl (gw_ratio w mF90 (by omega) (by omega)) (fun r h2 q => ?_)
  obtain ⟨rfl, w⟩ := q
  dsimp only [Option.toList, List.cons_append, List.nil_append]
  have cwa := w.wa
  have cb0 := (w.sd hb).1
  have cg0 := w.gr.1
  have ca0 := w.arc
  unfold arCell at ca0
  have cs0 := w.se.1
  refine wr_iconst rfl rfl ?_
  refine wr_istore (ls' := [_, _, _, _, _, _, _, _, _, _, _, _, _, _, _, _, _, _]) rfl rfl (Nat.le_of_ble_eq_true rfl) rfl ?_
  have pe : plS gn go (sgO b) out (kO gn go (sgO b) out) = out := by unfold plS; rw [if_pos rfl]
  have := L (gn - kO gn go (sgO b) out) (kO gn go (sgO b) out) (updR F 90 (Rat.divInt ov up)) _ (by omega) (Nat.le_refl _) (fun i i1 i2 => by omega) (by rw [updR_n (by decide), pe]; exact h80) (by rw [updR_n (by decide)]; exact q80) (updR_s _ _ _) (fun f f1 f2 f3 f4 => updR_n f3) w
  rw [pe, Int.sub_self] at this
  exact this
def eoS (n : Nat) (off lev : Nat → Int) (sg out high up ov : Int) : Rat := enS n off lev sg out high (gapS n off lev sg out high).sign up ov (jS n off lev sg out high (gapS n off lev sg out high).sign up ov)
def elS (n : Nat) (off lev : Nat → Int) (sg out high up ov : Int) : Rat := (high : Rat) / 1000 + (((gapS n off lev sg out high).sign * up : Int) : Rat) / ov * (eoS n off lev sg out high up ov - out)
def keepG (b : Nat) (F F' : Nat → Rat) : Prop := ∀ f, f ≠ 80 → f ≠ 85 → f ≠ 90 → f ≠ b + 6 → f ≠ b + 11 → F' f = F f
theorem gw_slope {d : Nat} {up ov : Int} (w : GW h0 (h) gn go gl wk ch tk S (b) st as ix pl F W) (hb : b = 46 ∨ b = 62) (ok : okG gn go gl) (o : okB (S b)) (hN : (S b).N < 12) (hu : 0 < up ∧ up ≤ 99999) (hv : 0 < ov ∧ ov ≤ 99999) : am_c X (d + 6) 77 [.ref 79, .long (lI up), .long (lI ov)] h (fun r h' => r = none ∧ ∃ F', GW h0 (h') gn go gl wk ch tk (updS S b (Sq.mk ((S b).N + 1) (1) (updI (S b).cd ((S b).N + 1) 4) (updI (S b).ou ((S b).N + 1) ((S b).ou (S b).N + 0)) (updI (S b).hi ((S b).N + 1) ((S b).hi (S b).N - 0)) (updI (S b).ri ((S b).N + 1) ((gapS gn go gl (sgO b) ((S b).ou (S b).N) ((S b).hi (S b).N)).sign * up)) (updI (S b).ru ((S b).N + 1) ov))) (b) st as ix pl (F') W ∧ F' (b + 6) = eoS gn go gl (sgO b) ((S b).ou (S b).N) ((S b).hi (S b).N) up ov ∧ F' (b + 11) = elS gn go gl (sgO b) ((S b).ou (S b).N) ((S b).hi (S b).N) up ov ∧ keepG b F F') := by
  have o1 := o.2.2.1 (S b).N (Nat.le_refl _)
  have o2 := o.2.2.2 (S b).N (Nat.le_refl _)
  have oN := o.1
  obtain ⟨out, eo⟩ : ∃ z, (S b).ou (S b).N = z := ⟨_, rfl⟩
  obtain ⟨high, eh⟩ : ∃ z, (S b).hi (S b).N = z := ⟨_, rfl⟩
  have G1 := gw_gapUp (X := X) (d := d + 2) w hb ok o
  have G2 := gw_gapLow (X := X) (d := d + 2) w hb ok o
  rw [eo] at o1 G2
  rw [eh] at o2
  rw [eo, eh] at G1
  rw [eo, eh]
  have gi := gapS_in (n := gn) (off := go) (lev := gl) (sg := sgO b) (ou := out) (hi := high) ok (by omega)
  have li := gL_in (o := sgO b * out) ok
  have hs := sgO_in b
  have m6 : (b + 6, 16) ∈ LF := by rcases hb with rfl | rfl <;> decide
  have m11 : (b + 11, 16) ∈ LF := by rcases hb with rfl | rfl <;> decide
  have bn : 46 ≤ b ∧ b ≤ 62 := by omega
  have SH := slH_of (up := up) (ov := ov) (way := (gapS gn go gl (sgO b) out high).sign) ok hs hu.1 hv.1 rfl
  have sz := SH.size (by omega) (by omega) hu.2 hv.2
  have h80 := slE_out (n := gn) (off := go) (lev := gl) (sg := sgO b) (out := out) (high := high) (way := (gapS gn go gl (sgO b) out high).sign) (up := up) (ov := ov) ok rfl
  unfold elS eoS
  have si : -1 ≤ (gapS gn go gl (sgO b) out high).sign ∧ (gapS gn go gl (sgO b) out high).sign ≤ 1 := by
    rcases Int.lt_trichotomy (gapS gn go gl (sgO b) out high) 0 with c | c | c
    · rw [Int.sign_eq_neg_one_of_neg c]; decide
    · rw [c]; decide
    · rw [Int.sign_eq_one_of_pos c]; decide
  obtain ⟨way, ew⟩ : ∃ z, (gapS gn go gl (sgO b) out high).sign = z := ⟨_, rfl⟩
  rw [ew] at SH sz h80 si ⊢
  have wu := mulB (a := way) (b := up) (A := 1) (B := 99999) si (by omega)
  have cwa := w.wa
  have cb0 := (w.sd hb).1
  have cg0 := w.gr.1
  have ca0 := w.arc
  unfold arCell at ca0
  have cs0 := w.se.1
  refine am_c.of (Nat.le_of_ble_eq_true rfl) ?_
  show am_w _ _ _ (_, [_, _, _, _, _, _, _, _], _, _) _
  refine wr_aload_n rfl rfl rfl ?_
  refine wr_cv0 (k' := 66) (ci := 9) rfl rfl rfl rfl (by assumption) rfl rfl (G1) (fun r h2 q => ?_)
  obtain ⟨rfl, hh⟩ := q
  rw [hh]
  clear hh h2
  dsimp only [Option.toList, List.cons_append, List.nil_append]
  refine wr_lstore (ls' := [_, _, _, _, _, _, _, _]) rfl rfl (Nat.le_of_ble_eq_true rfl) rfl ?_
  refine wr_lload rfl rfl rfl ?_
  refine wr_lconst (z := 0) rfl rfl rfl ?_
  refine wr_cs2 (k' := 78) rfl rfl rfl rfl rfl (wp_lcompare (by omega) (by omega)) (fun r h2 q => ?_)
  obtain ⟨rfl, hh⟩ := q
  rw [hh]
  clear hh h2
  dsimp only [Option.toList, List.cons_append, List.nil_append]
  rw [cmpI_sign, ew]
  refine wr_istore (ls' := [_, _, _, _, _, _, _, _]) rfl rfl (Nat.le_of_ble_eq_true rfl) rfl ?_
  refine wr_aload_n rfl rfl rfl ?_
  refine wr_get (ci := 9) (f := 2) rfl rfl rfl (by assumption) rfl ?_
  refine wr_aload_n rfl rfl rfl ?_
  refine wr_get (ci := 9) (f := 4) rfl rfl rfl (by assumption) rfl ?_
  refine wr_lload rfl rfl rfl ?_
  refine wr_mabs (b := 0) rfl rfl rfl rfl (by omega) ?_
  refine wr_aload_n rfl rfl rfl ?_
  refine wr_cv0 (k' := 74) (ci := 9) rfl rfl rfl rfl (by assumption) rfl rfl (G2) (fun r h2 q => ?_)
  obtain ⟨rfl, hh⟩ := q
  rw [hh]
  clear hh h2
  dsimp only [Option.toList, List.cons_append, List.nil_append]
  refine wr_cv3 (k' := 79) (ci := 4) rfl rfl rfl rfl (by assumption) rfl rfl (gw_ratio w mF80 (by omega) (by omega)) (fun r h2 q => ?_)
  obtain ⟨rfl, w⟩ := q
  dsimp only [Option.toList, List.cons_append, List.nil_append]
  have cwa := w.wa
  have cb0 := (w.sd hb).1
  have cg0 := w.gr.1
  have ca0 := w.arc
  unfold arCell at ca0
  have cs0 := w.se.1
  refine wr_aload_n rfl rfl rfl ?_
  refine wr_iload rfl rfl rfl ?_
  refine wr_lload_n rfl rfl rfl ?_
  refine wr_lload_n rfl rfl rfl ?_
  refine wr_cv3 (k' := 81) (ci := 9) rfl rfl rfl rfl (by assumption) rfl rfl (gw_meet w hb ok oN eo eh (by omega) (by omega) hu hv ew.symm (by rw [updR_s]; exact h80.symm) (by rw [updR_s]; exact qB2 (by omega) (by omega))) (fun r h2 q => ?_)
  obtain ⟨rfl, F1, w, v6, K⟩ := q
  dsimp only [Option.toList, List.nil_append]
  obtain ⟨a, dd, e1, d1, d2, a1, a2⟩ := sz
  have q6 : qB 3 (F1 (b + 6)) := by
    rw [v6, e1, ← divQ]
    refine qB.div ?_ ⟨d1, ?_⟩ <;> rw [show (1000000000 : Int) ^ 3 = 1000000000000000000000000000 by decide] <;> omega
  have cwa := w.wa
  have cb0 := (w.sd hb).1
  have cg0 := w.gr.1
  have ca0 := w.arc
  unfold arCell at ca0
  have cs0 := w.se.1
  refine wr_aload_n rfl rfl rfl ?_
  refine wr_get (ci := 9) (f := 2) rfl rfl rfl (by assumption) rfl ?_
  refine wr_aload_n rfl rfl rfl ?_
  refine wr_get (ci := 9) (f := 6) rfl rfl rfl (by assumption) rfl ?_
  refine wr_aload_n rfl rfl rfl ?_
  refine wr_get (ci := 9) (f := 3) rfl rfl rfl (by assumption) rfl ?_
  refine wr_aload_n rfl rfl rfl ?_
  refine wr_get (ci := 9) (f := 3) rfl rfl rfl (by assumption) rfl ?_
  refine wr_get (ci := 7) (f := 6) rfl rfl rfl (by assumption) rfl ?_
  refine wr_cv1 (k' := 67) (ci := 7) rfl rfl rfl rfl (by assumption) rfl rfl (wp_sout (w.sS hb) oN) (fun r h2 q => ?_)
  obtain ⟨rfl, hh⟩ := q
  rw [hh]
  clear hh h2
  dsimp only [Option.toList, List.cons_append, List.nil_append]
  rw [eo]
  refine wr_lconst (z := 1) rfl rfl rfl ?_
  refine wr_cv3 (k' := 79) (ci := 4) rfl rfl rfl rfl (by assumption) rfl rfl (gw_ratio w mF90 (by omega) (by decide)) (fun r h2 q => ?_)
  obtain ⟨rfl, w⟩ := q
  dsimp only [Option.toList, List.cons_append, List.nil_append]
  have cwa := w.wa
  have cb0 := (w.sd hb).1
  have cg0 := w.gr.1
  have ca0 := w.arc
  unfold arCell at ca0
  have cs0 := w.se.1
  obtain ⟨F2, e2⟩ : ∃ z, z = updR F1 90 (Rat.divInt out 1) := ⟨_, rfl⟩
  rw [← e2] at w
  have q90 : qB 1 (F2 90) := by rw [e2, updR_s]; exact qB1 (by omega) (by decide)
  have k6 : F2 (b + 6) = F1 (b + 6) := by rw [e2, updR_n (by omega)]
  refine wr_aload_n rfl rfl rfl ?_
  refine wr_get (ci := 9) (f := 2) rfl rfl rfl (by assumption) rfl ?_
  refine wr_aload_n rfl rfl rfl ?_
  refine wr_get (ci := 9) (f := 5) rfl rfl rfl (by assumption) rfl ?_
  refine wr_aload_n rfl rfl rfl ?_
  refine wr_get (ci := 9) (f := 3) rfl rfl rfl (by assumption) rfl ?_
  refine wr_get (ci := 7) (f := 8) rfl rfl rfl (by assumption) rfl ?_
  refine wr_aload_n rfl rfl rfl ?_
  refine wr_get (ci := 9) (f := 6) rfl rfl rfl (by assumption) rfl ?_
  refine wr_iconst rfl rfl ?_
  refine wr_cv4 (k' := 85) (ci := 4) rfl rfl rfl rfl (by assumption) rfl rfl (gw_dif w mF85 m6 mF90 (k6.symm ▸ q6) q90 (by decide)) (fun r h2 q => ?_)
  obtain ⟨rfl, w⟩ := q
  dsimp only [Option.toList, List.cons_append, List.nil_append]
  have cwa := w.wa
  have cb0 := (w.sd hb).1
  have cg0 := w.gr.1
  have ca0 := w.arc
  unfold arCell at ca0
  have cs0 := w.se.1
  obtain ⟨F3, e3⟩ : ∃ z, z = updR F2 85 (F2 (b + 6) - F2 90) := ⟨_, rfl⟩
  rw [← e3] at w
  refine wr_aload_n rfl rfl rfl ?_
  refine wr_get (ci := 9) (f := 2) rfl rfl rfl (by assumption) rfl ?_
  refine wr_aload_n rfl rfl rfl ?_
  refine wr_get (ci := 9) (f := 6) rfl rfl rfl (by assumption) rfl ?_
  refine wr_iload rfl rfl rfl ?_
  refine wr_i2l rfl rfl (by omega) ?_
  refine wr_lload_n rfl rfl rfl ?_
  refine wr_lmul rfl rfl ?_
  refine wr_lload_n rfl rfl rfl ?_
  refine wr_cv3 (k' := 79) (ci := 4) rfl rfl rfl rfl (by assumption) rfl rfl (gw_ratio w mF90 (by omega) (by omega)) (fun r h2 q => ?_)
  obtain ⟨rfl, w⟩ := q
  dsimp only [Option.toList, List.cons_append, List.nil_append]
  have cwa := w.wa
  have cb0 := (w.sd hb).1
  have cg0 := w.gr.1
  have ca0 := w.arc
  unfold arCell at ca0
  have cs0 := w.se.1
  obtain ⟨F4, e4⟩ : ∃ z, z = updR F3 90 (Rat.divInt (way * up) ov) := ⟨_, rfl⟩
  rw [← e4] at w
  have q85 : qB 5 (F4 85) := by
    rw [e4, updR_n (by decide), e3, updR_s, Rat.sub_eq_add_neg]
    exact (qB.add (show qB 3 (F2 (b + 6)) from k6.symm ▸ q6) q90.neg).mono (by decide)
  have q90' : qB 1 (F4 90) := by rw [e4, updR_s]; exact qB1 (by omega) (by omega)
  refine wr_aload_n rfl rfl rfl ?_
  refine wr_get (ci := 9) (f := 2) rfl rfl rfl (by assumption) rfl ?_
  refine wr_aload_n rfl rfl rfl ?_
  refine wr_get (ci := 9) (f := 5) rfl rfl rfl (by assumption) rfl ?_
  refine wr_aload_n rfl rfl rfl ?_
  refine wr_get (ci := 9) (f := 5) rfl rfl rfl (by assumption) rfl ?_
  refine wr_aload_n rfl rfl rfl ?_
  refine wr_get (ci := 9) (f := 6) rfl rfl rfl (by assumption) rfl ?_
  refine wr_iconst rfl rfl ?_
  refine wr_cv4 (k' := 101) (ci := 4) rfl rfl rfl rfl (by assumption) rfl rfl (gw_mul w mF85 mF85 mF90 q85 q90' (by decide)) (fun r h2 q => ?_)
  obtain ⟨rfl, w⟩ := q
  dsimp only [Option.toList, List.cons_append, List.nil_append]
  have cwa := w.wa
  have cb0 := (w.sd hb).1
  have cg0 := w.gr.1
  have ca0 := w.arc
  unfold arCell at ca0
  have cs0 := w.se.1
  obtain ⟨F5, e5⟩ : ∃ z, z = updR F4 85 (F4 85 * F4 90) := ⟨_, rfl⟩
  rw [← e5] at w
  refine wr_aload_n rfl rfl rfl ?_
  refine wr_get (ci := 9) (f := 2) rfl rfl rfl (by assumption) rfl ?_
  refine wr_aload_n rfl rfl rfl ?_
  refine wr_get (ci := 9) (f := 6) rfl rfl rfl (by assumption) rfl ?_
  refine wr_aload_n rfl rfl rfl ?_
  refine wr_get (ci := 9) (f := 3) rfl rfl rfl (by assumption) rfl ?_
  refine wr_aload_n rfl rfl rfl ?_
  refine wr_get (ci := 9) (f := 3) rfl rfl rfl (by assumption) rfl ?_
  refine wr_get (ci := 7) (f := 6) rfl rfl rfl (by assumption) rfl ?_
  refine wr_cv1 (k' := 71) (ci := 7) rfl rfl rfl rfl (by assumption) rfl rfl (wp_shigh (w.sS hb) oN) (fun r h2 q => ?_)
  obtain ⟨rfl, hh⟩ := q
  rw [hh]
  clear hh h2
  dsimp only [Option.toList, List.cons_append, List.nil_append]
  rw [eh]
  refine wr_ldc2 (z := 1000) rfl rfl rfl (by decide) ?_
  refine wr_cv3 (k' := 79) (ci := 4) rfl rfl rfl rfl (by assumption) rfl rfl (gw_ratio w mF90 (by omega) (by decide)) (fun r h2 q => ?_)
  obtain ⟨rfl, w⟩ := q
  dsimp only [Option.toList, List.cons_append, List.nil_append]
  have cwa := w.wa
  have cb0 := (w.sd hb).1
  have cg0 := w.gr.1
  have ca0 := w.arc
  unfold arCell at ca0
  have cs0 := w.se.1
  obtain ⟨F6, e6⟩ : ∃ z, z = updR F5 90 (Rat.divInt high 1000) := ⟨_, rfl⟩
  rw [← e6] at w
  have s85 : qB 6 (F6 85) := by rw [e6, updR_n (by decide), e5, updR_s]; exact (q85.mul q90').mono (by decide)
  have s90 : qB 2 (F6 90) := by rw [e6, updR_s]; exact qB2 (by omega) (by decide)
  refine wr_aload_n rfl rfl rfl ?_
  refine wr_get (ci := 9) (f := 2) rfl rfl rfl (by assumption) rfl ?_
  refine wr_aload_n rfl rfl rfl ?_
  refine wr_get (ci := 9) (f := 3) rfl rfl rfl (by assumption) rfl ?_
  refine wr_get (ci := 7) (f := 9) rfl rfl rfl (by assumption) rfl ?_
  refine wr_aload_n rfl rfl rfl ?_
  refine wr_get (ci := 9) (f := 6) rfl rfl rfl (by assumption) rfl ?_
  refine wr_aload_n rfl rfl rfl ?_
  refine wr_get (ci := 9) (f := 5) rfl rfl rfl (by assumption) rfl ?_
  refine wr_iconst rfl rfl ?_
  refine wr_cv4 (k' := 85) (ci := 4) rfl rfl rfl rfl (by assumption) rfl rfl (gw_sum w m11 mF90 mF85 s90 s85 (by decide)) (fun r h2 q => ?_)
  obtain ⟨rfl, w⟩ := q
  dsimp only [Option.toList, List.cons_append, List.nil_append]
  have cwa := w.wa
  have cb0 := (w.sd hb).1
  have cg0 := w.gr.1
  have ca0 := w.arc
  unfold arCell at ca0
  have cs0 := w.se.1
  refine wr_aload_n rfl rfl rfl ?_
  refine wr_get (ci := 9) (f := 3) rfl rfl rfl (by assumption) rfl ?_
  refine wr_iconst rfl rfl ?_
  refine wr_lconst (z := 0) rfl rfl rfl ?_
  refine wr_lconst (z := 0) rfl rfl rfl ?_
  refine wr_iload rfl rfl rfl ?_
  refine wr_i2l rfl rfl (by omega) ?_
  refine wr_lload_n rfl rfl rfl ?_
  refine wr_lmul rfl rfl ?_
  refine wr_lload_n rfl rfl rfl ?_
  refine wr_cv5 (k' := 102) (ci := 7) rfl rfl rfl rfl (by assumption) rfl rfl (gw_sadd w hb hN) (fun r h2 q => ?_)
  obtain ⟨rfl, w⟩ := q
  dsimp only [Option.toList, List.cons_append, List.nil_append]
  have cwa := w.wa
  have cb0 := (w.sd hb).1
  have cg0 := w.gr.1
  have ca0 := w.arc
  unfold arCell at ca0
  have cs0 := w.se.1
  refine wr_aload_n rfl rfl rfl ?_
  refine wr_get (ci := 9) (f := 3) rfl rfl rfl (by assumption) rfl ?_
  refine wr_iconst rfl rfl ?_
  refine wr_putZ (ci := 7) (f := 7) (fs' := [_, _, _, _, _, _, _, _, _, _]) rfl rfl rfl (by assumption) rfl rfl (by decide) rfl (fun h1 e1 => ?_)
  have w := e1 ▸ w.setE hb
  rw [updS_2, updS_s] at w
  refine wr_vret rfl rfl ?_
  have t6 : F6 (b + 6) = F1 (b + 6) := by rw [e6, updR_n (by omega), e5, updR_n (by omega), e4, updR_n (by omega), e3, updR_n (by omega), k6]
  have t85 : F6 85 = (F1 (b + 6) - out) * ((way * up : Int) / (ov : Rat)) := by
    rw [e6, updR_n (by decide), e5, updR_s, e4, updR_n (by decide), updR_s, e3, updR_s, k6, e2, updR_s, div1, divQ]
  have t90 : F6 90 = (high : Rat) / 1000 := by rw [e6, updR_s, divQ]; rfl
  unfold Sq.add at w
  rw [eo, eh] at w
  refine ⟨rfl, _, w, ?_, ?_, fun f f1 f2 f3 f4 f5 => ?_⟩
  · rw [updR_n (by omega), t6, v6]
  · rw [updR_s, t90, t85, v6, Rat.mul_comm]
  · rw [updR_n f5, e6, updR_n f3, e5, updR_n f2, e4, updR_n f3, e3, updR_n f2, e2, updR_n f3, K f f1 f2 f3 f4, updR_n f1]
end WLK
