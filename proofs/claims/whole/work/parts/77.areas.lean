/-! THE CLASS'S AREAS -/
theorem q_cancel {t a b : Rat} (h : 0 < t) (e : t * a = b * t) : a = b := by
  have : t ≠ 0 := by grind
  grind
theorem sA_sem {N : Nat} {e : Int} {ou : Nat → Int} {eo : Rat} {i : Nat} {z : Int} (h0 : e = 1 ∧ i = N → 0 ≤ eo) : (sA N e ou eo i z = 1 ∧ (z : Rat) < (if e = 1 ∧ i = N then eo else (ou i : Rat))) ∨ (sA N e ou eo i z = 0 ∧ (z : Rat) = (if e = 1 ∧ i = N then eo else (ou i : Rat))) ∨ (sA N e ou eo i z = -1 ∧ (if e = 1 ∧ i = N then eo else (ou i : Rat)) < (z : Rat)) := by
  unfold sA
  by_cases c : e = 1 ∧ i = N
  · rw [if_pos c, if_pos c]
    have e0 := h0 c
    have hd := eo.den_pos
    have dq : (0 : Rat) < (eo.den : Int) := q_pos (by omega)
    have n0 : 0 ≤ eo.num := Rat.num_nonneg.mpr e0
    have en : (eo.num : Rat) = eo * (eo.den : Int) := by
      have := Rat.num_divInt_den eo
      rw [divQ] at this
      generalize hz : ((eo.den : Int) : Rat) = y at *
      have : (eo.num : Rat) / y * y = eo * y := by rw [this]
      grind
    have ab : (eo.num.natAbs : Int) = eo.num := by omega
    rw [ab]
    have e2 : (((eo.den : Int) * z : Int) : Rat) = (eo.den : Int) * (z : Rat) := by grind
    rcases cmpI_cases eo.num ((eo.den : Int) * z) with ⟨x, y⟩ | ⟨x, y⟩ | ⟨x, y⟩
    · refine Or.inl ⟨x, ?_⟩
      have l : (((eo.den : Int) * z : Int) : Rat) < eo.num := Rat.intCast_lt_intCast.mpr y
      rw [e2, en] at l
      refine Rat.not_le.mp fun q => ?_
      have := q_mul_nn (a := (z : Rat) - eo) (b := ((eo.den : Int) : Rat)) (by grind) (Rat.le_of_lt dq)
      grind
    · refine Or.inr (Or.inl ⟨x, ?_⟩)
      have l : (((eo.den : Int) * z : Int) : Rat) = eo.num := by rw [y]
      rw [e2, en] at l
      exact q_cancel dq l
    · refine Or.inr (Or.inr ⟨x, ?_⟩)
      have l : (eo.num : Rat) < (((eo.den : Int) * z : Int) : Rat) := Rat.intCast_lt_intCast.mpr y
      rw [e2, en] at l
      refine Rat.not_le.mp fun q => ?_
      have := q_mul_nn (a := eo - (z : Rat)) (b := ((eo.den : Int) : Rat)) (by grind) (Rat.le_of_lt dq)
      grind
  · rw [if_neg c, if_neg c]
    rcases cmpI_cases (ou i) z with ⟨x, y⟩ | ⟨x, y⟩ | ⟨x, y⟩
    · exact Or.inl ⟨x, Rat.intCast_lt_intCast.mpr y⟩
    · exact Or.inr (Or.inl ⟨x, by rw [y]⟩)
    · exact Or.inr (Or.inr ⟨x, Rat.intCast_lt_intCast.mpr y⟩)
/-- both sides walked: S 46 the left one, S 62 the right one -/
def seH (gn : Nat) (go gl : Nat → Int) (S : Nat → Sq) (F : Nat → Rat) : Prop :=
  (okG gn go gl) ∧
  (sdH gn go gl (sgO 46) (S 46) (F 52) (F 57)) ∧
  (sdH gn go gl (sgO 62) (S 62) (F 68) (F 73))
theorem seH.ok {gn : Nat} {go gl : Nat → Int} {S : Nat → Sq} {F : Nat → Rat} (zz : seH gn go gl S F) : okG gn go gl := zz.1
theorem seH.lf {gn : Nat} {go gl : Nat → Int} {S : Nat → Sq} {F : Nat → Rat} (zz : seH gn go gl S F) : sdH gn go gl (sgO 46) (S 46) (F 52) (F 57) := zz.2.1
theorem seH.rg {gn : Nat} {go gl : Nat → Int} {S : Nat → Sq} {F : Nat → Rat} (zz : seH gn go gl S F) : sdH gn go gl (sgO 62) (S 62) (F 68) (F 73) := zz.2.2
section ARE
variable {X : Nat × (Nat → Int32)} {h0 h h' : am_H} {gn ws as b i : Nat} {go gl tk : Nat → Int} {wk ch st ix pl x : Int} {S : Nat → Sq} {F : Nat → Rat} {W : Nat → Int}
theorem seH.sd (H : seH gn go gl S F) (hb : b = 46 ∨ b = 62) : sdH gn go gl (sgO b) (S b) (F (b + 6)) (F (b + 11)) := by
  rcases hb with rfl | rfl
  · exact H.lf
  · exact H.rg
theorem sdH.e0 {n : Nat} {off lev : Nat → Int} {sg : Int} {s : Sq} {eo el : Rat} (H : sdH n off lev sg s eo el) (c : s.e = 1) : 0 ≤ eo := by
  have f := (H.fin c).2.2.2.1.1
  have o := (H.ok.2.2.1 s.N (Nat.le_refl _)).1
  exact Rat.le_trans (Rat.intCast_le_intCast.mpr o) f
theorem sdH.q3 {n : Nat} {off lev : Nat → Int} {sg : Int} {s : Sq} {eo el : Rat} (H : sdH n off lev sg s eo el) (c : s.e = 1) : qB 3 eo := by
  obtain ⟨a, d, e, d1, d2, a1, a2⟩ := (H.fin c).2.2.2.2.2.2.2
  rw [e, ← divQ]
  refine qB.div ?_ ⟨d1, ?_⟩ <;> rw [show (1000000000 : Int) ^ 3 = 1000000000000000000000000000 by decide] <;> omega
theorem sdH.sA {n : Nat} {off lev : Nat → Int} {sg : Int} {s : Sq} {eo el : Rat} {z : Int} (H : sdH n off lev sg s eo el) (i : Nat) : (sA s.N s.e s.ou eo i z = 1 ∧ (z : Rat) < OuQ s eo i) ∨ (sA s.N s.e s.ou eo i z = 0 ∧ (z : Rat) = OuQ s eo i) ∨ (sA s.N s.e s.ou eo i z = -1 ∧ OuQ s eo i < (z : Rat)) := sA_sem (fun c => H.e0 c.1)
theorem wp_sA0 {d b N i : Nat} {sg e z : Int} {cd ou hi ri ru : Nat → Int} {eo el : Rat} (w : isS h b sg N e cd ou hi ri ru eo el) (hI : i ≤ 12) (hN : N ≤ 12) (he : e = 0 ∨ e = 1) (ne : ¬ e = 1) (hpl : 0 ≤ z ∧ z ≤ 9223372036854775807) (ho : -9223372036854775808 ≤ ou i ∧ ou i ≤ 9223372036854775807) : am_c X (d + 3) 117 [.ref b, .int (iI i), .long (lI z), .ref 22] h (fun r h' => r = some (.int (iI (sA N e ou eo i z))) ∧ h' = h) := by
  have w' := w
  obtain ⟨c0, c1, c2, c3, c4, c5, c6, c7⟩ := w'
  unfold sA
  rw [if_neg (fun q => ne q.1)]
  have bf : b2 (e = 1 ∧ (i : Int) = N) = 0 := b2_f (fun q => ne q.1)
  refine am_c.of (Nat.le_of_ble_eq_true rfl) ?_
  show am_w _ _ _ (_, [_, _, _, _, _], _, _) _
  refine wr_aload_n rfl rfl rfl ?_
  refine wr_iload_n rfl rfl rfl ?_
  refine wr_cv1 (k' := 110) (ci := 7) rfl rfl rfl rfl (by assumption) rfl rfl (wp_sisEnd w (by omega) hN he) (fun r h2 q => ?_)
  obtain ⟨rfl, hh⟩ := q
  rw [hh]
  clear hh h2
  dsimp only [Option.toList, List.cons_append, List.nil_append]
  refine wr_if_eq rfl rfl rfl (by omega) (fun c5 => ?_) (fun c5 => by exfalso; omega)
  refine wr_aload_n rfl rfl rfl ?_
  refine wr_iload_n rfl rfl rfl ?_
  refine wr_cv1 (k' := 67) (ci := 7) rfl rfl rfl rfl (by assumption) rfl rfl (wp_sout w hI) (fun r h2 q => ?_)
  obtain ⟨rfl, hh⟩ := q
  rw [hh]
  clear hh h2
  dsimp only [Option.toList, List.cons_append, List.nil_append]
  refine wr_lload_n rfl rfl rfl ?_
  refine wr_cs2 (k' := 78) rfl rfl rfl rfl rfl (wp_lcompare ho (by omega)) (fun r h2 q => ?_)
  obtain ⟨rfl, hh⟩ := q
  rw [hh]
  clear hh h2
  dsimp only [Option.toList, List.cons_append, List.nil_append]
  refine wr_iret rfl rfl ?_
  exact ⟨rfl, rfl⟩
theorem gw_startAt {d : Nat} (w : GW h0 (h) gn go gl wk ch tk S ws st as ix pl F W) : am_c X (d + 1) 123 [.ref 95, .ref b] h (fun r h' => r = none ∧ GW h0 (h') gn go gl wk ch tk S ws st (b) (1) (0) F W) := by
  have caa := w.aa
  refine am_c.of (Nat.le_of_ble_eq_true rfl) ?_
  show am_w _ _ _ (_, [_, _], _, _) _
  refine wr_aload_n rfl rfl rfl ?_
  refine wr_aload_n rfl rfl rfl ?_
  refine wr_putR (ci := 10) (f := 6) (fs' := [_, _, _, _, _, _, _, _, _, _, _, _, _, _]) rfl rfl rfl (by assumption) rfl rfl rfl (fun h1 e1 => ?_)
  have w := e1 ▸ w.setA st b ix pl
  clear e1
  have caa := w.aa
  refine wr_aload_n rfl rfl rfl ?_
  refine wr_iconst rfl rfl ?_
  refine wr_putI (ci := 10) (f := 7) (fs' := [_, _, _, _, _, _, _, _, _, _, _, _, _, _]) rfl rfl rfl (by assumption) rfl rfl rfl (fun h1 e1 => ?_)
  have w := e1 ▸ w.setA st b 1 pl
  clear e1
  have caa := w.aa
  refine wr_aload_n rfl rfl rfl ?_
  refine wr_lconst (z := 0) rfl rfl rfl ?_
  refine wr_putL (ci := 10) (f := 8) (fs' := [_, _, _, _, _, _, _, _, _, _, _, _, _, _]) rfl rfl rfl (by assumption) rfl rfl rfl (fun h1 e1 => ?_)
  have w := e1 ▸ w.setA st b 1 0
  clear e1
  have caa := w.aa
  refine wr_vret rfl rfl ?_
  exact ⟨rfl, w⟩
/-- the gap at x on the way to corner i, told in f -/
theorem gw_gapAt {d f : Nat} (w : GW h0 (h) gn go gl wk ch tk S ws st (b) ((i : Int)) pl F W) (hb : b = 46 ∨ b = 62) (hf : f = 106 ∨ f = 111) (ok : okG gn go gl) (o : okB (S b)) (h0' : 0 < i) (hi : i ≤ (S b).N) (hr : 0 < (S b).ru i ∧ (S b).ru i ≤ 99999) (hri : -99999 ≤ (S b).ri i ∧ (S b).ri i ≤ 99999) (hx : 0 ≤ x ∧ x ≤ 2000000) : am_c X (d + 5) 126 [.ref 95, .ref f, .long (lI x)] h (fun r h' => r = none ∧ ∃ F', GW h0 (h') gn go gl wk ch tk S ws st (b) ((i : Int)) pl (F') W ∧ F' f = gapQ gn go gl (sgO b) (S b) i x ∧ ∀ g, g ≠ f → g ≠ 126 → F' g = F g) := by
  have hs := sgO_in b
  have sm := sgO_mul b x
  have oN := o.1
  have ui := gU_in (o := sgO b * x) ok
  have li := gL_in (o := sgO b * x) ok
  have o1 := o.2.2.1 (i - 1) (by omega)
  have o2 := o.2.2.2 (i - 1) (by omega)
  have mf : (f, 16) ∈ LF := by rcases hf with rfl | rfl <;> decide
  have m1 := mulB (a := (S b).hi (i - 1)) (b := (S b).ru i) (A := 200000000000) (B := 99999) (by omega) (by omega)
  have m2 := mulB (a := 1000 * (S b).ri i) (b := x - (S b).ou (i - 1)) (A := 99999000) (B := 2000000) (by omega) (by omega)
  have su : -100000000000000000 ≤ sU (S b).ou (S b).hi (S b).ri (S b).ru i x ∧ sU (S b).ou (S b).hi (S b).ri (S b).ru i x ≤ 100000000000000000 := by unfold sU; omega
  have caa := w.aa
  have cb0 := (w.sd hb).1
  have cg0 := w.gr.1
  have ca0 := w.arc
  unfold arCell at ca0
  have cs0 := w.se.1
  refine am_c.of (Nat.le_of_ble_eq_true rfl) ?_
  show am_w _ _ _ (_, [_, _, _, _, _, _], _, _) _
  refine wr_aload_n rfl rfl rfl ?_
  refine wr_get (ci := 10) (f := 6) rfl rfl rfl (by assumption) rfl ?_
  refine wr_get (ci := 7) (f := 0) rfl rfl rfl (by assumption) rfl ?_
  refine wr_i2l rfl rfl (by omega) ?_
  refine wr_lload_n rfl rfl rfl ?_
  refine wr_lmul rfl rfl ?_
  refine wr_lstore (ls' := [_, _, _, _, _, _]) rfl rfl (Nat.le_of_ble_eq_true rfl) rfl ?_
  refine wr_aload_n rfl rfl rfl ?_
  refine wr_get (ci := 10) (f := 2) rfl rfl rfl (by assumption) rfl ?_
  refine wr_aload_n rfl rfl rfl ?_
  refine wr_aload_n rfl rfl rfl ?_
  refine wr_get (ci := 10) (f := 1) rfl rfl rfl (by assumption) rfl ?_
  refine wr_lload rfl rfl rfl ?_
  refine wr_cv1 (k' := 69) (ci := 3) rfl rfl rfl rfl (by assumption) rfl rfl (wp_gU w.gr ok (by omega)) (fun r h2 q => ?_)
  obtain ⟨rfl, hh⟩ := q
  rw [hh]
  clear hh h2
  dsimp only [Option.toList, List.cons_append, List.nil_append]
  refine wr_aload_n rfl rfl rfl ?_
  refine wr_get (ci := 10) (f := 1) rfl rfl rfl (by assumption) rfl ?_
  refine wr_lload rfl rfl rfl ?_
  refine wr_cv1 (k' := 72) (ci := 3) rfl rfl rfl rfl (by assumption) rfl rfl (wp_gL w.gr ok (by omega)) (fun r h2 q => ?_)
  obtain ⟨rfl, hh⟩ := q
  rw [hh]
  clear hh h2
  dsimp only [Option.toList, List.cons_append, List.nil_append]
  refine wr_cv3 (k' := 79) (ci := 4) rfl rfl rfl rfl (by assumption) rfl rfl (gw_ratio w mf (by omega) (by omega)) (fun r h2 q => ?_)
  obtain ⟨rfl, w⟩ := q
  dsimp only [Option.toList, List.cons_append, List.nil_append]
  have caa := w.aa
  have cb0 := (w.sd hb).1
  have cg0 := w.gr.1
  have ca0 := w.arc
  unfold arCell at ca0
  have cs0 := w.se.1
  refine wr_aload_n rfl rfl rfl ?_
  refine wr_get (ci := 10) (f := 2) rfl rfl rfl (by assumption) rfl ?_
  refine wr_aload_n rfl rfl rfl ?_
  refine wr_get (ci := 10) (f := 13) rfl rfl rfl (by assumption) rfl ?_
  refine wr_aload_n rfl rfl rfl ?_
  refine wr_get (ci := 10) (f := 6) rfl rfl rfl (by assumption) rfl ?_
  refine wr_aload_n rfl rfl rfl ?_
  refine wr_get (ci := 10) (f := 7) rfl rfl rfl (by assumption) rfl ?_
  refine wr_lload_n rfl rfl rfl ?_
  refine wr_cv2 (k' := 127) (ci := 7) rfl rfl rfl rfl (by assumption) rfl rfl (wp_sU (w.sS hb) (by omega)) (fun r h2 q => ?_)
  obtain ⟨rfl, hh⟩ := q
  rw [hh]
  clear hh h2
  dsimp only [Option.toList, List.cons_append, List.nil_append]
  refine wr_aload_n rfl rfl rfl ?_
  refine wr_get (ci := 10) (f := 6) rfl rfl rfl (by assumption) rfl ?_
  refine wr_aload_n rfl rfl rfl ?_
  refine wr_get (ci := 10) (f := 7) rfl rfl rfl (by assumption) rfl ?_
  refine wr_cv1 (k' := 130) (ci := 7) rfl rfl rfl rfl (by assumption) rfl rfl (wp_sL (w.sS hb) (by omega)) (fun r h2 q => ?_)
  obtain ⟨rfl, hh⟩ := q
  rw [hh]
  clear hh h2
  dsimp only [Option.toList, List.cons_append, List.nil_append]
  refine wr_cv3 (k' := 79) (ci := 4) rfl rfl rfl rfl (by assumption) rfl rfl (gw_ratio w mF126 (by omega) (by omega)) (fun r h2 q => ?_)
  obtain ⟨rfl, w⟩ := q
  dsimp only [Option.toList, List.cons_append, List.nil_append]
  have caa := w.aa
  have cb0 := (w.sd hb).1
  have cg0 := w.gr.1
  have ca0 := w.arc
  unfold arCell at ca0
  have cs0 := w.se.1
  obtain ⟨F1, e1⟩ : ∃ z, z = updR F f (Rat.divInt (gU gn go gl (sgO b * x)) (gL gn go (sgO b * x))) := ⟨_, rfl⟩
  rw [← e1] at w
  obtain ⟨F2, e2⟩ : ∃ z, z = updR F1 126 (Rat.divInt (sU (S b).ou (S b).hi (S b).ri (S b).ru i x) (1000 * (S b).ru i)) := ⟨_, rfl⟩
  rw [← e2] at w
  have fn : f ≠ 126 := by omega
  have v1 : F2 f = Rat.divInt (gU gn go gl (sgO b * x)) (gL gn go (sgO b * x)) := by rw [e2, updR_n fn, e1, updR_s]
  have v2 : F2 126 = Rat.divInt (sU (S b).ou (S b).hi (S b).ri (S b).ru i x) (1000 * (S b).ru i) := by rw [e2, updR_s]
  have q1 : qB 2 (F2 f) := by rw [v1]; exact qB2 (by omega) (by omega)
  have q2 : qB 2 (F2 126) := by rw [v2]; exact qB2 (by omega) (by omega)
  refine wr_aload_n rfl rfl rfl ?_
  refine wr_get (ci := 10) (f := 2) rfl rfl rfl (by assumption) rfl ?_
  refine wr_aload_n rfl rfl rfl ?_
  refine wr_aload_n rfl rfl rfl ?_
  refine wr_aload_n rfl rfl rfl ?_
  refine wr_get (ci := 10) (f := 13) rfl rfl rfl (by assumption) rfl ?_
  refine wr_iconst rfl rfl ?_
  refine wr_cv4 (k' := 85) (ci := 4) rfl rfl rfl rfl (by assumption) rfl rfl (gw_dif w mf mf mF126 q1 q2 (by decide)) (fun r h2 q => ?_)
  obtain ⟨rfl, w⟩ := q
  dsimp only [Option.toList, List.cons_append, List.nil_append]
  have caa := w.aa
  have cb0 := (w.sd hb).1
  have cg0 := w.gr.1
  have ca0 := w.arc
  unfold arCell at ca0
  have cs0 := w.se.1
  refine wr_vret rfl rfl ?_
  refine ⟨rfl, _, w, ?_, fun g g1 g2 => by rw [updR_n g1, e2, updR_n g2, e1, updR_n g1]⟩
  rw [updR_s, v1, v2, GrQ_int ok]
  unfold gapQ Lo secQ
  have ex : (((sgO b * x : Int)) : Rat) = (sgO b : Rat) * (x : Rat) := by grind
  rw [ex, divQ]
  congr 1
  have rq : (((S b).ru i : Int) : Rat) ≠ 0 := by have := q_pos hr.1; grind
  unfold sU
  generalize (S b).hi (i - 1) = a at *
  generalize (S b).ru i = r at *
  generalize (S b).ri i = k at *
  generalize (S b).ou (i - 1) = p at *
  clear m1 m2 su o1 o2 v1 v2 q1 q2 e1 e2 ex
  grind
/-- where a search stands on a side: x on the way to corner i -/
def srH (gn : Nat) (go : Nat → Int) (b : Nat) (s : Sq) (eo : Rat) (i : Nat) (x : Int) : Prop := 0 < i ∧ i ≤ s.N + 1 ∧ (0 ≤ x ∧ x ≤ 2000000) ∧ (i ≤ s.N → s.ou (i - 1) ≤ x ∧ (x : Rat) ≤ OuQ s eo i ∧ ((x : Rat) < OuQ s eo i → brk gn go (sgO b) s i x))
/-- what is left to be measured -/
def reA (gn : Nat) (go : Nat → Int) (S : Nat → Sq) (F : Nat → Rat) (P : Nat → Nat → Rat → Rat → Rat) (b i : Nat) (x : Rat) : Rat := if b = 46 then reS gn go (sgO 46) (S 46) (F 52) (P 46) i x + arT gn go (sgO 62) (S 62) (F 68) (P 62) (S 62).N 1 else reS gn go (sgO 62) (S 62) (F 68) (P 62) i x
theorem gw_find {d : Nat} (w : GW h0 (h) gn go gl wk ch tk S ws st (b) ((i : Int)) (x) F W) (hb : b = 46 ∨ b = 62) (H : seH gn go gl S F) (R : srH gn go b (S b) (F (b + 6)) i x) : am_c X (d + 4) 124 [.ref 95] h (fun r h' => ∃ b' i' x', GW h0 (h') gn go gl wk ch tk S ws st (b') (((i' : Nat) : Int)) (x') F W ∧ (b' = 46 ∨ b' = 62) ∧ srH gn go b' (S b') (F (b' + 6)) i' x' ∧ (∀ P, reA gn go S F P b' i' x' = reA gn go S F P b i x) ∧ ((r = some (.int (iI 1)) ∧ i' ≤ (S b').N ∧ (x' : Rat) < OuQ (S b') (F (b' + 6)) i') ∨ (r = some (.int (iI 0)) ∧ ∀ P, reA gn go S F P b' i' x' = 0))) := by
  have nL := H.lf.ok.1
  have nR := H.rg.ok.1
  have L : ∀ (m it b i : Nat) (x : Int) (h : am_H), (if b = 46 then (S 46).N + (S 62).N + 3 - i else (S 62).N + 2 - i) ≤ m → it + m ≤ 26 → (b = 46 ∨ b = 62) → srH gn go b (S b) (F (b + 6)) i x → GW h0 (h) gn go gl wk ch tk S ws st (b) ((i : Int)) (x) F W → am_w X (d + 3) 124 (2, [.ref 95, .int (iI it)], [], h) (fun r h' => ∃ b' i' x', GW h0 (h') gn go gl wk ch tk S ws st (b') (((i' : Nat) : Int)) (x') F W ∧ (b' = 46 ∨ b' = 62) ∧ srH gn go b' (S b') (F (b' + 6)) i' x' ∧ (∀ P, reA gn go S F P b' i' x' = reA gn go S F P b i x) ∧ ((r = some (.int (iI 1)) ∧ i' ≤ (S b').N ∧ (x' : Rat) < OuQ (S b') (F (b' + 6)) i') ∨ (r = some (.int (iI 0)) ∧ ∀ P, reA gn go S F P b' i' x' = 0))) := by
    intro m
    induction m with
    | zero =>
      intro it b i x h hm hit hb R w
      obtain ⟨r1, r2, r3, r4⟩ := R
      exfalso
      rcases hb with rfl | rfl
      · rw [if_pos rfl] at hm; omega
      · rw [if_neg (by decide)] at hm; omega
    | succ m ih =>
      intro it b i x h hm hit hb R w
      have R' := R
      obtain ⟨r1, r2, r3, r4⟩ := R
      have D := H.sd hb
      have oN := D.ok.1
      have caa := w.aa
      have cb0 := (w.sd hb).1
      have cg0 := w.gr.1
      have ca0 := w.arc
      unfold arCell at ca0
      have cs0 := w.se.1
      by_cases c : i ≤ (S b).N
      · obtain ⟨r5, r6, r7⟩ := r4 c
        have o1 := D.ok.2.2.1 i c
        have eI := D.ok.2.1
        have q15 : qB 15 (F (b + 6)) ∨ ¬ (S b).e = 1 := by
          by_cases q : (S b).e = 1
          · exact Or.inl ((D.q3 q).mono (by decide))
          · exact Or.inr q
        have SA := D.sA (z := x) i
        have CALL : am_c X (d + 3) 117 [.ref b, .int (iI i), .long (lI x), .ref 22] h (fun r h' => r = some (.int (iI (sA (S b).N (S b).e (S b).ou (F (b + 6)) i x))) ∧ GW h0 (h') gn go gl wk ch tk S ws st (b) ((i : Int)) (x) F W) := by
          rcases q15 with q | q
          · exact gw_sA w hb (by omega) oN eI (by omega) (by omega) q
          · refine am_c.mono (wp_sA0 (w.sS hb) (by omega) oN eI q (by omega) (by omega)) (fun r h' z => ?_)
            obtain ⟨z1, z2⟩ := z
            subst z2
            exact ⟨z1, w⟩
        have si : -1 ≤ sA (S b).N (S b).e (S b).ou (F (b + 6)) i x ∧ sA (S b).N (S b).e (S b).ou (F (b + 6)) i x ≤ 1 := by omega
        refine wr_iload_n rfl rfl rfl ?_
        refine wr_bipush rfl rfl (by decide) ?_
        refine wr_icmp_gt rfl rfl rfl (by omega) (by omega) (fun c5 => by exfalso; omega) (fun c5 => ?_)
        refine wr_aload_n rfl rfl rfl ?_
        refine wr_get (ci := 10) (f := 7) rfl rfl rfl (by assumption) rfl ?_
        refine wr_aload_n rfl rfl rfl ?_
        refine wr_get (ci := 10) (f := 6) rfl rfl rfl (by assumption) rfl ?_
        refine wr_get (ci := 7) (f := 6) rfl rfl rfl (by assumption) rfl ?_
        refine wr_icmp_le rfl rfl rfl (by omega) (by omega) (fun c19 => ?_) (fun c19 => by exfalso; omega)
        refine wr_aload_n rfl rfl rfl ?_
        refine wr_get (ci := 10) (f := 6) rfl rfl rfl (by assumption) rfl ?_
        refine wr_aload_n rfl rfl rfl ?_
        refine wr_get (ci := 10) (f := 7) rfl rfl rfl (by assumption) rfl ?_
        refine wr_aload_n rfl rfl rfl ?_
        refine wr_get (ci := 10) (f := 8) rfl rfl rfl (by assumption) rfl ?_
        refine wr_aload_n rfl rfl rfl ?_
        refine wr_get (ci := 10) (f := 2) rfl rfl rfl (by assumption) rfl ?_
        refine wr_cv3 (k' := 117) (ci := 7) rfl rfl rfl rfl (by assumption) rfl rfl (CALL) (fun r h2 q => ?_)
        obtain ⟨rfl, w⟩ := q
        dsimp only [Option.toList, List.cons_append, List.nil_append]
        have caa := w.aa
        have cb0 := (w.sd hb).1
        have cg0 := w.gr.1
        have ca0 := w.arc
        unfold arCell at ca0
        have cs0 := w.se.1
        by_cases lt : (x : Rat) < OuQ (S b) (F (b + 6)) i
        · have s1 : sA (S b).N (S b).e (S b).ou (F (b + 6)) i x = 1 := by
            rcases SA with ⟨q, -⟩ | ⟨-, q⟩ | ⟨-, q⟩
            · exact q
            · grind
            · grind
          refine wr_if_le rfl rfl rfl (by omega) (fun c71 => by exfalso; omega) (fun c71 => ?_)
          refine wr_iconst rfl rfl ?_
          refine wr_zret rfl rfl (by decide) ?_
          exact ⟨b, i, x, w, hb, R', fun P => rfl, Or.inl ⟨rfl, c, lt⟩⟩
        · have s1 : sA (S b).N (S b).e (S b).ou (F (b + 6)) i x ≤ 0 := by
            rcases SA with ⟨-, q⟩ | ⟨q, -⟩ | ⟨q, -⟩
            · exact absurd q lt
            · omega
            · omega
          have ex : (x : Rat) = OuQ (S b) (F (b + 6)) i := by grind
          have ei : i < (S b).N → (x : Rat) = (S b).ou i := fun q => by
            rw [ex]; unfold OuQ; rw [if_neg (by omega)]
          refine wr_if_le rfl rfl rfl (by omega) (fun c71 => ?_) (fun c71 => by exfalso; omega)
          refine wr_aload_n rfl rfl rfl ?_
          refine wr_dup rfl rfl ?_
          refine wr_get (ci := 10) (f := 7) rfl rfl rfl (by assumption) rfl ?_
          refine wr_iconst rfl rfl ?_
          refine wr_iadd rfl rfl ?_
          refine wr_putI (ci := 10) (f := 7) (fs' := [_, _, _, _, _, _, _, _, _, _, _, _, _, _]) rfl rfl rfl (by assumption) rfl rfl rfl (fun h1 e1 => ?_)
          have w := e1 ▸ w.setA st b ((i + 1 : Nat) : Int) x
          clear e1
          have caa := w.aa
          refine wr_iinc (ls' := [_, _]) rfl rfl rfl rfl ?_
          refine wr_goto rfl rfl ?_
          rw [show (it : Int) + 1 = ((it + 1 : Nat) : Int) by omega]
          have R2 : srH gn go b (S b) (F (b + 6)) (i + 1) x := ⟨by omega, by omega, r3, fun q => by
            have e3 := ei (by omega)
            have e4 : x = (S b).ou i := Rat.intCast_inj.mp e3
            rw [Nat.add_sub_cancel]
            have mo := D.mono i (by omega)
            refine ⟨by omega, ?_, fun _ => Or.inl (by rw [Nat.add_sub_cancel]; exact e4)⟩
            unfold OuQ
            by_cases z : (S b).e = 1 ∧ i + 1 = (S b).N
            · rw [if_pos z, e4]
              have f := D.fin z.1
              have f4 := f.2.2.2.1.1
              rw [f.2.1, show (S b).N - 1 = i by omega] at f4
              exact f4
            · rw [if_neg z, e4]
              exact Rat.intCast_le_intCast.mpr mo⟩
          have hm2 : (if b = 46 then (S 46).N + (S 62).N + 3 - (i + 1) else (S 62).N + 2 - (i + 1)) ≤ m := by
            rcases hb with rfl | rfl
            · rw [if_pos rfl] at hm ⊢; omega
            · rw [if_neg (by decide)] at hm ⊢; omega
          refine am_w.mono (ih (it + 1) b (i + 1) x _ hm2 (by omega) hb R2 w) (fun r h' q => ?_)
          obtain ⟨b', i', x', a1, a2, a3, a4, a5⟩ := q
          refine ⟨b', i', x', a1, a2, a3, fun P => ?_, a5⟩
          rw [a4 P]
          unfold reA
          rcases hb with rfl | rfl
          · rw [if_pos rfl, if_pos rfl, reS_skip r1 c lt ei]
          · rw [if_neg (by decide), if_neg (by decide), reS_skip r1 c lt ei]
      · rcases hb with rfl | rfl
        ·
          refine wr_iload_n rfl rfl rfl ?_
          refine wr_bipush rfl rfl (by decide) ?_
          refine wr_icmp_gt rfl rfl rfl (by omega) (by omega) (fun c5 => by exfalso; omega) (fun c5 => ?_)
          refine wr_aload_n rfl rfl rfl ?_
          refine wr_get (ci := 10) (f := 7) rfl rfl rfl (by assumption) rfl ?_
          refine wr_aload_n rfl rfl rfl ?_
          refine wr_get (ci := 10) (f := 6) rfl rfl rfl (by assumption) rfl ?_
          refine wr_get (ci := 7) (f := 6) rfl rfl rfl (by assumption) rfl ?_
          refine wr_icmp_le rfl rfl rfl (by omega) (by omega) (fun c19 => by exfalso; omega) (fun c19 => ?_)
          refine wr_aload_n rfl rfl rfl ?_
          refine wr_get (ci := 10) (f := 6) rfl rfl rfl (by assumption) rfl ?_
          refine wr_aload_n rfl rfl rfl ?_
          refine wr_get (ci := 10) (f := 0) rfl rfl rfl (by assumption) rfl ?_
          refine wr_get (ci := 6) (f := 1) rfl rfl rfl (by assumption) rfl ?_
          refine wr_acmp_ne rfl rfl rfl (fun c33 => ?_) (fun c33 => by exfalso; omega)
          refine wr_aload_n rfl rfl rfl ?_
          refine wr_aload_n rfl rfl rfl ?_
          refine wr_get (ci := 10) (f := 0) rfl rfl rfl (by assumption) rfl ?_
          refine wr_get (ci := 6) (f := 1) rfl rfl rfl (by assumption) rfl ?_
          refine wr_cv1 (k' := 123) (ci := 10) rfl rfl rfl rfl (by assumption) rfl rfl (gw_startAt (b := 62) w) (fun r h2 q => ?_)
          obtain ⟨rfl, w⟩ := q
          dsimp only [Option.toList, List.nil_append]
          refine wr_goto rfl rfl ?_
          refine wr_iinc (ls' := [_, _]) rfl rfl rfl rfl ?_
          refine wr_goto rfl rfl ?_
          rw [show (it : Int) + 1 = ((it + 1 : Nat) : Int) by omega]
          have R2 : srH gn go 62 (S 62) (F (62 + 6)) 1 0 := ⟨by omega, by omega, by omega, fun q => by
            have o0 := H.rg.o0
            have mo := H.rg.mono 0 (by omega)
            refine ⟨by rw [Nat.sub_self]; omega, ?_, fun _ => Or.inl (by rw [Nat.sub_self]; omega)⟩
            unfold OuQ
            by_cases z : (S 62).e = 1 ∧ 1 = (S 62).N
            · rw [if_pos z]
              have f := H.rg.fin z.1
              have f4 := f.2.2.2.1.1
              rw [f.2.1, ← z.2, Nat.sub_self, o0] at f4
              exact f4
            · rw [if_neg z]
              exact Rat.intCast_le_intCast.mpr (by rw [o0] at mo; exact mo)⟩
          refine am_w.mono (ih (it + 1) 62 1 0 _ (by rw [if_neg (by decide)]; rw [if_pos rfl] at hm; omega) (by omega) (Or.inr rfl) R2 w) (fun r h' q => ?_)
          obtain ⟨b', i', x', a1, a2, a3, a4, a5⟩ := q
          refine ⟨b', i', x', a1, a2, a3, fun P => ?_, a5⟩
          rw [a4 P]
          unfold reA
          have z0 : (((0 : Int)) : Rat) = 0 := rfl
          rw [if_neg (by decide), if_pos rfl, reS_end (s := S 46) (by omega), z0, reS_start H.rg.o0]
          grind
        ·
          refine wr_iload_n rfl rfl rfl ?_
          refine wr_bipush rfl rfl (by decide) ?_
          refine wr_icmp_gt rfl rfl rfl (by omega) (by omega) (fun c5 => by exfalso; omega) (fun c5 => ?_)
          refine wr_aload_n rfl rfl rfl ?_
          refine wr_get (ci := 10) (f := 7) rfl rfl rfl (by assumption) rfl ?_
          refine wr_aload_n rfl rfl rfl ?_
          refine wr_get (ci := 10) (f := 6) rfl rfl rfl (by assumption) rfl ?_
          refine wr_get (ci := 7) (f := 6) rfl rfl rfl (by assumption) rfl ?_
          refine wr_icmp_le rfl rfl rfl (by omega) (by omega) (fun c19 => by exfalso; omega) (fun c19 => ?_)
          refine wr_aload_n rfl rfl rfl ?_
          refine wr_get (ci := 10) (f := 6) rfl rfl rfl (by assumption) rfl ?_
          refine wr_aload_n rfl rfl rfl ?_
          refine wr_get (ci := 10) (f := 0) rfl rfl rfl (by assumption) rfl ?_
          refine wr_get (ci := 6) (f := 1) rfl rfl rfl (by assumption) rfl ?_
          refine wr_acmp_ne rfl rfl rfl (fun c33 => by exfalso; omega) (fun c33 => ?_)
          refine wr_iconst rfl rfl ?_
          refine wr_zret rfl rfl (by decide) ?_
          refine ⟨62, i, x, w, Or.inr rfl, R', fun P => rfl, Or.inr ⟨rfl, fun P => ?_⟩⟩
          unfold reA
          rw [if_neg (by decide), reS_end (by omega)]
  refine am_c.of (Nat.le_of_ble_eq_true rfl) ?_
  show am_w _ _ _ (_, [_, _], _, _) _
  refine wr_iconst rfl rfl ?_
  refine wr_istore_n (ls' := [_, _]) rfl rfl (Nat.le_of_ble_eq_true rfl) rfl ?_
  refine L 26 0 b i x h ?_ (by omega) hb R w
  have := R.1
  rcases hb with rfl | rfl
  · rw [if_pos rfl]; omega
  · rw [if_neg (by decide)]; omega
theorem nice_q2 {d ru : Int} {z : Rat} (h : nice d ru z) (b : -1000000000 ≤ z ∧ z ≤ 1000000000) : qB 2 z := by
  obtain ⟨Z, m, q, e, m1, m2, -⟩ := h
  have mq := q_pos m1
  have e2 : z = Rat.divInt Z (1000 * m) := by
    rw [e, divQ]
    have : ((1000 * m : Int) : Rat) = 1000 * (m : Rat) := by grind
    rw [this]
  rw [e2]
  have Zq : (Z : Rat) = z * (1000 * m) := by rw [e]; grind
  have up : (Z : Rat) ≤ ((200000000000000000 : Int) : Rat) := by
    rw [Zq]
    have x1 := q_mul_nn (a := 1000000000 - z) (b := 1000 * (m : Rat)) (by grind) (by grind)
    have x2 : (m : Rat) ≤ ((200000 : Int) : Rat) := Rat.intCast_le_intCast.mpr m2
    have y1 : ((200000 : Int) : Rat) = 200000 := rfl
    have y2 : ((200000000000000000 : Int) : Rat) = 200000000000000000 := rfl
    rw [y1] at x2
    rw [y2]
    grind
  have dn : ((-200000000000000000 : Int) : Rat) ≤ (Z : Rat) := by
    rw [Zq]
    have x1 := q_mul_nn (a := 1000000000 + z) (b := 1000 * (m : Rat)) (by grind) (by grind)
    have x2 : (m : Rat) ≤ ((200000 : Int) : Rat) := Rat.intCast_le_intCast.mpr m2
    have y1 : ((200000 : Int) : Rat) = 200000 := rfl
    have y2 : ((-200000000000000000 : Int) : Rat) = -200000000000000000 := rfl
    rw [y1] at x2
    rw [y2]
    grind
  have u := Rat.intCast_le_intCast.mp up
  have v := Rat.intCast_le_intCast.mp dn
  exact qB2 (by omega) (by omega)
/-- a piece measured: from x to y on the way to corner i -/
def meQ (gn : Nat) (go gl : Nat → Int) (b : Nat) (s : Sq) (eo : Rat) (F F' : Nat → Rat) (i : Nat) (x : Int) (i' : Nat) (x' : Int) (y : Rat) : Prop := F' 106 = gapQ gn go gl (sgO b) s i x ∧ F' 111 = gapQ gn go gl (sgO b) s i y ∧ F' 116 = (y - x) / 2 ∧ (∀ g, g ≠ 106 → g ≠ 111 → g ≠ 116 → g ≠ 126 → F' g = F g) ∧ srH gn go b s eo i' x' ∧ (∀ P, reS gn go (sgO b) s eo P i x = P i x y + reS gn go (sgO b) s eo P i' x') ∧ (∃ d ru K, pcH (gapQ gn go gl (sgO b) s i x) (gapQ gn go gl (sgO b) s i y) (y - x) d ru K) ∧ qB 2 (F' 106) ∧ qB 2 (F' 111) ∧ qB 6 (F' 116)
theorem gw_measure {d : Nat} (w : GW h0 (h) gn go gl wk ch tk S ws st (b) ((i : Int)) (x) F W) (hb : b = 46 ∨ b = 62) (ok : okG gn go gl) (D : sdH gn go gl (sgO b) (S b) (F (b + 6)) (F (b + 11))) (R : srH gn go b (S b) (F (b + 6)) i x) (hi : i ≤ (S b).N) (lt : (x : Rat) < OuQ (S b) (F (b + 6)) i) : am_c X (d + 6) 125 [.ref 95] h (fun r h' => r = none ∧ ∃ F' i' x' y, GW h0 (h') gn go gl wk ch tk S ws st (b) (((i' : Nat) : Int)) (x') (F') W ∧ meQ gn go gl b (S b) (F (b + 6)) F F' i x i' x' y) := by
  obtain ⟨r1, r2, r3, r4⟩ := id R
  obtain ⟨r5, r6, r7⟩ := r4 hi
  have hs := sgO_in b
  have oN := D.ok.1
  have eI := D.ok.2.1
  have o1 := D.ok.2.2.1 i hi
  have n12 := ok.1
  have hxq : ((S b).ou (i - 1) : Rat) ≤ x := Rat.intCast_le_intCast.mpr r5
  have hw : ((S b).ou (i - 1) : Rat) < OuQ (S b) (F (b + 6)) i := by grind
  obtain ⟨top, hr, hri⟩ := D.top r1 hi hw
  have m6 : (b + 6, 16) ∈ LF := by rcases hb with rfl | rfl <;> decide
  have bn : 46 ≤ b ∧ b ≤ 62 := by omega
  have kn : kO gn go (sgO b) x ≤ gn := (gk_spec gn (uO gn go (sgO b)) x).1
  have gNx := gN_kO (pl := x) ok hs
  have ks : kO gn go (sgO b) x < gn → x < uO gn go (sgO b) (kO gn go (sgO b) x) := (gk_spec gn (uO gn go (sgO b)) x).2.2
  have ub := uO_in (j := kO gn go (sgO b) x) ok hs
  obtain ⟨k, ek⟩ : ∃ z, z = kO gn go (sgO b) x := ⟨_, rfl⟩
  rw [← ek] at kn gNx ks ub
  -- the point that is looked at
  obtain ⟨pt, ept⟩ : ∃ z, z = gN go (sgO b) x gn := ⟨_, rfl⟩
  rw [← ept] at gNx
  have ptr : -1 ≤ pt ∧ pt < gn := by
    have := ixO_lt (n := gn) (j := k) (sg := sgO b)
    omega
  obtain ⟨nx, enx⟩ : ∃ z, z = (if 0 ≤ pt then sgO b * go pt.toNat else 0) := ⟨_, rfl⟩
  have nxk : k < gn → nx = uO gn go (sgO b) k := fun q => by
    have e : pt = ixO gn (sgO b) k := by omega
    rw [enx, e, if_pos (by omega), Int.toNat_natCast]
    rfl
  have nxr : k < gn → 0 ≤ nx ∧ nx ≤ 100000 := fun q => by rw [nxk q]; have := ks q; omega
  have caa := w.aa
  have cb0 := (w.sd hb).1
  have cg0 := w.gr.1
  have ca0 := w.arc
  unfold arCell at ca0
  have cs0 := w.se.1
  refine am_c.of (Nat.le_of_ble_eq_true rfl) ?_
  show am_w _ _ _ (_, [_, _, _, _, _], _, _) _
  refine wr_aload_n rfl rfl rfl ?_
  refine wr_aload_n rfl rfl rfl ?_
  refine wr_get (ci := 10) (f := 9) rfl rfl rfl (by assumption) rfl ?_
  refine wr_aload_n rfl rfl rfl ?_
  refine wr_get (ci := 10) (f := 8) rfl rfl rfl (by assumption) rfl ?_
  refine wr_cv2 (k' := 126) (ci := 10) rfl rfl rfl rfl (by assumption) rfl rfl (gw_gapAt w hb (Or.inl rfl) ok D.ok r1 hi hr hri r3) (fun r h2 q => ?_)
  obtain ⟨rfl, F1, w, f106, K1⟩ := q
  dsimp only [Option.toList, List.nil_append]
  have caa := w.aa
  have cb0 := (w.sd hb).1
  have cg0 := w.gr.1
  have ca0 := w.arc
  unfold arCell at ca0
  refine wr_aload_n rfl rfl rfl ?_
  refine wr_get (ci := 10) (f := 1) rfl rfl rfl (by assumption) rfl ?_
  refine wr_aload_n rfl rfl rfl ?_
  refine wr_get (ci := 10) (f := 6) rfl rfl rfl (by assumption) rfl ?_
  refine wr_get (ci := 7) (f := 0) rfl rfl rfl (by assumption) rfl ?_
  refine wr_aload_n rfl rfl rfl ?_
  refine wr_get (ci := 10) (f := 8) rfl rfl rfl (by assumption) rfl ?_
  refine wr_cv2 (k' := 82) (ci := 3) rfl rfl rfl rfl (by assumption) rfl rfl (wp_gnext w.gr ok hs (by omega)) (fun r h2 q => ?_)
  obtain ⟨rfl, hh⟩ := q
  rw [hh]
  clear hh h2
  dsimp only [Option.toList, List.cons_append, List.nil_append]
  rw [← ept]
  refine wr_istore_n (ls' := [_, _, _, _, _]) rfl rfl (Nat.le_of_ble_eq_true rfl) rfl ?_
  refine wr_aload_n rfl rfl rfl ?_
  refine wr_get (ci := 10) (f := 1) rfl rfl rfl (by assumption) rfl ?_
  refine wr_iload_n rfl rfl rfl ?_
  refine wr_aload_n rfl rfl rfl ?_
  refine wr_get (ci := 10) (f := 6) rfl rfl rfl (by assumption) rfl ?_
  refine wr_get (ci := 7) (f := 0) rfl rfl rfl (by assumption) rfl ?_
  refine wr_cv2 (k' := 83) (ci := 3) rfl rfl rfl rfl (by assumption) rfl rfl (wp_gout w.gr ok ptr hs) (fun r h2 q => ?_)
  obtain ⟨rfl, hh⟩ := q
  rw [hh]
  clear hh h2
  dsimp only [Option.toList, List.cons_append, List.nil_append]
  rw [← enx]
  refine wr_lstore_n (ls' := [_, _, _, _, _]) rfl rfl (Nat.le_of_ble_eq_true rfl) rfl ?_
  have k6 : F1 (b + 6) = F (b + 6) := K1 _ (by omega) (by omega)
  have D1 : sdH gn go gl (sgO b) (S b) (F1 (b + 6)) (F (b + 11)) := k6 ▸ D
  -- to a whole place y
  have TO : ∀ (y : Int) (hh : am_H) (l1 l4 : Value), GW h0 (hh) gn go gl wk ch tk S ws st (b) ((i : Int)) (x) (F1) W → (x : Rat) < y → (y : Rat) ≤ OuQ (S b) (F (b + 6)) i → (0 ≤ y ∧ y ≤ 2000000) → (k < gn → (y : Rat) ≤ uO gn go (sgO b) k) → ((∃ j, j < gn ∧ y = uO gn go (sgO b) j) ∨ (y : Rat) = OuQ (S b) (F (b + 6)) i) → (∀ P, reS gn go (sgO b) (S b) (F (b + 6)) P i x = P i x y + reS gn go (sgO b) (S b) (F (b + 6)) P i y) → am_w X (d + 5) 125 (211, [.ref 95, l1, .long (lI y), am_U, l4], [], hh) (fun r h' => r = none ∧ ∃ F' i' x' y, GW h0 (h') gn go gl wk ch tk S ws st (b) (((i' : Nat) : Int)) (x') (F') W ∧ meQ gn go gl b (S b) (F (b + 6)) F F' i x i' x' y) := by
    intro y hh l1 l4 w hxy hyO hy hk hy2 hre
    have PH := D.piece ok hs r1 hi r5 hxy hyO (r7 lt) (fun q => by rw [← ek]; exact hk (by rw [ek]; exact q)) (Or.inr ⟨y, rfl, hy2⟩)
    obtain ⟨dd, ru, KK, ph⟩ := PH
    have nb := ph.nb
    have caa := w.aa
    have cb0 := (w.sd hb).1
    have cg0 := w.gr.1
    have ca0 := w.arc
    unfold arCell at ca0
    have cs0 := w.se.1
    refine wr_aload_n rfl rfl rfl ?_
    refine wr_aload_n rfl rfl rfl ?_
    refine wr_get (ci := 10) (f := 10) rfl rfl rfl (by assumption) rfl ?_
    refine wr_lload_n rfl rfl rfl ?_
    refine wr_cv2 (k' := 126) (ci := 10) rfl rfl rfl rfl (by assumption) rfl rfl (gw_gapAt w hb (Or.inr rfl) ok D.ok r1 hi hr hri hy) (fun r h2 q => ?_)
    obtain ⟨rfl, F3, w, f111, K3⟩ := q
    dsimp only [Option.toList, List.nil_append]
    have caa := w.aa
    have ca0 := w.arc
    unfold arCell at ca0
    refine wr_aload_n rfl rfl rfl ?_
    refine wr_get (ci := 10) (f := 2) rfl rfl rfl (by assumption) rfl ?_
    refine wr_aload_n rfl rfl rfl ?_
    refine wr_get (ci := 10) (f := 11) rfl rfl rfl (by assumption) rfl ?_
    refine wr_lload_n rfl rfl rfl ?_
    refine wr_aload_n rfl rfl rfl ?_
    refine wr_get (ci := 10) (f := 8) rfl rfl rfl (by assumption) rfl ?_
    refine wr_lsub rfl rfl ?_
    refine wr_ldc2 (z := 2) rfl rfl rfl (by decide) ?_
    refine wr_cv3 (k' := 79) (ci := 4) rfl rfl rfl rfl (by assumption) rfl rfl (gw_ratio w mF116 (by omega) (by decide)) (fun r h2 q => ?_)
    obtain ⟨rfl, w⟩ := q
    dsimp only [Option.toList, List.nil_append]
    have caa := w.aa
    refine wr_aload_n rfl rfl rfl ?_
    refine wr_lload_n rfl rfl rfl ?_
    refine wr_putL (ci := 10) (f := 8) (fs' := [_, _, _, _, _, _, _, _, _, _, _, _, _, _]) rfl rfl rfl (by assumption) rfl rfl rfl (fun h1 e1 => ?_)
    have w := e1 ▸ w.setA st b (i : Int) y
    clear e1
    refine wr_vret rfl rfl ?_
    have g106 : F3 106 = gapQ gn go gl (sgO b) (S b) i x := by rw [K3 106 (by decide) (by decide), f106]
    refine ⟨rfl, _, i, y, (y : Rat), w, ?_, ?_, ?_, fun g g1 g2 g3 g4 => ?_, ⟨r1, r2, hy, fun _ => ⟨?_, hyO, ?_⟩⟩, hre, ⟨dd, ru, KK, ph⟩, ?_, ?_, ?_⟩
    · rw [updR_n (by decide), g106]
    · rw [updR_n (by decide), f111]
    · rw [updR_s, divQ]
      have : ((y - x : Int) : Rat) = (y : Rat) - x := by grind
      rw [this]
      rfl
    · rw [updR_n g3, K3 g g2 g4, K1 g g1 g4]
    · have := Rat.intCast_lt_intCast.mp hxy
      omega
    · intro ly
      rcases hy2 with q | q
      · exact Or.inr q
      · exact absurd ly (by rw [q]; exact Rat.lt_irrefl)
    · rw [updR_n (by decide), g106]; exact nice_q2 ph.na ph.va
    · rw [updR_n (by decide), f111]
      rcases nb with q | ⟨q, -⟩
      · rw [q]; exact ⟨by decide, by decide⟩
      · exact nice_q2 q ph.vb
    · rw [updR_s]; exact (qB1 (by omega) (by decide)).mono (by decide)
  -- to the corner, where no point is nearer
  have EL : ∀ (hh : am_H), GW h0 (hh) gn go gl wk ch tk S ws st (b) ((i : Int)) (x) (F1) W → ¬ (k < gn ∧ (uO gn go (sgO b) k : Rat) < OuQ (S b) (F (b + 6)) i) → am_w X (d + 5) 125 (77, [.ref 95, .int (iI pt), .long (lI nx), am_U, .int (iI 0)], [], hh) (fun r h' => r = none ∧ ∃ F' i' x' y, GW h0 (h') gn go gl wk ch tk S ws st (b) (((i' : Nat) : Int)) (x') (F') W ∧ meQ gn go gl b (S b) (F (b + 6)) F F' i x i' x' y) := by
    intro hh w nk
    have nk' : ¬ (kO gn go (sgO b) x < gn ∧ (uO gn go (sgO b) (kO gn go (sgO b) x) : Rat) < OuQ (S b) (F (b + 6)) i) := by rw [← ek]; exact nk
    have far : k < gn → OuQ (S b) (F (b + 6)) i ≤ uO gn go (sgO b) k := fun q => Rat.not_lt.mp (fun z => nk ⟨q, z⟩)
    have be := b2_in ((S b).e = 1 ∧ (i : Int) = (S b).N)
    have caa := w.aa
    have cb0 := (w.sd hb).1
    have cg0 := w.gr.1
    have ca0 := w.arc
    unfold arCell at ca0
    have cs0 := w.se.1
    refine wr_iload rfl rfl rfl ?_
    refine wr_if_ne rfl rfl rfl (by omega) (fun c79 => by exfalso; omega) (fun c79 => ?_)
    refine wr_aload_n rfl rfl rfl ?_
    refine wr_get (ci := 10) (f := 6) rfl rfl rfl (by assumption) rfl ?_
    refine wr_aload_n rfl rfl rfl ?_
    refine wr_get (ci := 10) (f := 7) rfl rfl rfl (by assumption) rfl ?_
    refine wr_cv1 (k' := 110) (ci := 7) rfl rfl rfl rfl (by assumption) rfl rfl (wp_sisEnd (w.sS hb) (by omega) oN eI) (fun r h2 q => ?_)
    obtain ⟨rfl, hh⟩ := q
    rw [hh]
    clear hh h2
    dsimp only [Option.toList, List.cons_append, List.nil_append]
    by_cases c : (S b).e = 1 ∧ i = (S b).N
    · have bt : b2 ((S b).e = 1 ∧ (i : Int) = (S b).N) = 1 := b2_t (by omega)
      have q3 := D.q3 c.1
      have ou : OuQ (S b) (F (b + 6)) i = F (b + 6) := by unfold OuQ; rw [if_pos c]
      have PH := D.piece (y := F (b + 6)) ok hs r1 hi r5 (by rw [← ou]; exact lt) (by rw [ou]; exact Rat.le_refl) (r7 lt) (fun q => by rw [← ek, ← ou]; exact far (by rw [ek]; exact q)) (Or.inl ⟨c.1, c.2, rfl⟩)
      obtain ⟨dd, ru, KK, ph⟩ := PH
      have g0 : gapQ gn go gl (sgO b) (S b) i (F (b + 6)) = 0 := by
        have f := D.fin c.1
        have t := top
        unfold OuQ LvQ at t
        rw [if_pos c, if_pos c] at t
        unfold gapQ
        rw [f.2.2.2.2.1, t]
        grind
      refine wr_if_eq rfl rfl rfl (by omega) (fun c93 => by exfalso; omega) (fun c93 => ?_)
      refine wr_aload_n rfl rfl rfl ?_
      refine wr_get (ci := 10) (f := 2) rfl rfl rfl (by assumption) rfl ?_
      refine wr_aload_n rfl rfl rfl ?_
      refine wr_get (ci := 10) (f := 13) rfl rfl rfl (by assumption) rfl ?_
      refine wr_aload_n rfl rfl rfl ?_
      refine wr_get (ci := 10) (f := 8) rfl rfl rfl (by assumption) rfl ?_
      refine wr_lconst (z := 1) rfl rfl rfl ?_
      refine wr_cv3 (k' := 79) (ci := 4) rfl rfl rfl rfl (by assumption) rfl rfl (gw_ratio w mF126 (by omega) (by decide)) (fun r h2 q => ?_)
      obtain ⟨rfl, w⟩ := q
      dsimp only [Option.toList, List.cons_append, List.nil_append]
      have caa := w.aa
      have cb0 := (w.sd hb).1
      have cg0 := w.gr.1
      have ca0 := w.arc
      unfold arCell at ca0
      have cs0 := w.se.1
      obtain ⟨F2, e2⟩ : ∃ z, z = updR F1 126 (Rat.divInt x 1) := ⟨_, rfl⟩
      rw [← e2] at w
      have a6 : F2 (b + 6) = F (b + 6) := by rw [e2, updR_n (by omega), k6]
      have q126 : qB 1 (F2 126) := by rw [e2, updR_s]; exact qB1 (by omega) (by decide)
      refine wr_aload_n rfl rfl rfl ?_
      refine wr_get (ci := 10) (f := 2) rfl rfl rfl (by assumption) rfl ?_
      refine wr_aload_n rfl rfl rfl ?_
      refine wr_get (ci := 10) (f := 11) rfl rfl rfl (by assumption) rfl ?_
      refine wr_aload_n rfl rfl rfl ?_
      refine wr_get (ci := 10) (f := 6) rfl rfl rfl (by assumption) rfl ?_
      refine wr_get (ci := 7) (f := 8) rfl rfl rfl (by assumption) rfl ?_
      refine wr_aload_n rfl rfl rfl ?_
      refine wr_get (ci := 10) (f := 13) rfl rfl rfl (by assumption) rfl ?_
      refine wr_iconst rfl rfl ?_
      refine wr_cv4 (k' := 85) (ci := 4) rfl rfl rfl rfl (by assumption) rfl rfl (gw_dif w mF116 m6 mF126 (a6.symm ▸ q3) q126 (by decide)) (fun r h2 q => ?_)
      obtain ⟨rfl, w⟩ := q
      dsimp only [Option.toList, List.cons_append, List.nil_append]
      have caa := w.aa
      have cb0 := (w.sd hb).1
      have cg0 := w.gr.1
      have ca0 := w.arc
      unfold arCell at ca0
      have cs0 := w.se.1
      obtain ⟨F3, e3⟩ : ∃ z, z = updR F2 116 (F2 (b + 6) - F2 126) := ⟨_, rfl⟩
      rw [← e3] at w
      refine wr_aload_n rfl rfl rfl ?_
      refine wr_get (ci := 10) (f := 2) rfl rfl rfl (by assumption) rfl ?_
      refine wr_aload_n rfl rfl rfl ?_
      refine wr_get (ci := 10) (f := 13) rfl rfl rfl (by assumption) rfl ?_
      refine wr_lconst (z := 1) rfl rfl rfl ?_
      refine wr_ldc2 (z := 2) rfl rfl rfl (by decide) ?_
      refine wr_cv3 (k' := 79) (ci := 4) rfl rfl rfl rfl (by assumption) rfl rfl (gw_ratio w mF126 (by decide) (by decide)) (fun r h2 q => ?_)
      obtain ⟨rfl, w⟩ := q
      dsimp only [Option.toList, List.cons_append, List.nil_append]
      have caa := w.aa
      have cb0 := (w.sd hb).1
      have cg0 := w.gr.1
      have ca0 := w.arc
      unfold arCell at ca0
      have cs0 := w.se.1
      obtain ⟨F4, e4⟩ : ∃ z, z = updR F3 126 (Rat.divInt 1 2) := ⟨_, rfl⟩
      rw [← e4] at w
      have q116 : qB 5 (F4 116) := by
        rw [e4, updR_n (by decide), e3, updR_s, Rat.sub_eq_add_neg]
        exact (qB.add (show qB 3 (F2 (b + 6)) from a6.symm ▸ q3) q126.neg).mono (by decide)
      have q126b : qB 1 (F4 126) := by rw [e4, updR_s]; exact qB1 (by decide) (by decide)
      refine wr_aload_n rfl rfl rfl ?_
      refine wr_get (ci := 10) (f := 2) rfl rfl rfl (by assumption) rfl ?_
      refine wr_aload_n rfl rfl rfl ?_
      refine wr_get (ci := 10) (f := 11) rfl rfl rfl (by assumption) rfl ?_
      refine wr_aload_n rfl rfl rfl ?_
      refine wr_get (ci := 10) (f := 11) rfl rfl rfl (by assumption) rfl ?_
      refine wr_aload_n rfl rfl rfl ?_
      refine wr_get (ci := 10) (f := 13) rfl rfl rfl (by assumption) rfl ?_
      refine wr_iconst rfl rfl ?_
      refine wr_cv4 (k' := 101) (ci := 4) rfl rfl rfl rfl (by assumption) rfl rfl (gw_mul w mF116 mF116 mF126 q116 q126b (by decide)) (fun r h2 q => ?_)
      obtain ⟨rfl, w⟩ := q
      dsimp only [Option.toList, List.cons_append, List.nil_append]
      have caa := w.aa
      have cb0 := (w.sd hb).1
      have cg0 := w.gr.1
      have ca0 := w.arc
      unfold arCell at ca0
      have cs0 := w.se.1
      obtain ⟨F5, e5⟩ : ∃ z, z = updR F4 116 (F4 116 * F4 126) := ⟨_, rfl⟩
      rw [← e5] at w
      refine wr_aload_n rfl rfl rfl ?_
      refine wr_get (ci := 10) (f := 2) rfl rfl rfl (by assumption) rfl ?_
      refine wr_aload_n rfl rfl rfl ?_
      refine wr_get (ci := 10) (f := 10) rfl rfl rfl (by assumption) rfl ?_
      refine wr_lconst (z := 0) rfl rfl rfl ?_
      refine wr_lconst (z := 1) rfl rfl rfl ?_
      refine wr_cv3 (k' := 79) (ci := 4) rfl rfl rfl rfl (by assumption) rfl rfl (gw_ratio w mF111 (by decide) (by decide)) (fun r h2 q => ?_)
      obtain ⟨rfl, w⟩ := q
      dsimp only [Option.toList, List.cons_append, List.nil_append]
      have caa := w.aa
      have cb0 := (w.sd hb).1
      have cg0 := w.gr.1
      have ca0 := w.arc
      unfold arCell at ca0
      have cs0 := w.se.1
      refine wr_aload_n rfl rfl rfl ?_
      refine wr_dup rfl rfl ?_
      refine wr_get (ci := 10) (f := 7) rfl rfl rfl (by assumption) rfl ?_
      refine wr_iconst rfl rfl ?_
      refine wr_iadd rfl rfl ?_
      refine wr_putI (ci := 10) (f := 7) (fs' := [_, _, _, _, _, _, _, _, _, _, _, _, _, _]) rfl rfl rfl (by assumption) rfl rfl rfl (fun h1 e1 => ?_)
      have w := e1 ▸ w.setA st b ((i + 1 : Nat) : Int) x
      clear e1
      refine wr_vret rfl rfl ?_
      have v116 : F5 116 = (F (b + 6) - x) / 2 := by
        rw [e5, updR_s, e4, updR_n (by decide), updR_s, e3, updR_s, a6, e2, updR_s, div1, divQ]
        have : ((1 : Int) : Rat) / ((2 : Int) : Rat) = 1 / 2 := rfl
        rw [this]
        grind
      refine ⟨rfl, _, i + 1, x, F (b + 6), w, ?_, ?_, ?_, fun g g1 g2 g3 g4 => ?_, ⟨by omega, by omega, r3, fun q => by omega⟩, fun P => ?_, ⟨dd, ru, KK, ph⟩, ?_, ?_, ?_⟩
      · rw [updR_n (by decide), e5, updR_n (by decide), e4, updR_n (by decide), e3, updR_n (by decide), e2, updR_n (by decide), f106]
      · rw [updR_s, g0, div1]; rfl
      · rw [updR_n (by decide), v116]
      · rw [updR_n g2, e5, updR_n g3, e4, updR_n g4, e3, updR_n g3, e2, updR_n g4, K1 g g1 g4]
      · have z := reS_corner (n := gn) (off := go) (lev := gl) (sg := sgO b) (s := S b) (eo := F (b + 6)) (F := P) (x := x) (x' := F (b + 6)) ok hs hi lt nk' (by rw [ou]; exact Rat.lt_irrefl)
        rw [z, ou, reS_end (i := i + 1) (by omega)]
        congr 1
        unfold reS arI
        rw [if_pos hi, ou, if_neg Rat.lt_irrefl, show (S b).N - i = 0 by omega, arT]
        grind
      · rw [updR_n (by decide), e5, updR_n (by decide), e4, updR_n (by decide), e3, updR_n (by decide), e2, updR_n (by decide), f106]; exact nice_q2 ph.na ph.va
      · rw [updR_s]; exact (qB1 (by decide) (by decide)).mono (by decide)
      · rw [updR_n (by decide), e5, updR_s]; exact (q116.mul q126b).mono (by decide)
    · have bt : b2 ((S b).e = 1 ∧ (i : Int) = (S b).N) = 0 := b2_f (by omega)
      have ou : OuQ (S b) (F (b + 6)) i = (S b).ou i := by unfold OuQ; rw [if_neg c]
      refine wr_if_eq rfl rfl rfl (by omega) (fun c93 => ?_) (fun c93 => by exfalso; omega)
      refine wr_iload rfl rfl rfl ?_
      refine wr_if_ne rfl rfl rfl (by omega) (fun c196 => by exfalso; omega) (fun c196 => ?_)
      refine wr_aload_n rfl rfl rfl ?_
      refine wr_get (ci := 10) (f := 6) rfl rfl rfl (by assumption) rfl ?_
      refine wr_aload_n rfl rfl rfl ?_
      refine wr_get (ci := 10) (f := 7) rfl rfl rfl (by assumption) rfl ?_
      refine wr_cv1 (k' := 67) (ci := 7) rfl rfl rfl rfl (by assumption) rfl rfl (wp_sout (w.sS hb) (by omega)) (fun r h2 q => ?_)
      obtain ⟨rfl, hh⟩ := q
      rw [hh]
      clear hh h2
      dsimp only [Option.toList, List.cons_append, List.nil_append]
      refine wr_lstore_n (ls' := [_, _, _, _, _]) rfl rfl (Nat.le_of_ble_eq_true rfl) rfl ?_
      refine TO ((S b).ou i) _ _ _ w (by rw [← ou]; exact lt) (by rw [ou]; exact Rat.le_refl) (by omega) (fun q => by rw [← ou]; exact far q) (Or.inr ou.symm) (fun P => ?_)
      have z := reS_corner (n := gn) (off := go) (lev := gl) (sg := sgO b) (s := S b) (eo := F (b + 6)) (F := P) (x := x) (x' := (S b).ou i) ok hs hi lt nk' (by rw [ou]; exact Rat.lt_irrefl)
      rw [z, ou]
  by_cases kg : k < gn
  · have nr := nxr kg
    have pp : 0 ≤ pt := by omega
    have SA := D.sA (z := nx) i
    have CALL : am_c X (d + 5) 117 [.ref b, .int (iI i), .long (lI nx), .ref 22] h2 (fun r h' => r = some (.int (iI (sA (S b).N (S b).e (S b).ou (F (b + 6)) i nx))) ∧ GW h0 (h') gn go gl wk ch tk S ws st (b) ((i : Int)) (x) (F1) W) := by
      by_cases q : (S b).e = 1
      · have z := gw_sA (X := X) (d := d + 2) w hb (i := i) (z := nx) (by omega) oN eI (by omega) (by omega) (k6.symm ▸ ((D.q3 q).mono (by decide)))
        rw [k6] at z
        exact z
      · refine am_c.mono (wp_sA0 (w.sS hb) (by omega) oN eI q (by omega) (by omega)) (fun r h' z => ?_)
        obtain ⟨z1, z2⟩ := z
        subst z2
        rw [k6] at z1
        exact ⟨z1, w⟩
    have si : -1 ≤ sA (S b).N (S b).e (S b).ou (F (b + 6)) i nx ∧ sA (S b).N (S b).e (S b).ou (F (b + 6)) i nx ≤ 1 := by omega
    have nq : (nx : Rat) = uO gn go (sgO b) k := by rw [nxk kg]
    refine wr_iload_n rfl rfl rfl ?_
    refine wr_if_lt rfl rfl rfl (by omega) (fun c48 => by exfalso; omega) (fun c48 => ?_)
    refine wr_aload_n rfl rfl rfl ?_
    refine wr_get (ci := 10) (f := 6) rfl rfl rfl (by assumption) rfl ?_
    refine wr_aload_n rfl rfl rfl ?_
    refine wr_get (ci := 10) (f := 7) rfl rfl rfl (by assumption) rfl ?_
    refine wr_lload_n rfl rfl rfl ?_
    refine wr_aload_n rfl rfl rfl ?_
    refine wr_get (ci := 10) (f := 2) rfl rfl rfl (by assumption) rfl ?_
    refine wr_cv3 (k' := 117) (ci := 7) rfl rfl rfl rfl (by assumption) rfl rfl CALL (fun r h3 q => ?_)
    obtain ⟨rfl, w⟩ := q
    dsimp only [Option.toList, List.cons_append, List.nil_append]
    by_cases pf : (uO gn go (sgO b) k : Rat) < OuQ (S b) (F (b + 6)) i
    · have s1 : sA (S b).N (S b).e (S b).ou (F (b + 6)) i nx = 1 := by
        rw [← nq] at pf
        rcases SA with ⟨q, -⟩ | ⟨-, q⟩ | ⟨-, q⟩
        · exact q
        · grind
        · grind
      refine wr_if_le rfl rfl rfl (by omega) (fun c67 => by exfalso; omega) (fun c67 => ?_)
      refine wr_iconst rfl rfl ?_
      refine wr_goto rfl rfl ?_
      refine wr_istore (ls' := [_, _, _, _, _]) rfl rfl (Nat.le_of_ble_eq_true rfl) rfl ?_
      refine wr_iload rfl rfl rfl ?_
      refine wr_if_ne rfl rfl rfl (by omega) (fun c79 => ?_) (fun c79 => by exfalso; omega)
      refine wr_iload rfl rfl rfl ?_
      refine wr_if_ne rfl rfl rfl (by omega) (fun c196 => ?_) (fun c196 => by exfalso; omega)
      have xu : (x : Rat) < uO gn go (sgO b) k := Rat.intCast_lt_intCast.mpr (ks kg)
      refine TO nx _ _ _ w (by rw [nq]; exact xu) (by rw [nq]; exact Rat.le_of_lt pf) (by omega) (fun _ => by rw [nq]; exact Rat.le_refl) (Or.inl ⟨k, kg, nxk kg⟩) (fun P => ?_)
      have z := reS_point (n := gn) (off := go) (lev := gl) (sg := sgO b) (s := S b) (eo := F (b + 6)) (F := P) (i := i) (x := x) ok hs hi lt (by rw [← ek]; exact kg) (by rw [← ek]; exact pf)
      rw [← ek, ← nq] at z
      exact z
    · have s1 : sA (S b).N (S b).e (S b).ou (F (b + 6)) i nx ≤ 0 := by
        rw [← nq] at pf
        rcases SA with ⟨-, q⟩ | ⟨q, -⟩ | ⟨q, -⟩
        · exact absurd q pf
        · omega
        · omega
      refine wr_if_le rfl rfl rfl (by omega) (fun c67 => ?_) (fun c67 => by exfalso; omega)
      refine wr_iconst rfl rfl ?_
      refine wr_istore (ls' := [_, _, _, _, _]) rfl rfl (Nat.le_of_ble_eq_true rfl) rfl ?_
      exact EL _ w (fun q => pf q.2)
  · have pm : pt < 0 := by omega
    refine wr_iload_n rfl rfl rfl ?_
    refine wr_if_lt rfl rfl rfl (by omega) (fun c48 => ?_) (fun c48 => by exfalso; omega)
    refine wr_iconst rfl rfl ?_
    refine wr_istore (ls' := [_, _, _, _, _]) rfl rfl (Nat.le_of_ble_eq_true rfl) rfl ?_
    exact EL _ w (fun q => kg q.1)
end ARE
