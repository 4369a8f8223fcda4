/-! THE CLASS'S TEMPLATES -/
abbrev cTm : Nat := 1
abbrev Tm : Type := (Nat → Int) × (Nat → Int) × (Nat → Int) × (Nat → Int) × (Nat → Int) × (Nat) × (Nat) × (Nat)
abbrev Tm.mk (kd : Nat → Int) (fi : Nat → Int) (se : Nat → Int) (ta : Nat → Int) (en : Nat → Int) (od : Nat) (st : Nat) (sz : Nat) : Tm := (kd, fi, se, ta, en, od, st, sz)
abbrev Tm.kd (s : Tm) : Nat → Int := s.1
abbrev Tm.fi (s : Tm) : Nat → Int := s.2.1
abbrev Tm.se (s : Tm) : Nat → Int := s.2.2.1
abbrev Tm.ta (s : Tm) : Nat → Int := s.2.2.2.1
abbrev Tm.en (s : Tm) : Nat → Int := s.2.2.2.2.1
abbrev Tm.od (s : Tm) : Nat := s.2.2.2.2.2.1
abbrev Tm.st (s : Tm) : Nat := s.2.2.2.2.2.2.1
abbrev Tm.sz (s : Tm) : Nat := s.2.2.2.2.2.2.2
theorem Tm_kd {kd : Nat → Int} {fi : Nat → Int} {se : Nat → Int} {ta : Nat → Int} {en : Nat → Int} {od : Nat} {st : Nat} {sz : Nat} : (Tm.mk kd fi se ta en od st sz).kd = kd := rfl
theorem Tm_fi {kd : Nat → Int} {fi : Nat → Int} {se : Nat → Int} {ta : Nat → Int} {en : Nat → Int} {od : Nat} {st : Nat} {sz : Nat} : (Tm.mk kd fi se ta en od st sz).fi = fi := rfl
theorem Tm_se {kd : Nat → Int} {fi : Nat → Int} {se : Nat → Int} {ta : Nat → Int} {en : Nat → Int} {od : Nat} {st : Nat} {sz : Nat} : (Tm.mk kd fi se ta en od st sz).se = se := rfl
theorem Tm_ta {kd : Nat → Int} {fi : Nat → Int} {se : Nat → Int} {ta : Nat → Int} {en : Nat → Int} {od : Nat} {st : Nat} {sz : Nat} : (Tm.mk kd fi se ta en od st sz).ta = ta := rfl
theorem Tm_en {kd : Nat → Int} {fi : Nat → Int} {se : Nat → Int} {ta : Nat → Int} {en : Nat → Int} {od : Nat} {st : Nat} {sz : Nat} : (Tm.mk kd fi se ta en od st sz).en = en := rfl
theorem Tm_od {kd : Nat → Int} {fi : Nat → Int} {se : Nat → Int} {ta : Nat → Int} {en : Nat → Int} {od : Nat} {st : Nat} {sz : Nat} : (Tm.mk kd fi se ta en od st sz).od = od := rfl
theorem Tm_st {kd : Nat → Int} {fi : Nat → Int} {se : Nat → Int} {ta : Nat → Int} {en : Nat → Int} {od : Nat} {st : Nat} {sz : Nat} : (Tm.mk kd fi se ta en od st sz).st = st := rfl
theorem Tm_sz {kd : Nat → Int} {fi : Nat → Int} {se : Nat → Int} {ta : Nat → Int} {en : Nat → Int} {od : Nat} {st : Nat} {sz : Nat} : (Tm.mk kd fi se ta en od st sz).sz = sz := rfl
/-- the templates at t -/
def isT (h : am_H) (t : Nat) (m : Tm) : Prop := h[t]? = some (.inr (cTm, [.ref (t + 1), .ref (t + 2), .ref (t + 3), .ref (t + 4), .ref (t + 5), .int (iI m.od), .int (iI m.st), .int (iI m.sz)])) ∧ h[t + 1]? = some (am_ia 144 m.kd) ∧ h[t + 2]? = some (am_ia 144 m.fi) ∧ h[t + 3]? = some (am_ia 144 m.se) ∧ h[t + 4]? = some (am_ia 144 m.ta) ∧ h[t + 5]? = some (am_ia 6 m.en)
section TMP
variable {X : Nat × (Nat → Int32)} {h h' : am_H} {t : Nat} {m : Tm}
theorem isT.same {lo up : Nat} (w : isT h t m) (q : same lo up h h') (h1 : lo ≤ t ∧ t + 5 ≤ up) : isT h' t m := by
  obtain ⟨c0, c1, c2, c3, c4, c5⟩ := w
  exact ⟨by rw [q t (by omega) (by omega)]; exact c0, by rw [q (t + 1) (by omega) (by omega)]; exact c1, by rw [q (t + 2) (by omega) (by omega)]; exact c2, by rw [q (t + 3) (by omega) (by omega)]; exact c3, by rw [q (t + 4) (by omega) (by omega)]; exact c4, by rw [q (t + 5) (by omega) (by omega)]; exact c5⟩
theorem isT.s0 (w : isT h t m) (m' : Tm) (e : m'.kd = m.kd ∧ m'.fi = m.fi ∧ m'.se = m.se ∧ m'.ta = m.ta ∧ m'.en = m.en) : isT (h.set t (.inr (cTm, [.ref (t + 1), .ref (t + 2), .ref (t + 3), .ref (t + 4), .ref (t + 5), .int (iI m'.od), .int (iI m'.st), .int (iI m'.sz)]))) t m' := by
  obtain ⟨c0, c1, c2, c3, c4, c5⟩ := w
  obtain ⟨e1, e2, e3, e4, e5⟩ := e
  refine ⟨am_set_s c0, ?_, ?_, ?_, ?_, ?_⟩ <;> rw [am_set_n (by omega)]
  · rw [e1]; exact c1
  · rw [e2]; exact c2
  · rw [e3]; exact c3
  · rw [e4]; exact c4
  · rw [e5]; exact c5
theorem isT.s1 (w : isT h t m) (m' : Tm) (e : m'.fi = m.fi ∧ m'.se = m.se ∧ m'.ta = m.ta ∧ m'.en = m.en ∧ m'.od = m.od ∧ m'.st = m.st ∧ m'.sz = m.sz) : isT (h.set (t + 1) (am_ia 144 m'.kd)) t m' := by
  obtain ⟨c0, c1, c2, c3, c4, c5⟩ := w
  obtain ⟨e1, e2, e3, e4, e5, e6, e7⟩ := e
  rw [← e5, ← e6, ← e7] at c0
  first | rw [← e1] at c1 c2 c3 c4 c5 | skip
  refine ⟨?_, ?_, ?_, ?_, ?_, ?_⟩ <;> first | exact am_set_s (by assumption) | (rw [am_set_n (by omega)]; simp only [*])
theorem isT.s2 (w : isT h t m) (m' : Tm) (e : m'.kd = m.kd ∧ m'.se = m.se ∧ m'.ta = m.ta ∧ m'.en = m.en ∧ m'.od = m.od ∧ m'.st = m.st ∧ m'.sz = m.sz) : isT (h.set (t + 2) (am_ia 144 m'.fi)) t m' := by
  obtain ⟨c0, c1, c2, c3, c4, c5⟩ := w
  obtain ⟨e1, e2, e3, e4, e5, e6, e7⟩ := e
  rw [← e5, ← e6, ← e7] at c0
  first | rw [← e1] at c1 c2 c3 c4 c5 | skip
  refine ⟨?_, ?_, ?_, ?_, ?_, ?_⟩ <;> first | exact am_set_s (by assumption) | (rw [am_set_n (by omega)]; simp only [*])
theorem isT.s3 (w : isT h t m) (m' : Tm) (e : m'.kd = m.kd ∧ m'.fi = m.fi ∧ m'.ta = m.ta ∧ m'.en = m.en ∧ m'.od = m.od ∧ m'.st = m.st ∧ m'.sz = m.sz) : isT (h.set (t + 3) (am_ia 144 m'.se)) t m' := by
  obtain ⟨c0, c1, c2, c3, c4, c5⟩ := w
  obtain ⟨e1, e2, e3, e4, e5, e6, e7⟩ := e
  rw [← e5, ← e6, ← e7] at c0
  first | rw [← e1] at c1 c2 c3 c4 c5 | skip
  refine ⟨?_, ?_, ?_, ?_, ?_, ?_⟩ <;> first | exact am_set_s (by assumption) | (rw [am_set_n (by omega)]; simp only [*])
theorem isT.s4 (w : isT h t m) (m' : Tm) (e : m'.kd = m.kd ∧ m'.fi = m.fi ∧ m'.se = m.se ∧ m'.en = m.en ∧ m'.od = m.od ∧ m'.st = m.st ∧ m'.sz = m.sz) : isT (h.set (t + 4) (am_ia 144 m'.ta)) t m' := by
  obtain ⟨c0, c1, c2, c3, c4, c5⟩ := w
  obtain ⟨e1, e2, e3, e4, e5, e6, e7⟩ := e
  rw [← e5, ← e6, ← e7] at c0
  first | rw [← e1] at c1 c2 c3 c4 c5 | skip
  refine ⟨?_, ?_, ?_, ?_, ?_, ?_⟩ <;> first | exact am_set_s (by assumption) | (rw [am_set_n (by omega)]; simp only [*])
theorem isT.s5 (w : isT h t m) (m' : Tm) (e : m'.kd = m.kd ∧ m'.fi = m.fi ∧ m'.se = m.se ∧ m'.ta = m.ta ∧ m'.od = m.od ∧ m'.st = m.st ∧ m'.sz = m.sz) : isT (h.set (t + 5) (am_ia 6 m'.en)) t m' := by
  obtain ⟨c0, c1, c2, c3, c4, c5⟩ := w
  obtain ⟨e1, e2, e3, e4, e5, e6, e7⟩ := e
  rw [← e5, ← e6, ← e7] at c0
  first | rw [← e1] at c1 c2 c3 c4 c5 | skip
  refine ⟨?_, ?_, ?_, ?_, ?_, ?_⟩ <;> first | exact am_set_s (by assumption) | (rw [am_set_n (by omega)]; simp only [*])
theorem wp_tempty {d : Nat} (w : isT h t m) : am_c X (d + 1) 18 [.ref t] h (fun r h' => r = none ∧ isT h' t (Tm.mk m.kd m.fi m.se m.ta m.en (0) m.st (0)) ∧ frI [(t, t + 5)] h h') := by
  obtain ⟨c0, c1, c2, c3, c4, c5⟩ := id w
  have f : frI [(t, t + 5)] h h := frI_rf _ _
  refine am_c.of (Nat.le_of_ble_eq_true rfl) ?_
  show am_w _ _ _ (_, [_], _, _) _
  refine wr_aload_n rfl rfl rfl ?_
  refine wr_iconst rfl rfl ?_
  refine wr_putI (ci := 1) (f := 5) (fs' := [_, _, _, _, _, _, _, _]) rfl rfl rfl (by assumption) rfl rfl rfl (fun h1 e1 => ?_)
  have f : frI _ h h1 := frI_tr f (by rw [e1]; exact frI_set (by omega))
  have w := e1 ▸ w.s0 (Tm.mk m.kd m.fi m.se m.ta m.en (0) m.st m.sz) ⟨rfl, rfl, rfl, rfl, rfl⟩
  clear e1
  obtain ⟨c0, c1, c2, c3, c4, c5⟩ := id w
  refine wr_aload_n rfl rfl rfl ?_
  refine wr_iconst rfl rfl ?_
  refine wr_putI (ci := 1) (f := 7) (fs' := [_, _, _, _, _, _, _, _]) rfl rfl rfl (by assumption) rfl rfl rfl (fun h1 e1 => ?_)
  have f : frI _ h h1 := frI_tr f (by rw [e1]; exact frI_set (by omega))
  have w := e1 ▸ w.s0 (Tm.mk m.kd m.fi m.se m.ta m.en (0) m.st (0)) ⟨rfl, rfl, rfl, rfl, rfl⟩
  clear e1
  obtain ⟨c0, c1, c2, c3, c4, c5⟩ := id w
  refine wr_vret rfl rfl ?_
  exact ⟨rfl, w, f⟩
theorem wp_tbegin {d : Nat} (w : isT h t m) : am_c X (d + 1) 24 [.ref t] h (fun r h' => r = none ∧ isT h' t (Tm.mk m.kd m.fi m.se m.ta m.en m.od (0) m.sz) ∧ frI [(t, t + 5)] h h') := by
  obtain ⟨c0, c1, c2, c3, c4, c5⟩ := id w
  have f : frI [(t, t + 5)] h h := frI_rf _ _
  refine am_c.of (Nat.le_of_ble_eq_true rfl) ?_
  show am_w _ _ _ (_, [_], _, _) _
  refine wr_aload_n rfl rfl rfl ?_
  refine wr_iconst rfl rfl ?_
  refine wr_putI (ci := 1) (f := 6) (fs' := [_, _, _, _, _, _, _, _]) rfl rfl rfl (by assumption) rfl rfl rfl (fun h1 e1 => ?_)
  have f : frI _ h h1 := frI_tr f (by rw [e1]; exact frI_set (by omega))
  have w := e1 ▸ w.s0 (Tm.mk m.kd m.fi m.se m.ta m.en m.od (0) m.sz) ⟨rfl, rfl, rfl, rfl, rfl⟩
  clear e1
  obtain ⟨c0, c1, c2, c3, c4, c5⟩ := id w
  refine wr_vret rfl rfl ?_
  exact ⟨rfl, w, f⟩
theorem wp_tfull {d : Nat} (w : isT h t m) (hs : m.sz ≤ 1000) : am_c X (d + 1) 20 [.ref t] h (fun r h' => r = some (.int (iI (b2 (6 ≤ m.sz)))) ∧ h' = h) := by
  obtain ⟨c0, c1, c2, c3, c4, c5⟩ := id w
  refine am_c.of (Nat.le_of_ble_eq_true rfl) ?_
  show am_w _ _ _ (_, [_], _, _) _
  refine wr_aload_n rfl rfl rfl ?_
  refine wr_get (ci := 1) (f := 7) rfl rfl rfl (by assumption) rfl ?_
  refine wr_bipush rfl rfl (by decide) ?_
  refine wr_icmp_lt rfl rfl rfl (by omega) (by omega) (fun c6 => ?_) (fun c6 => ?_)
  ·
    refine wr_iconst rfl rfl ?_
    refine wr_zret rfl rfl (by decide) ?_
    refine ⟨?_, rfl⟩
    first | rw [b2_t (by omega)] | rw [b2_f (by omega)]
  ·
    refine wr_iconst rfl rfl ?_
    refine wr_goto rfl rfl ?_
    refine wr_zret rfl rfl (by decide) ?_
    refine ⟨?_, rfl⟩
    first | rw [b2_t (by omega)] | rw [b2_f (by omega)]
theorem wp_tall {d : Nat} (w : isT h t m) (hs : m.st ≤ 1000) : am_c X (d + 1) 37 [.ref t] h (fun r h' => r = some (.int (iI (b2 (12 ≤ m.st)))) ∧ h' = h) := by
  obtain ⟨c0, c1, c2, c3, c4, c5⟩ := id w
  refine am_c.of (Nat.le_of_ble_eq_true rfl) ?_
  show am_w _ _ _ (_, [_], _, _) _
  refine wr_aload_n rfl rfl rfl ?_
  refine wr_get (ci := 1) (f := 6) rfl rfl rfl (by assumption) rfl ?_
  refine wr_bipush rfl rfl (by decide) ?_
  refine wr_icmp_lt rfl rfl rfl (by omega) (by omega) (fun c6 => ?_) (fun c6 => ?_)
  ·
    refine wr_iconst rfl rfl ?_
    refine wr_zret rfl rfl (by decide) ?_
    refine ⟨?_, rfl⟩
    first | rw [b2_t (by omega)] | rw [b2_f (by omega)]
  ·
    refine wr_iconst rfl rfl ?_
    refine wr_goto rfl rfl ?_
    refine wr_zret rfl rfl (by decide) ?_
    refine ⟨?_, rfl⟩
    first | rw [b2_t (by omega)] | rw [b2_f (by omega)]
theorem wp_tfinish {d : Nat} (w : isT h t m) (hs : m.sz < 6) : am_c X (d + 1) 34 [.ref t] h (fun r h' => r = none ∧ isT h' t (Tm.mk m.kd m.fi m.se m.ta (updI m.en m.sz m.od) m.od m.st (m.sz + 1)) ∧ frI [(t, t + 5)] h h') := by
  obtain ⟨c0, c1, c2, c3, c4, c5⟩ := id w
  have f : frI [(t, t + 5)] h h := frI_rf _ _
  refine am_c.of (Nat.le_of_ble_eq_true rfl) ?_
  show am_w _ _ _ (_, [_], _, _) _
  refine wr_aload_n rfl rfl rfl ?_
  refine wr_get (ci := 1) (f := 7) rfl rfl rfl (by assumption) rfl ?_
  refine wr_aload_n rfl rfl rfl ?_
  refine wr_get (ci := 1) (f := 4) rfl rfl rfl (by assumption) rfl ?_
  refine wr_alen rfl rfl (by assumption) (by decide) ?_
  refine wr_icmp_ge rfl rfl rfl (by omega) (by omega) (fun c9 => ?_) (fun c9 => ?_)
  ·
    refine wr_vret rfl rfl ?_
    first | (exfalso; omega) | exact ⟨rfl, w, f⟩
  ·
    refine wr_aload_n rfl rfl rfl ?_
    refine wr_get (ci := 1) (f := 4) rfl rfl rfl (by assumption) rfl ?_
    refine wr_aload_n rfl rfl rfl ?_
    refine wr_get (ci := 1) (f := 7) rfl rfl rfl (by assumption) rfl ?_
    refine wr_aload_n rfl rfl rfl ?_
    refine wr_get (ci := 1) (f := 5) rfl rfl rfl (by assumption) rfl ?_
    refine wr_iast rfl rfl (by assumption) (by omega) (by omega) (fun h1 e1 => ?_)
    have f : frI _ h h1 := frI_tr f (by rw [e1]; exact frI_set (by omega))
    have w := e1 ▸ w.s5 (Tm.mk m.kd m.fi m.se m.ta (updI m.en m.sz m.od) m.od m.st m.sz) ⟨rfl, rfl, rfl, rfl, rfl, rfl, rfl⟩
    clear e1
    obtain ⟨c0, c1, c2, c3, c4, c5⟩ := id w
    refine wr_aload_n rfl rfl rfl ?_
    refine wr_dup rfl rfl ?_
    refine wr_get (ci := 1) (f := 7) rfl rfl rfl (by assumption) rfl ?_
    refine wr_iconst rfl rfl ?_
    refine wr_iadd rfl rfl ?_
    refine wr_putI (ci := 1) (f := 7) (fs' := [_, _, _, _, _, _, _, _]) rfl rfl rfl (by assumption) rfl rfl rfl (fun h1 e1 => ?_)
    have f : frI _ h h1 := frI_tr f (by rw [e1]; exact frI_set (by omega))
    have w := e1 ▸ w.s0 (Tm.mk m.kd m.fi m.se m.ta (updI m.en m.sz m.od) m.od m.st (m.sz + 1)) ⟨rfl, rfl, rfl, rfl, rfl⟩
    clear e1
    obtain ⟨c0, c1, c2, c3, c4, c5⟩ := id w
    refine wr_vret rfl rfl ?_
    first | (exfalso; omega) | exact ⟨rfl, w, f⟩
theorem wp_tadd {d : Nat} {k a b : Int} (w : isT h t m) (hs : m.od < 144) : am_c X (d + 1) 32 [.ref t, .int (iI k), .int (iI a), .int (iI b)] h (fun r h' => r = some (.int (iI m.od)) ∧ isT h' t (Tm.mk (updI m.kd m.od k) (updI m.fi m.od a) (updI m.se m.od b) m.ta m.en (m.od + 1) m.st m.sz) ∧ frI [(t, t + 5)] h h') := by
  obtain ⟨c0, c1, c2, c3, c4, c5⟩ := id w
  have f : frI [(t, t + 5)] h h := frI_rf _ _
  refine am_c.of (Nat.le_of_ble_eq_true rfl) ?_
  show am_w _ _ _ (_, [_, _, _, _, _], _, _) _
  refine wr_aload_n rfl rfl rfl ?_
  refine wr_get (ci := 1) (f := 5) rfl rfl rfl (by assumption) rfl ?_
  refine wr_istore (ls' := [_, _, _, _, _]) rfl rfl (Nat.le_of_ble_eq_true rfl) rfl ?_
  refine wr_iload rfl rfl rfl ?_
  refine wr_aload_n rfl rfl rfl ?_
  refine wr_get (ci := 1) (f := 0) rfl rfl rfl (by assumption) rfl ?_
  refine wr_alen rfl rfl (by assumption) (by decide) ?_
  refine wr_icmp_ge rfl rfl rfl (by omega) (by omega) (fun c13 => ?_) (fun c13 => ?_)
  ·
    refine wr_iload rfl rfl rfl ?_
    refine wr_iret rfl rfl ?_
    first | (exfalso; omega) | exact ⟨rfl, w, f⟩
  ·
    refine wr_aload_n rfl rfl rfl ?_
    refine wr_get (ci := 1) (f := 0) rfl rfl rfl (by assumption) rfl ?_
    refine wr_iload rfl rfl rfl ?_
    refine wr_iload_n rfl rfl rfl ?_
    refine wr_iast rfl rfl (by assumption) (by omega) (by omega) (fun h1 e1 => ?_)
    have f : frI _ h h1 := frI_tr f (by rw [e1]; exact frI_set (by omega))
    have w := e1 ▸ w.s1 (Tm.mk (updI m.kd m.od k) m.fi m.se m.ta m.en m.od m.st m.sz) ⟨rfl, rfl, rfl, rfl, rfl, rfl, rfl⟩
    clear e1
    obtain ⟨c0, c1, c2, c3, c4, c5⟩ := id w
    refine wr_aload_n rfl rfl rfl ?_
    refine wr_get (ci := 1) (f := 1) rfl rfl rfl (by assumption) rfl ?_
    refine wr_iload rfl rfl rfl ?_
    refine wr_iload_n rfl rfl rfl ?_
    refine wr_iast rfl rfl (by assumption) (by omega) (by omega) (fun h1 e1 => ?_)
    have f : frI _ h h1 := frI_tr f (by rw [e1]; exact frI_set (by omega))
    have w := e1 ▸ w.s2 (Tm.mk (updI m.kd m.od k) (updI m.fi m.od a) m.se m.ta m.en m.od m.st m.sz) ⟨rfl, rfl, rfl, rfl, rfl, rfl, rfl⟩
    clear e1
    obtain ⟨c0, c1, c2, c3, c4, c5⟩ := id w
    refine wr_aload_n rfl rfl rfl ?_
    refine wr_get (ci := 1) (f := 2) rfl rfl rfl (by assumption) rfl ?_
    refine wr_iload rfl rfl rfl ?_
    refine wr_iload_n rfl rfl rfl ?_
    refine wr_iast rfl rfl (by assumption) (by omega) (by omega) (fun h1 e1 => ?_)
    have f : frI _ h h1 := frI_tr f (by rw [e1]; exact frI_set (by omega))
    have w := e1 ▸ w.s3 (Tm.mk (updI m.kd m.od k) (updI m.fi m.od a) (updI m.se m.od b) m.ta m.en m.od m.st m.sz) ⟨rfl, rfl, rfl, rfl, rfl, rfl, rfl⟩
    clear e1
    obtain ⟨c0, c1, c2, c3, c4, c5⟩ := id w
    refine wr_aload_n rfl rfl rfl ?_
    refine wr_dup rfl rfl ?_
    refine wr_get (ci := 1) (f := 5) rfl rfl rfl (by assumption) rfl ?_
    refine wr_iconst rfl rfl ?_
    refine wr_iadd rfl rfl ?_
    refine wr_putI (ci := 1) (f := 5) (fs' := [_, _, _, _, _, _, _, _]) rfl rfl rfl (by assumption) rfl rfl rfl (fun h1 e1 => ?_)
    have f : frI _ h h1 := frI_tr f (by rw [e1]; exact frI_set (by omega))
    have w := e1 ▸ w.s0 (Tm.mk (updI m.kd m.od k) (updI m.fi m.od a) (updI m.se m.od b) m.ta m.en (m.od + 1) m.st m.sz) ⟨rfl, rfl, rfl, rfl, rfl⟩
    clear e1
    obtain ⟨c0, c1, c2, c3, c4, c5⟩ := id w
    refine wr_iload rfl rfl rfl ?_
    refine wr_iret rfl rfl ?_
    first | (exfalso; omega) | exact ⟨rfl, w, f⟩
theorem wp_tstep {d : Nat} {k a b : Int} (w : isT h t m) (hs : m.od < 144) : am_c X (d + 2) 42 [.ref t, .int (iI k), .int (iI a), .int (iI b)] h (fun r h' => r = some (.int (iI m.od)) ∧ isT h' t (Tm.mk (updI m.kd m.od k) (updI m.fi m.od a) (updI m.se m.od b) m.ta m.en (m.od + 1) (m.st + 1) m.sz) ∧ frI [(t, t + 5)] h h') := by
  obtain ⟨c0, c1, c2, c3, c4, c5⟩ := id w
  have f : frI [(t, t + 5)] h h := frI_rf _ _
  refine am_c.of (Nat.le_of_ble_eq_true rfl) ?_
  show am_w _ _ _ (_, [_, _, _, _], _, _) _
  refine wr_aload_n rfl rfl rfl ?_
  refine wr_dup rfl rfl ?_
  refine wr_get (ci := 1) (f := 6) rfl rfl rfl (by assumption) rfl ?_
  refine wr_iconst rfl rfl ?_
  refine wr_iadd rfl rfl ?_
  refine wr_putI (ci := 1) (f := 6) (fs' := [_, _, _, _, _, _, _, _]) rfl rfl rfl (by assumption) rfl rfl rfl (fun h1 e1 => ?_)
  have f : frI _ h h1 := frI_tr f (by rw [e1]; exact frI_set (by omega))
  have w := e1 ▸ w.s0 (Tm.mk m.kd m.fi m.se m.ta m.en m.od (m.st + 1) m.sz) ⟨rfl, rfl, rfl, rfl, rfl⟩
  clear e1
  obtain ⟨c0, c1, c2, c3, c4, c5⟩ := id w
  refine wr_aload_n rfl rfl rfl ?_
  refine wr_iload_n rfl rfl rfl ?_
  refine wr_iload_n rfl rfl rfl ?_
  refine wr_iload_n rfl rfl rfl ?_
  refine wr_cv3 (k' := 32) (ci := 1) rfl rfl rfl rfl (by assumption) rfl rfl (wp_tadd w hs) (fun r h2 q => ?_)
  obtain ⟨rfl, w2, f2⟩ := q
  dsimp only [Option.toList, List.cons_append, List.nil_append]
  refine wr_iret rfl rfl ?_
  exact ⟨rfl, w2, frI_tr f f2⟩
theorem wp_taim {d : Nat} {j : Nat} (w : isT h t m) (hj : j < 144) : am_c X (d + 1) 29 [.ref t, .int (iI j)] h (fun r h' => r = none ∧ isT h' t (Tm.mk m.kd m.fi m.se (updI m.ta j m.od) m.en m.od m.st m.sz) ∧ frI [(t, t + 5)] h h') := by
  obtain ⟨c0, c1, c2, c3, c4, c5⟩ := id w
  have f : frI [(t, t + 5)] h h := frI_rf _ _
  refine am_c.of (Nat.le_of_ble_eq_true rfl) ?_
  show am_w _ _ _ (_, [_, _], _, _) _
  refine wr_iload_n rfl rfl rfl ?_
  refine wr_if_lt rfl rfl rfl (by omega) (fun c1 => ?_) (fun c1 => ?_)
  ·
    refine wr_vret rfl rfl ?_
    first | (exfalso; omega) | exact ⟨rfl, w, f⟩
  ·
    refine wr_iload_n rfl rfl rfl ?_
    refine wr_aload_n rfl rfl rfl ?_
    refine wr_get (ci := 1) (f := 3) rfl rfl rfl (by assumption) rfl ?_
    refine wr_alen rfl rfl (by assumption) (by decide) ?_
    refine wr_icmp_ge rfl rfl rfl (by omega) (by omega) (fun c10 => ?_) (fun c10 => ?_)
    ·
      refine wr_vret rfl rfl ?_
      first | (exfalso; omega) | exact ⟨rfl, w, f⟩
    ·
      refine wr_aload_n rfl rfl rfl ?_
      refine wr_get (ci := 1) (f := 3) rfl rfl rfl (by assumption) rfl ?_
      refine wr_iload_n rfl rfl rfl ?_
      refine wr_aload_n rfl rfl rfl ?_
      refine wr_get (ci := 1) (f := 5) rfl rfl rfl (by assumption) rfl ?_
      refine wr_iast rfl rfl (by assumption) (by omega) (by omega) (fun h1 e1 => ?_)
      have f : frI _ h h1 := frI_tr f (by rw [e1]; exact frI_set (by omega))
      have w := e1 ▸ w.s4 (Tm.mk m.kd m.fi m.se (updI m.ta j m.od) m.en m.od m.st m.sz) ⟨rfl, rfl, rfl, rfl, rfl, rfl, rfl⟩
      clear e1
      obtain ⟨c0, c1, c2, c3, c4, c5⟩ := id w
      refine wr_vret rfl rfl ?_
      first | (exfalso; omega) | exact ⟨rfl, w, f⟩
theorem wp_tinside {d : Nat} {i : Int} (w : isT h t m) (hI : -2147483648 ≤ i ∧ i ≤ 2147483647) : am_c X (d + 1) 27 [.ref t, .int (iI i)] h (fun r h' => r = some (.int (iI (max 0 (min i 143)))) ∧ h' = h) := by
  obtain ⟨c0, c1, c2, c3, c4, c5⟩ := id w
  refine am_c.of (Nat.le_of_ble_eq_true rfl) ?_
  show am_w _ _ _ (_, [_, _], _, _) _
  refine wr_iconst rfl rfl ?_
  refine wr_iload_n rfl rfl rfl ?_
  refine wr_aload_n rfl rfl rfl ?_
  refine wr_get (ci := 1) (f := 0) rfl rfl rfl (by assumption) rfl ?_
  refine wr_alen rfl rfl (by assumption) (by decide) ?_
  refine wr_iconst rfl rfl ?_
  refine wr_isub rfl rfl ?_
  refine wr_mmin rfl rfl rfl rfl (by omega) (by omega) ?_
  refine wr_mmax rfl rfl rfl rfl (by omega) (by omega) ?_
  refine wr_iret rfl rfl ?_
  exact ⟨rfl, rfl⟩
theorem wp_tkind {d i : Nat} (w : isT h t m) (hI : i < 144) : am_c X (d + 2) 26 [.ref t, .int (iI i)] h (fun r h' => r = some (.int (iI (m.kd i))) ∧ h' = h) := by
  obtain ⟨c0, c1, c2, c3, c4, c5⟩ := id w
  have ei : max 0 (min (i : Int) 143) = (i : Int) := by omega
  refine am_c.of (Nat.le_of_ble_eq_true rfl) ?_
  show am_w _ _ _ (_, [_, _], _, _) _
  refine wr_aload_n rfl rfl rfl ?_
  refine wr_get (ci := 1) (f := 0) rfl rfl rfl (by assumption) rfl ?_
  refine wr_aload_n rfl rfl rfl ?_
  refine wr_iload_n rfl rfl rfl ?_
  refine wr_cv1 (k' := 27) (ci := 1) rfl rfl rfl rfl (by assumption) rfl rfl (wp_tinside w (by omega)) (fun r h2 q => ?_)
  obtain ⟨rfl, hh⟩ := q
  rw [hh]
  clear hh h2
  dsimp only [Option.toList, List.cons_append, List.nil_append]
  rw [ei]
  refine wr_iald rfl rfl (by assumption) (by omega) (by omega) ?_
  refine wr_iret rfl rfl ?_
  exact ⟨by rw [show ((i : Int)).toNat = i by omega], rfl⟩
theorem wp_tfirst {d i : Nat} (w : isT h t m) (hI : i < 144) : am_c X (d + 2) 62 [.ref t, .int (iI i)] h (fun r h' => r = some (.int (iI (m.fi i))) ∧ h' = h) := by
  obtain ⟨c0, c1, c2, c3, c4, c5⟩ := id w
  have ei : max 0 (min (i : Int) 143) = (i : Int) := by omega
  refine am_c.of (Nat.le_of_ble_eq_true rfl) ?_
  show am_w _ _ _ (_, [_, _], _, _) _
  refine wr_aload_n rfl rfl rfl ?_
  refine wr_get (ci := 1) (f := 1) rfl rfl rfl (by assumption) rfl ?_
  refine wr_aload_n rfl rfl rfl ?_
  refine wr_iload_n rfl rfl rfl ?_
  refine wr_cv1 (k' := 27) (ci := 1) rfl rfl rfl rfl (by assumption) rfl rfl (wp_tinside w (by omega)) (fun r h2 q => ?_)
  obtain ⟨rfl, hh⟩ := q
  rw [hh]
  clear hh h2
  dsimp only [Option.toList, List.cons_append, List.nil_append]
  rw [ei]
  refine wr_iald rfl rfl (by assumption) (by omega) (by omega) ?_
  refine wr_iret rfl rfl ?_
  exact ⟨by rw [show ((i : Int)).toNat = i by omega], rfl⟩
theorem wp_tsecond {d i : Nat} (w : isT h t m) (hI : i < 144) : am_c X (d + 2) 63 [.ref t, .int (iI i)] h (fun r h' => r = some (.int (iI (m.se i))) ∧ h' = h) := by
  obtain ⟨c0, c1, c2, c3, c4, c5⟩ := id w
  have ei : max 0 (min (i : Int) 143) = (i : Int) := by omega
  refine am_c.of (Nat.le_of_ble_eq_true rfl) ?_
  show am_w _ _ _ (_, [_, _], _, _) _
  refine wr_aload_n rfl rfl rfl ?_
  refine wr_get (ci := 1) (f := 2) rfl rfl rfl (by assumption) rfl ?_
  refine wr_aload_n rfl rfl rfl ?_
  refine wr_iload_n rfl rfl rfl ?_
  refine wr_cv1 (k' := 27) (ci := 1) rfl rfl rfl rfl (by assumption) rfl rfl (wp_tinside w (by omega)) (fun r h2 q => ?_)
  obtain ⟨rfl, hh⟩ := q
  rw [hh]
  clear hh h2
  dsimp only [Option.toList, List.cons_append, List.nil_append]
  rw [ei]
  refine wr_iald rfl rfl (by assumption) (by omega) (by omega) ?_
  refine wr_iret rfl rfl ?_
  exact ⟨by rw [show ((i : Int)).toNat = i by omega], rfl⟩
theorem wp_ttarget {d i : Nat} (w : isT h t m) (hI : i < 144) : am_c X (d + 2) 64 [.ref t, .int (iI i)] h (fun r h' => r = some (.int (iI (m.ta i))) ∧ h' = h) := by
  obtain ⟨c0, c1, c2, c3, c4, c5⟩ := id w
  have ei : max 0 (min (i : Int) 143) = (i : Int) := by omega
  refine am_c.of (Nat.le_of_ble_eq_true rfl) ?_
  show am_w _ _ _ (_, [_, _], _, _) _
  refine wr_aload_n rfl rfl rfl ?_
  refine wr_get (ci := 1) (f := 3) rfl rfl rfl (by assumption) rfl ?_
  refine wr_aload_n rfl rfl rfl ?_
  refine wr_iload_n rfl rfl rfl ?_
  refine wr_cv1 (k' := 27) (ci := 1) rfl rfl rfl rfl (by assumption) rfl rfl (wp_tinside w (by omega)) (fun r h2 q => ?_)
  obtain ⟨rfl, hh⟩ := q
  rw [hh]
  clear hh h2
  dsimp only [Option.toList, List.cons_append, List.nil_append]
  rw [ei]
  refine wr_iald rfl rfl (by assumption) (by omega) (by omega) ?_
  refine wr_iret rfl rfl ?_
  exact ⟨by rw [show ((i : Int)).toNat = i by omega], rfl⟩
theorem wp_tmark {d i : Nat} (w : isT h t m) (hI : i < 144) : am_c X (d + 2) 31 [.ref t, .int (iI i)] h (fun r h' => r = none ∧ isT h' t (Tm.mk m.kd m.fi (updI m.se i 1) m.ta m.en m.od m.st m.sz) ∧ frI [(t, t + 5)] h h') := by
  obtain ⟨c0, c1, c2, c3, c4, c5⟩ := id w
  have f : frI [(t, t + 5)] h h := frI_rf _ _
  have ei : max 0 (min (i : Int) 143) = (i : Int) := by omega
  refine am_c.of (Nat.le_of_ble_eq_true rfl) ?_
  show am_w _ _ _ (_, [_, _], _, _) _
  refine wr_aload_n rfl rfl rfl ?_
  refine wr_get (ci := 1) (f := 2) rfl rfl rfl (by assumption) rfl ?_
  refine wr_aload_n rfl rfl rfl ?_
  refine wr_iload_n rfl rfl rfl ?_
  refine wr_cv1 (k' := 27) (ci := 1) rfl rfl rfl rfl (by assumption) rfl rfl (wp_tinside w (by omega)) (fun r h2 q => ?_)
  obtain ⟨rfl, hh⟩ := q
  rw [hh]
  clear hh h2
  dsimp only [Option.toList, List.cons_append, List.nil_append]
  rw [ei]
  refine wr_iconst rfl rfl ?_
  refine wr_iast rfl rfl (by assumption) (by omega) (by omega) (fun h1 e1 => ?_)
  have f : frI _ h h1 := frI_tr f (by rw [e1]; exact frI_set (by omega))
  have w := e1 ▸ w.s3 (Tm.mk m.kd m.fi (updI m.se i 1) m.ta m.en m.od m.st m.sz) ⟨rfl, rfl, rfl, rfl, rfl, rfl, rfl⟩
  clear e1
  obtain ⟨c0, c1, c2, c3, c4, c5⟩ := id w
  refine wr_vret rfl rfl ?_
  exact ⟨rfl, w, f⟩
theorem wp_tstart {d i : Nat} (w : isT h t m) (hI : i < 6) : am_c X (d + 1) 60 [.ref t, .int (iI i)] h (fun r h' => r = some (.int (iI (if i = 0 then 0 else m.en (i - 1)))) ∧ h' = h) := by
  obtain ⟨c0, c1, c2, c3, c4, c5⟩ := id w
  have e : 0 < i → ((i : Int) - 1).toNat = i - 1 := by omega
  refine am_c.of (Nat.le_of_ble_eq_true rfl) ?_
  show am_w _ _ _ (_, [_, _], _, _) _
  refine wr_iload_n rfl rfl rfl ?_
  refine wr_if_le rfl rfl rfl (by omega) (fun c1 => ?_) (fun c1 => ?_)
  ·
    refine wr_iconst rfl rfl ?_
    refine wr_iret rfl rfl ?_
    first | (exfalso; omega) | (refine ⟨?_, rfl⟩; rw [if_neg (by omega)]) | (refine ⟨?_, rfl⟩; rw [if_pos (by omega)])
  ·
    refine wr_iload_n rfl rfl rfl ?_
    refine wr_aload_n rfl rfl rfl ?_
    refine wr_get (ci := 1) (f := 4) rfl rfl rfl (by assumption) rfl ?_
    refine wr_alen rfl rfl (by assumption) (by decide) ?_
    refine wr_icmp_gt rfl rfl rfl (by omega) (by omega) (fun c10 => ?_) (fun c10 => ?_)
    ·
      refine wr_iconst rfl rfl ?_
      refine wr_iret rfl rfl ?_
      first | (exfalso; omega) | (refine ⟨?_, rfl⟩; rw [if_neg (by omega)]) | (refine ⟨?_, rfl⟩; rw [if_pos (by omega)])
    ·
      refine wr_aload_n rfl rfl rfl ?_
      refine wr_get (ci := 1) (f := 4) rfl rfl rfl (by assumption) rfl ?_
      refine wr_iload_n rfl rfl rfl ?_
      refine wr_iconst rfl rfl ?_
      refine wr_isub rfl rfl ?_
      refine wr_iald rfl rfl (by assumption) (by omega) (by omega) ?_
      rw [e (by omega)]
      refine wr_goto rfl rfl ?_
      refine wr_iret rfl rfl ?_
      first | (exfalso; omega) | (refine ⟨?_, rfl⟩; rw [if_neg (by omega)]) | (refine ⟨?_, rfl⟩; rw [if_pos (by omega)])
theorem wp_tend {d i : Nat} (w : isT h t m) (hI : i < 6) : am_c X (d + 1) 61 [.ref t, .int (iI i)] h (fun r h' => r = some (.int (iI (m.en i))) ∧ h' = h) := by
  obtain ⟨c0, c1, c2, c3, c4, c5⟩ := id w
  refine am_c.of (Nat.le_of_ble_eq_true rfl) ?_
  show am_w _ _ _ (_, [_, _], _, _) _
  refine wr_iload_n rfl rfl rfl ?_
  refine wr_if_lt rfl rfl rfl (by omega) (fun c1 => ?_) (fun c1 => ?_)
  ·
    refine wr_iconst rfl rfl ?_
    refine wr_iret rfl rfl ?_
    first | (exfalso; omega) | exact ⟨rfl, rfl⟩
  ·
    refine wr_iload_n rfl rfl rfl ?_
    refine wr_aload_n rfl rfl rfl ?_
    refine wr_get (ci := 1) (f := 4) rfl rfl rfl (by assumption) rfl ?_
    refine wr_alen rfl rfl (by assumption) (by decide) ?_
    refine wr_icmp_ge rfl rfl rfl (by omega) (by omega) (fun c10 => ?_) (fun c10 => ?_)
    ·
      refine wr_iconst rfl rfl ?_
      refine wr_iret rfl rfl ?_
      first | (exfalso; omega) | exact ⟨rfl, rfl⟩
    ·
      refine wr_aload_n rfl rfl rfl ?_
      refine wr_get (ci := 1) (f := 4) rfl rfl rfl (by assumption) rfl ?_
      refine wr_iload_n rfl rfl rfl ?_
      refine wr_iald rfl rfl (by assumption) (by omega) (by omega) ?_
      refine wr_goto rfl rfl ?_
      refine wr_iret rfl rfl ?_
      first | (exfalso; omega) | exact ⟨rfl, rfl⟩
end TMP
