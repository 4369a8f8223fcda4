/-! THE REFERENCE RUNS -/
section RTG
variable {X : Nat × (Nat → Int32)} {h0 h h' : am_H} {o o' : Nat → Int} {A A' : Nat → Nat → Int} {F F' : Nat → Rat} {z z' : PS}
theorem wStep_0 {kd fi se ta : Nat → Int} {n : Nat} {off lev : Nat → Int} {sg bank : Int} (w : WS) (k : Nat) : (wStep kd fi se ta n off lev sg bank w k).1.s.hi 0 = w.s.hi 0 ∧ (wStep kd fi se ta n off lev sg bank w k).1.s.cd 0 = w.s.cd 0 := by
  unfold wStep
  split
  · exact ⟨rfl, rfl⟩
  split
  · split
    · exact ⟨rfl, rfl⟩
    · exact ⟨rfl, rfl⟩
  split
  · unfold wEnd
    exact ⟨rfl, rfl⟩
  split
  · unfold wEnd
    exact ⟨rfl, rfl⟩
  · unfold wStride Sq.add
    exact ⟨rfl, rfl⟩
theorem wLoop_0 {kd fi se ta : Nat → Int} {n : Nat} {off lev : Nat → Int} {sg bank en : Int} : ∀ (m : Nat) (w : WS) (k : Nat), (wLoop kd fi se ta n off lev sg bank en m w k).s.hi 0 = w.s.hi 0 ∧ (wLoop kd fi se ta n off lev sg bank en m w k).s.cd 0 = w.s.cd 0
  | 0, w, k => ⟨rfl, rfl⟩
  | m + 1, w, k => by
    rw [wLoop]
    split
    · have a := wLoop_0 (kd := kd) (fi := fi) (se := se) (ta := ta) (n := n) (off := off) (lev := lev) (sg := sg) (bank := bank) (en := en) m (wStep kd fi se ta n off lev sg bank w k).1 (wStep kd fi se ta n off lev sg bank w k).2
      have b := wStep_0 (kd := kd) (fi := fi) (se := se) (ta := ta) (n := n) (off := off) (lev := lev) (sg := sg) (bank := bank) w k
      exact ⟨a.1.trans b.1, a.2.trans b.2⟩
    · exact ⟨rfl, rfl⟩
theorem wkL_0 (z : PS) (t : Nat) : (wkL z t).s.hi 0 = z.al * 1000 ∧ (wkL z t).s.cd 0 = 0 := by
  have a := wLoop_0 (kd := z.M.kd) (fi := z.M.fi) (se := z.M.se) (ta := z.M.ta) (n := z.gn) (off := z.go) (lev := z.gl) (sg := -1) (bank := z.ab) (en := z.M.en t) 24 (WS.mk (z.L.begin (z.al * 1000)) z.eL z.fL 0 z.tk) (stOf z.M.en t)
  refine ⟨a.1.trans ?_, a.2.trans ?_⟩
  · show updI z.L.hi 0 (z.al * 1000) 0 = _
    exact updI_s _ _ _
  · show updI z.L.cd 0 0 0 = _
    exact updI_s _ _ _
theorem wkR_0 (z : PS) (t : Nat) : (wkR z t).s.hi 0 = z.al * 1000 ∧ (wkR z t).s.cd 0 = 0 := by
  have a := wLoop_0 (kd := z.M.kd) (fi := z.M.fi) (se := z.M.se) (ta := z.M.ta) (n := z.gn) (off := z.go) (lev := z.gl) (sg := 1) (bank := z.ab) (en := z.M.en t) 24 (WS.mk (z.R.begin (z.al * 1000)) z.eR z.fR (wkL z t).ch (wkL z t).tk) (stOf z.M.en t)
  refine ⟨a.1.trans ?_, a.2.trans ?_⟩
  · show updI z.R.hi 0 (z.al * 1000) 0 = _
    exact updI_s _ _ _
  · show updI z.R.cd 0 0 0 = _
    exact updI_s _ _ _
theorem rr_run1 {d t : Nat} (w : FW h0 h o F A) (r : RS z o F A) (V : VS z) (ht : t < z.M.sz) : am_w X (d + 10) 169 (14, [.ref 164, .int (iI t)], [], h) (fun r h' => r = some (.int (iI (cornN (runP z t)))) ∧ RR h' (runP z t) ∧ frI [(164, 181)] h0 h') := by
  have cO := w.cO
  have g := V.tm
  have k6 := g.k6
  have mo := g.mono t ht
  have od := g.od144
  have ax := V.ax
  have ks := V.ksb
  obtain ⟨⟨H1, n1⟩, H2, n2, c12⟩ := walk_ok V ht
  have NL := H1.ok.1
  have NR := H2.ok.1
  obtain ⟨m1, m2, m3⟩ := r.m
  obtain ⟨x1, x2, x3, x4⟩ := r.x
  have eb0 := m2 t (by omega)
  have eb1 : A 173 (t + 1) = z.M.en t := by
    rw [m2 (t + 1) (by omega)]
    unfold stOf
    rw [if_neg (by omega), show t + 1 - 1 = t from rfl]
    omega
  have rows : ∀ j : Nat, (j : Int) < z.M.en t → rowE (A 169 j) (A 170 j) (A 171 j) (A 172 j) (z.M.kd j) (z.M.fi j) (z.M.se j) (z.M.ta j) := fun j hj => m3 j (by omega)
  have cA := w.arr (p := 178) (n := 26) (by decide) (by decide)
  refine wr_aload_n rfl rfl rfl ?_
  refine wr_iconst rfl rfl ?_
  refine wr_putI (ci := 12) (f := 27) (fs' := [_, _, _, _, _, _, _, _, _, _, _, _, _, _, _, _, _, _, _, _, _, _, _, _, _, _, _, _, _, _, _, _, _, _, _, _, _, _, _]) rfl rfl rfl (by assumption) rfl rfl rfl (fun h1 e1 => ?_)
  have w : FW h0 h1 (updI o 27 (0)) F A := by rw [e1]; exact w.setO (updI o 27 (0))
  clear e1
  obtain ⟨o2, w, s2, q2⟩ := fo_ex w
  have cO := w.cO
  refine wr_aload_n rfl rfl rfl ?_
  refine wr_iconst rfl rfl ?_
  refine wr_putI (ci := 12) (f := 25) (fs' := [_, _, _, _, _, _, _, _, _, _, _, _, _, _, _, _, _, _, _, _, _, _, _, _, _, _, _, _, _, _, _, _, _, _, _, _, _, _, _]) rfl rfl rfl (by assumption) rfl rfl rfl (fun h1 e1 => ?_)
  have w : FW h0 h1 (updI o2 25 (0)) F A := by rw [e1]; exact w.setO (updI o2 25 (0))
  clear e1
  obtain ⟨o3, w, s3, q3⟩ := fo_ex w
  have cO := w.cO
  have cA := w.arr (p := 178) (n := 26) (by decide) (by decide)
  refine wr_aload_n rfl rfl rfl ?_
  refine wr_get (ci := 12) (f := 24) rfl rfl rfl (by assumption) rfl ?_
  refine wr_iconst rfl rfl ?_
  refine wr_iconst rfl rfl ?_
  refine wr_iast rfl rfl (by assumption) (by omega) (by omega) (fun h1 e1 => ?_)
  rw [(show ((0 : Int)).toNat = 0 from rfl)] at e1
  have w := e1 ▸ (w.setA (p := 178) (n := 26) (by decide) (by decide) (updI (A 178) (0) (0))).2
  clear e1
  obtain ⟨A2, w, sA, nA⟩ := fa_ex w
  have cO := w.cO
  refine wr_aload_n rfl rfl rfl ?_
  refine wr_iconst rfl rfl ?_
  refine wr_lconst (z := 0) rfl rfl rfl ?_
  refine wr_lconst (z := 1) rfl rfl rfl ?_
  refine wr_cv3 (k' := 140) (ci := 12) rfl rfl rfl rfl (by assumption) rfl rfl (fw_set (f := 0) (u := 0) (v := 1) w (by decide) (by decide) (by decide) (by decide)) (fun r h2 q => ?_)
  obtain ⟨rfl, w⟩ := q
  obtain ⟨F2, w, t2, p2⟩ := ff_ex w
  rw [div1Q] at t2
  have cO := w.cO
  have e20 : o3 20 = z.al := by rw [q3 20 (by decide), q2 20 (by decide), x1]
  refine wr_aload_n rfl rfl rfl ?_
  refine wr_bipush rfl rfl (by decide) ?_
  refine wr_aload_n rfl rfl rfl ?_
  refine wr_get (ci := 12) (f := 20) rfl rfl rfl (by assumption) rfl ?_
  rw [e20]
  refine wr_i2l rfl rfl (by omega) ?_
  refine wr_lconst (z := 1) rfl rfl rfl ?_
  refine wr_cv3 (k' := 140) (ci := 12) rfl rfl rfl rfl (by assumption) rfl rfl (fw_set (f := 26) (u := z.al) (v := 1) w (by decide) (by omega) (by decide) (by decide)) (fun r h2 q => ?_)
  obtain ⟨rfl, w⟩ := q
  obtain ⟨F3, w, t3, p3⟩ := ff_ex w
  rw [div1Q] at t3
  have cO := w.cO
  have ob3 : ∀ j, j ≠ 25 → j ≠ 27 → o3 j = o j := fun j a b => by rw [q3 j a, q2 j b]
  have g3 : RG z.gn z.go z.gl o3 A2 := r.g.keep (ob3 _ (by decide) (by decide)) ⟨nA _ (by decide), nA _ (by decide)⟩
  refine wr_aload_n rfl rfl rfl ?_
  refine wr_iload_n rfl rfl rfl ?_
  refine wr_iconst rfl rfl ?_
  refine wr_cv2 (k' := 170) (ci := 12) rfl rfl rfl rfl (by assumption) rfl rfl (rr_walk (d := d + 2) (ax := 0) (st := stOf z.M.en t) (c0 := 0) (kd := z.M.kd) (fi := z.M.fi) (se := z.M.se) (ta := z.M.ta) (tk := z.tk) (bank := z.ab) (al := z.al) (en := z.M.en t) (q := z.L) (eo := z.eL) (el := z.fL) (n := z.gn) (off := z.go) (lev := z.gl) (sg := -1) w g3 V.gr (Or.inr rfl) ax.2 ax.1 (fun k hk => g.row k (by omega)) (fun k a b c => g.tar t k ht a b c) (g.cnt t ht) (by omega) (by omega) (by decide) (by decide) (by omega) e20 (by rw [ob3 21 (by decide) (by decide), x2]) s3 (by rw [q3 27 (by decide), s2]; rfl) (fun k hk => absurd hk (Nat.not_lt_zero _)) (by rw [nA 173 (by decide), eb0]) (by rw [nA 173 (by decide), eb1]) (fun j hj => by rw [nA 169 (by decide), nA 170 (by decide), nA 171 (by decide), nA 172 (by decide)]; exact rows j hj)) (fun r h2 q => ?_)
  obtain ⟨rfl, o4, F4, A4, w, R1, kp1, e179⟩ := q
  have R1 : RKW 0 (-1) (wkL z t) o4 F4 A4 := R1
  have e179 : A4 179 = updI (A2 179) 0 (wkL z t).s.e := e179
  have cO := w.cO
  obtain ⟨⟨⟨-, -⟩, -, l32, -⟩, ⟨l27, l180⟩, lc⟩ := R1
  refine wr_aload_n rfl rfl rfl ?_
  refine wr_cv0 (k' := 183) (ci := 12) rfl rfl rfl rfl (by assumption) rfl rfl (rr_turn (N := (wkL z t).s.N) w l32 NL) (fun r h2 q => ?_)
  obtain ⟨rfl, F5, A5, w, tn, a5, f5⟩ := q
  have cO := w.cO
  refine wr_aload_n rfl rfl rfl ?_
  refine wr_aload_n rfl rfl rfl ?_
  refine wr_get (ci := 12) (f := 32) rfl rfl rfl (by assumption) rfl ?_
  rw [l32]
  refine wr_putI (ci := 12) (f := 25) (fs' := [_, _, _, _, _, _, _, _, _, _, _, _, _, _, _, _, _, _, _, _, _, _, _, _, _, _, _, _, _, _, _, _, _, _, _, _, _, _, _]) rfl rfl rfl (by assumption) rfl rfl rfl (fun h1 e1 => ?_)
  have w : FW h0 h1 (updI o4 25 (((wkL z t).s.N : Int))) F5 A5 := by rw [e1]; exact w.setO (updI o4 25 (((wkL z t).s.N : Int)))
  clear e1
  obtain ⟨o5, w, s5, q5⟩ := fo_ex w
  have cO := w.cO
  have ob5 : ∀ j, j ≠ 25 → j ≠ 27 → (j < 29 ∨ 36 < j) → o5 j = o j := fun j a b c => by rw [q5 j a, kp1.1 j b c, ob3 j a b]
  have aa5 : ∀ j, j ≠ 178 → j ≠ 179 → j ≠ 180 → A5 j = A j := fun j a b c => by rw [a5 j a, kp1.2.1 j a b c, nA j a]
  have g5 : RG z.gn z.go z.gl o5 A5 := r.g.keep (ob5 _ (by decide) (by decide) (by decide)) ⟨aa5 _ (by decide) (by decide) (by decide), aa5 _ (by decide) (by decide) (by decide)⟩
  refine wr_aload_n rfl rfl rfl ?_
  refine wr_iload_n rfl rfl rfl ?_
  refine wr_iconst rfl rfl ?_
  refine wr_cv2 (k' := 170) (ci := 12) rfl rfl rfl rfl (by assumption) rfl rfl (rr_walk (d := d + 2) (ax := (wkL z t).s.N) (st := stOf z.M.en t) (c0 := (wkL z t).ch) (kd := z.M.kd) (fi := z.M.fi) (se := z.M.se) (ta := z.M.ta) (tk := (wkL z t).tk) (bank := z.ab) (al := z.al) (en := z.M.en t) (q := z.R) (eo := z.eR) (el := z.fR) (n := z.gn) (off := z.go) (lev := z.gl) (sg := 1) w g5 V.gr (Or.inl rfl) ax.2 ax.1 (fun k hk => g.row k (by omega)) (fun k a b c => g.tar t k ht a b c) (g.cnt t ht) (by omega) (by omega) NL (by omega) (by omega) (by rw [ob5 20 (by decide) (by decide) (by decide), x1]) (by rw [ob5 21 (by decide) (by decide) (by decide), x2]) s5 (by rw [q5 27 (by decide), l27]) (fun k hk => by rw [a5 180 (by decide)]; exact l180 k hk) (by rw [aa5 173 (by decide) (by decide) (by decide), eb0]) (by rw [aa5 173 (by decide) (by decide) (by decide), eb1]) (fun j hj => by rw [aa5 169 (by decide) (by decide) (by decide), aa5 170 (by decide) (by decide) (by decide), aa5 171 (by decide) (by decide) (by decide), aa5 172 (by decide) (by decide) (by decide)]; exact rows j hj)) (fun r h2 q => ?_)
  obtain ⟨rfl, o6, F6, A6, w, R2, kp2, e179'⟩ := q
  have R2 : RKW (wkL z t).s.N 1 (wkR z t) o6 F6 A6 := R2
  have e179' : A6 179 = updI (A5 179) 2 (wkR z t).s.e := e179'
  have cO := w.cO
  obtain ⟨⟨⟨u25, -⟩, -, u32, -⟩, ⟨u27, u180⟩, uc⟩ := R2
  have ei : ((wkL z t).s.N : Int) + 1 + ((wkR z t).s.N : Int) = (((wkL z t).s.N + 1 + (wkR z t).s.N : Nat) : Int) := by omega
  refine wr_aload_n rfl rfl rfl ?_
  refine wr_aload_n rfl rfl rfl ?_
  refine wr_get (ci := 12) (f := 25) rfl rfl rfl (by assumption) rfl ?_
  rw [u25]
  refine wr_iconst rfl rfl ?_
  refine wr_iadd rfl rfl ?_
  refine wr_aload_n rfl rfl rfl ?_
  refine wr_get (ci := 12) (f := 32) rfl rfl rfl (by assumption) rfl ?_
  rw [u32]
  refine wr_iadd rfl rfl ?_
  rw [ei]
  refine wr_putI (ci := 12) (f := 23) (fs' := [_, _, _, _, _, _, _, _, _, _, _, _, _, _, _, _, _, _, _, _, _, _, _, _, _, _, _, _, _, _, _, _, _, _, _, _, _, _, _]) rfl rfl rfl (by assumption) rfl rfl rfl (fun h1 e1 => ?_)
  have w : FW h0 h1 (updI o6 23 ((((wkL z t).s.N + 1 + (wkR z t).s.N : Nat) : Int))) F6 A6 := by rw [e1]; exact w.setO (updI o6 23 ((((wkL z t).s.N + 1 + (wkR z t).s.N : Nat) : Int)))
  clear e1
  obtain ⟨o7, w, s7, q7⟩ := fo_ex w
  have cO := w.cO
  have ob7 : ∀ j, j ≠ 23 → j ≠ 25 → j ≠ 27 → (j < 29 ∨ 36 < j) → o7 j = o j := fun j x a b c => by rw [q7 j x, kp2.1 j b c, ob5 j a b c]
  have aa7 : ∀ j, j ≠ 178 → j ≠ 179 → j ≠ 180 → A6 j = A j := fun j a b c => by rw [kp2.2.1 j a b c, aa5 j a b c]
  have g7 : RG z.gn z.go z.gl o7 A6 := r.g.keep (ob7 _ (by decide) (by decide) (by decide) (by decide)) ⟨aa7 _ (by decide) (by decide) (by decide), aa7 _ (by decide) (by decide) (by decide)⟩
  obtain ⟨l0h, l0c⟩ := wkL_0 z t
  obtain ⟨r0h, r0c⟩ := wkR_0 z t
  -- the corners
  have hL : ∀ k, k < (wkL z t).s.N → A6 178 k = (wkL z t).s.cd ((wkL z t).s.N - k) ∧ F6 k = -(OuQ (wkL z t).s (wkL z t).eo ((wkL z t).s.N - k)) ∧ F6 (26 + k) = LvQ (wkL z t).s (wkL z t).el ((wkL z t).s.N - k) := by
    intro k hk
    obtain ⟨v1, v2, v3⟩ := tn k (by omega)
    obtain ⟨c1, c2, c3⟩ := lc ((wkL z t).s.N - k) (by omega) (by omega)
    rw [Nat.zero_add] at c1 c2 c3
    rw [kp2.2.2.1 k (by omega), v1, c1, kp2.2.2.2 k (Or.inl (by omega)), v2, c2, kp2.2.2.2 (26 + k) (Or.inr (Or.inl (by omega))), v3, c3]
    refine ⟨rfl, ?_, rfl⟩
    have : (((-1 : Int)) : Rat) = -1 := rfl
    rw [this]
    grind
  have hR : ∀ i, i ≤ (wkR z t).s.N → A6 178 ((wkL z t).s.N + i) = (wkR z t).s.cd i ∧ F6 ((wkL z t).s.N + i) = OuQ (wkR z t).s (wkR z t).eo i ∧ F6 (26 + ((wkL z t).s.N + i)) = LvQ (wkR z t).s (wkR z t).el i := by
    intro i hi
    by_cases i0 : i = 0
    · subst i0
      obtain ⟨v1, v2, v3⟩ := tn (wkL z t).s.N (Nat.le_refl _)
      rw [Nat.sub_self] at v1 v2 v3
      have d := out_in (s := (wkR z t).s) (eo := (wkR z t).eo) (el := (wkR z t).el) (i := 0) (fun q => by have := (H2.fin q.1).1; omega)
      rw [Nat.add_zero, kp2.2.2.1 _ (Nat.le_refl _), v1, kp1.2.2.1 0 (Nat.le_refl _), sA, updI_s, r0c, d.1, d.2, H2.o0, r0h, kp2.2.2.2 _ (Or.inl (Nat.le_refl _)), v2, kp1.2.2.2 0 (Or.inl (Nat.le_refl _)), p3 0 (by decide), t2, kp2.2.2.2 _ (Or.inr (Or.inl ⟨by omega, by omega⟩)), v3, kp1.2.2.2 26 (Or.inr (Or.inl (by omega))), t3]
      refine ⟨rfl, rfl, ?_⟩
      rw [Rat.intCast_mul]
      have : (((1000 : Int)) : Rat) = 1000 := rfl
      rw [this]
      grind
    · obtain ⟨c1, c2, c3⟩ := uc i (by omega) hi
      rw [c1, c2, c3]
      refine ⟨rfl, ?_, rfl⟩
      have : (((1 : Int)) : Rat) = 1 := rfl
      rw [this]
      grind
  have hh0 : (runP z t).L.hi 0 = (runP z t).R.hi 0 := l0h.trans r0h.symm
  have oU : ∀ i, i < (wkL z t).s.N + 1 + (wkR z t).s.N → F6 i = zU (runP z t) i ∧ F6 (26 + i) = zY (runP z t) i := by
    intro i hi
    by_cases c : i < (wkL z t).s.N
    · obtain ⟨a, b⟩ := corn_L (z := runP z t) i c
      obtain ⟨-, e, f⟩ := hL i c
      exact ⟨e.trans a.symm, f.trans b.symm⟩
    · obtain ⟨a, b⟩ := corn_R (z := runP z t) i (i - (wkL z t).s.N) (by show i = (wkL z t).s.N + _; omega)
      obtain ⟨-, e, f⟩ := hR (i - (wkL z t).s.N) (by omega)
      rw [show (wkL z t).s.N + (i - (wkL z t).s.N) = i by omega] at e f
      exact ⟨e.trans a.symm, f.trans b.symm⟩
  have SC : ScH z.gn z.go z.gl ((wkL z t).s.N + 1 + (wkR z t).s.N) (zU (runP z t)) (zY (runP z t)) := sc_H (z := runP z t) V.gr H1 H2 hh0
  obtain ⟨aC, aF⟩ := area_one (z := runP z t) V.gr H1 H2 hh0
  refine wr_aload_n rfl rfl rfl ?_
  refine wr_cv0 (k' := 185) (ci := 12) rfl rfl rfl rfl (by assumption) rfl rfl (rr_areas (d := d) (K := (wkL z t).s.N + 1 + (wkR z t).s.N) w g7 V.gr SC (by omega) s7 oU) (fun r h2 q => ?_)
  obtain ⟨rfl, F8, w, ⟨f52, f53⟩, ⟨b52, b53⟩, k8⟩ := q
  have f52 : F8 52 = areaC (runP z t) := f52.trans aC
  have f53 : F8 53 = areaF (runP z t) := f53.trans aF
  clear SC aC aF
  have cO := w.cO
  refine wr_aload_n rfl rfl rfl ?_
  refine wr_get (ci := 12) (f := 23) rfl rfl rfl (by assumption) rfl ?_
  rw [s7]
  refine wr_iret rfl rfl ?_
  have cn : cornN (runP z t) = (((wkL z t).s.N + 1 + (wkR z t).s.N : Nat) : Int) := by
    unfold cornN
    rw [if_pos (show (runP z t).wk = 1 from rfl)]
    show ((wkL z t).s.N : Int) + 1 + ((wkR z t).s.N : Int) = _
    omega
  obtain ⟨wb, fb⟩ := w.base
  refine ⟨by rw [cn], ⟨o7, F8, A6, wb, ?_, ?_, ?_, ?_, ?_, ?_⟩, fb⟩
  · exact r.t.keep (ob7 _ (by decide) (by decide) (by decide) (by decide)) (aa7 _ (by decide) (by decide) (by decide))
  · exact r.m.keep (ob7 _ (by decide) (by decide) (by decide) (by decide)) ⟨aa7 _ (by decide) (by decide) (by decide), aa7 _ (by decide) (by decide) (by decide), aa7 _ (by decide) (by decide) (by decide), aa7 _ (by decide) (by decide) (by decide), aa7 _ (by decide) (by decide) (by decide)⟩
  · exact g7
  · exact r.x.keep ⟨ob7 _ (by decide) (by decide) (by decide) (by decide), ob7 _ (by decide) (by decide) (by decide) (by decide)⟩ (aa7 _ (by decide) (by decide) (by decide))
  · refine ⟨by rw [s7, cn], fun q => absurd (show (1 : Int) = 0 from q) (by decide), ?_, fun _ => ⟨⟨?_, ?_, by rw [cn]; omega⟩, ?_, fun k hk => ?_, ⟨?_, ?_⟩, ⟨f52, f53⟩, ?_, ?_⟩⟩
    · rw [q7 27 (by decide), u27]
      omega
    · rw [q7 25 (by decide), u25]
      rfl
    · rw [q7 27 (by decide), u27]
      rfl
    · exact u180
    · rw [cn] at hk
      have hk : k < (wkL z t).s.N + 1 + (wkR z t).s.N := by omega
      have u := oU k hk
      rw [k8 k (by omega) (by omega) (by omega), k8 (26 + k) (by omega) (by omega) (by omega)]
      refine ⟨?_, u.1, u.2⟩
      unfold codeC
      show A6 178 k = if (k : Int) < ((wkL z t).s.N : Int) then (wkL z t).s.cd (((wkL z t).s.N : Int) - k).toNat else (wkR z t).s.cd ((k : Int) - ((wkL z t).s.N : Int)).toNat
      by_cases c : k < (wkL z t).s.N
      · rw [if_pos (by omega), (hL k c).1, show (((wkL z t).s.N : Int) - k).toNat = (wkL z t).s.N - k by omega]
      · have e := (hR (k - (wkL z t).s.N) (by omega)).1
        rw [show (wkL z t).s.N + (k - (wkL z t).s.N) = k by omega] at e
        rw [if_neg (by omega), e, show ((k : Int) - ((wkL z t).s.N : Int)).toNat = k - (wkL z t).s.N by omega]
    · rw [e179', updI_n (by decide), a5 179 (by decide), e179, updI_s]
      rfl
    · rw [e179', updI_s]
      rfl
    · rw [← f52]; exact b52
    · rw [← f53]; exact b53
  · exact r.k.keep (ob7 _ (by decide) (by decide) (by decide) (by decide)) (aa7 _ (by decide) (by decide) (by decide)) (fun f a b => by rw [k8 f (by omega) (by omega) (by omega), kp2.2.2.2 f (Or.inr (Or.inr (by omega))), f5 f (Or.inr (by omega)) (by omega), kp1.2.2.2 f (Or.inr (Or.inr (by omega))), p3 f (by omega), p2 f (by omega)]) ks
theorem rr_run {d : Nat} {t : Int} (C : RR h z) (V : VS z) (ht : -2147483648 ≤ t ∧ t ≤ 2147483647) : am_c X (d + 11) 169 [.ref 164, .int (iI t)] h (fun r h' => ((0 ≤ t ∧ t < z.M.sz) ∧ r = some (.int (iI (cornN (runP z t.toNat)))) ∧ RR h' (runP z t.toNat) ∧ frI [(164, 181)] h h') ∨ (¬ (0 ≤ t ∧ t < z.M.sz) ∧ r = some (.int (iI (-1))) ∧ RR h' z ∧ frI [(164, 181)] h h')) := by
  have C0 := C
  obtain ⟨o, F, A, w, r⟩ := C
  have cO := w.cO
  have k6 := V.tm.k6
  have e12 := r.m.1
  refine am_c.of (Nat.le_of_ble_eq_true rfl) ?_
  show am_w _ _ _ (_, [_, _], _, _) _
  by_cases c : 0 ≤ t ∧ t < z.M.sz
  ·
    refine wr_iload_n rfl rfl rfl ?_
    refine wr_if_lt rfl rfl rfl (by omega) (fun c1 => by exfalso; omega) (fun c1 => ?_)
    refine wr_iload_n rfl rfl rfl ?_
    refine wr_aload_n rfl rfl rfl ?_
    refine wr_get (ci := 12) (f := 12) rfl rfl rfl (by assumption) rfl ?_
    rw [e12]
    refine wr_icmp_lt rfl rfl rfl (by omega) (by omega) (fun c9 => ?_) (fun c9 => by exfalso; omega)
    have := rr_run1 (X := X) (d := d) (t := t.toNat) w r V (by omega)
    rw [show ((t.toNat : Nat) : Int) = t by omega] at this
    exact this.mono (fun r h' q => Or.inl ⟨c, q⟩)
  · by_cases c1 : t < 0
    ·
      refine wr_iload_n rfl rfl rfl ?_
      refine wr_if_lt rfl rfl rfl (by omega) (fun c1 => ?_) (fun c1 => by exfalso; omega)
      refine wr_iconst rfl rfl ?_
      refine wr_iret rfl rfl ?_
      exact Or.inr ⟨c, rfl, C0, frI_rf _ _⟩
    ·
      refine wr_iload_n rfl rfl rfl ?_
      refine wr_if_lt rfl rfl rfl (by omega) (fun c1 => by exfalso; omega) (fun c1 => ?_)
      refine wr_iload_n rfl rfl rfl ?_
      refine wr_aload_n rfl rfl rfl ?_
      refine wr_get (ci := 12) (f := 12) rfl rfl rfl (by assumption) rfl ?_
      rw [e12]
      refine wr_icmp_lt rfl rfl rfl (by omega) (by omega) (fun c9 => by exfalso; omega) (fun c9 => ?_)
      refine wr_iconst rfl rfl ?_
      refine wr_iret rfl rfl ?_
      exact Or.inr ⟨c, rfl, C0, frI_rf _ _⟩
end RTG
