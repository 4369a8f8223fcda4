/-! BOTH SIDE BY SIDE: neither touches the other's cells; what holds of a state holds of the next -/
section RUB
variable {X : Nat × (Nat → Int32)} {h h' : am_H} {z : PS}
theorem LW_in : ∀ p ∈ LW, p + 1 ≤ 163 := by decide
theorem LF_in : ∀ p ∈ LF, p.1 + 4 ≤ 163 := by decide
theorem CR.same (C : CR h z) (q : same 0 163 h h') : CR h' z := by
  obtain ⟨⟨tp, dr, into, p, op, wr, wt, Md, c⟩, ws, as, st, ix, pl, S, F, W, G, rest⟩ := C
  have Q : ∀ i, i ≤ 163 → h'[i]? = h[i]? := fun i hi => q i (Nat.zero_le _) hi
  have s1 := G.se.1
  have s2 := G.se.2
  refine ⟨⟨tp, dr, into, p, op, wr, wt, Md, c.same (fun i a b => q i a (by omega))⟩, ws, as, st, ix, pl, S, F, W, ⟨frI_rf _ _, G.gr.same q (by omega), G.ar.same q (by omega), ⟨(Q 45 (by decide)).trans s1, (Q 78 (by decide)).trans s2⟩, G.sl.same q (by omega), G.sr.same q (by omega), (Q 79 (by decide)).trans G.wa, (Q 95 (by decide)).trans G.aa, (Q 131 (by decide)).trans G.e1, (Q 145 (by decide)).trans G.e2, fun p hp => ?_, fun p hp => ?_⟩, rest⟩
  · have := LW_in p hp
    exact (G.ww p hp).same q (by omega) (by omega)
  · have := LF_in p hp
    exact (G.ff p hp).same q (by omega)
theorem RR.same (C : RR h z) (q : same 164 181 h h') : RR h' z := by
  obtain ⟨o, F, A, ⟨V, S, ⟨l, s, w, R⟩, f⟩, r⟩ := C
  have Q : ∀ i, 164 ≤ i → i ≤ 181 → h'[i]? = h[i]? := q
  refine ⟨o, F, A, ⟨V, S, ⟨l, s, ⟨frI_rf _ _, (Q 164 (by decide) (by decide)).trans w.ob, (Q 165 (by decide) (by decide)).trans w.li, (Q 166 (by decide) (by decide)).trans w.sz, (Q 179 (by decide) (by decide)).trans w.en, fun p hp => ?_⟩, R⟩, f⟩, r⟩
  have := LA_ok p hp
  exact (Q p.1 (by omega) (by omega)).trans (w.ar p hp)
theorem CR.by (C : CR h z) (f : frI [(164, 181)] h h') : CR h' z := C.same (f.same (fun p hp => by simp at hp; rw [hp]; exact Or.inl (by decide)))
theorem RR.by (C : RR h z) (f : frI [(0, 163)] h h') : RR h' z := C.same (f.same (fun p hp => by simp at hp; rw [hp]; exact Or.inr (by decide)))
/-- what holds of a state -/
def VX (z : PS) : Prop := VS z ∧ (z.wk = 1 → z.L.hi 0 = z.R.hi 0) ∧ ∀ i, 12 ≤ i → z.vo i = z.go i ∧ z.vl i = z.gl i
theorem vx0 : VX ps0 := ⟨vs0, fun q => absurd (show (0 : Int) = 1 from q) (by decide), fun _ _ => ⟨rfl, rfl⟩⟩
theorem vx_unit {u : Int} (V : VX z) (c : 32 ≤ u ∧ u ≤ 126 ∧ z.n < 400) : VX (PS.mk (updI z.T z.n u) (z.n + 1) z.M z.gn z.go z.gl z.al z.ab z.ll z.lr z.wk z.vn z.vo z.vl z.L z.R z.eL z.fL z.eR z.fR z.ch z.tk z.ks z.lm z.cC z.cF z.vC z.vF) := by
  obtain ⟨V, a, b⟩ := V
  refine ⟨⟨⟨?_, fun j hj => ?_⟩, V.tm, V.gr, V.ax, V.la, V.wkb, V.chb, V.sec, V.ksb, V.lmb, V.cb, V.vb⟩, a, b⟩
  · show z.n + 1 ≤ 400
    omega
  · have hj : j < z.n + 1 := hj
    show 32 ≤ updI z.T z.n u j ∧ updI z.T z.n u j ≤ 126
    by_cases q : j = z.n
    · subst q; rw [updI_s]; omega
    · rw [updI_n q]; exact V.txt.2 j (by omega)
theorem vx_n0 (V : VX z) : VX (PS.mk z.T (0) z.M z.gn z.go z.gl z.al z.ab z.ll z.lr z.wk z.vn z.vo z.vl z.L z.R z.eL z.fL z.eR z.fR z.ch z.tk z.ks z.lm z.cC z.cF z.vC z.vF) := by
  obtain ⟨V, a, b⟩ := V
  exact ⟨⟨⟨Nat.zero_le _, fun j hj => absurd hj (Nat.not_lt_zero _)⟩, V.tm, V.gr, V.ax, V.la, V.wkb, V.chb, V.sec, V.ksb, V.lmb, V.cb, V.vb⟩, a, b⟩
theorem vx_read {M : Tm} (V : VX z) (g : GT M.kd M.fi M.se M.ta M.en M.od M.sz) : VX (readP z M) := by
  obtain ⟨V, a, b⟩ := V
  exact ⟨⟨⟨Nat.zero_le _, fun j hj => absurd hj (Nat.not_lt_zero _)⟩, g, V.gr, V.ax, V.la, Or.inl rfl, Nat.zero_le _, fun q => absurd (show (0 : Int) = 1 from q) (by decide), V.ksb, V.lmb, V.cb, V.vb⟩, fun q => absurd (show (0 : Int) = 1 from q) (by decide), b⟩
theorem vx_clear (V : VX z) : VX (PS.mk z.T z.n z.M (0) z.go z.gl z.al z.ab z.ll z.lr z.wk z.vn z.vo z.vl z.L z.R z.eL z.fL z.eR z.fR z.ch z.tk z.ks z.lm z.cC z.cF z.vC z.vF) := by
  obtain ⟨V, a, b⟩ := V
  exact ⟨⟨V.txt, V.tm, ⟨Nat.zero_le _, V.gr.2.1, V.gr.2.2.1, fun i j _ hj => absurd hj (Nat.not_lt_zero _)⟩, V.ax, V.la, V.wkb, V.chb, V.sec, V.ksb, V.lmb, V.cb, V.vb⟩, a, b⟩
theorem vx_ground {x y : Int} (V : VX z) (c : gAdd z.gn z.go x y) : VX (PS.mk z.T z.n z.M (z.gn + 1) (updI z.go z.gn x) (updI z.gl z.gn y) z.al z.ab z.ll z.lr z.wk z.vn z.vo z.vl z.L z.R z.eL z.fL z.eR z.fR z.ch z.tk z.ks z.lm z.cC z.cF z.vC z.vF) := by
  obtain ⟨V, a, b⟩ := V
  refine ⟨⟨V.txt, V.tm, V.gr.add c, V.ax, V.la, V.wkb, V.chb, V.sec, V.ksb, V.lmb, V.cb, V.vb⟩, a, fun i hi => ?_⟩
  have := c.2.2.1
  show z.vo i = updI z.go z.gn x i ∧ z.vl i = updI z.gl z.gn y i
  rw [updI_n (by omega), updI_n (by omega)]
  exact b i hi
theorem vx_axis {x y : Int} (V : VX z) (c : (-100000 ≤ x ∧ x ≤ 100000) ∧ -150 ≤ y ∧ y ≤ 150) : VX (PS.mk z.T z.n z.M z.gn z.go z.gl (x) (y) z.ll z.lr z.wk z.vn z.vo z.vl z.L z.R z.eL z.fL z.eR z.fR z.ch z.tk z.ks z.lm z.cC z.cF z.vC z.vF) := by
  obtain ⟨V, a, b⟩ := V
  exact ⟨⟨V.txt, V.tm, V.gr, c, V.la, V.wkb, V.chb, V.sec, V.ksb, V.lmb, V.cb, V.vb⟩, a, b⟩
theorem vx_land {x y : Int} (V : VX z) (c : (x = -1 ∨ x = 1) ∧ 0 ≤ y ∧ y ≤ 1000000) : VX (if x = -1 then (PS.mk z.T z.n z.M z.gn z.go z.gl z.al z.ab (y) z.lr z.wk z.vn z.vo z.vl z.L z.R z.eL z.fL z.eR z.fR z.ch z.tk z.ks z.lm z.cC z.cF z.vC z.vF) else (PS.mk z.T z.n z.M z.gn z.go z.gl z.al z.ab z.ll (y) z.wk z.vn z.vo z.vl z.L z.R z.eL z.fL z.eR z.fR z.ch z.tk z.ks z.lm z.cC z.cF z.vC z.vF)) := by
  obtain ⟨V, a, b⟩ := V
  split
  · exact ⟨⟨V.txt, V.tm, V.gr, V.ax, ⟨c.2, V.la.2⟩, V.wkb, V.chb, V.sec, V.ksb, V.lmb, V.cb, V.vb⟩, a, b⟩
  · exact ⟨⟨V.txt, V.tm, V.gr, V.ax, ⟨V.la.1, c.2⟩, V.wkb, V.chb, V.sec, V.ksb, V.lmb, V.cb, V.vb⟩, a, b⟩
theorem vx_run {t : Nat} (V : VX z) (ht : t < z.M.sz) : VX (runP z t) := by
  obtain ⟨V, a, b⟩ := V
  obtain ⟨⟨H1, n1⟩, H2, n2, c12⟩ := walk_ok V ht
  refine ⟨⟨V.txt, V.tm, V.gr, V.ax, V.la, Or.inr rfl, ?_, fun _ => ⟨V.gr, H1, H2⟩, V.ksb, V.lmb, V.cb, V.vb⟩, fun _ => (wkL_0 z t).1.trans (wkR_0 z t).1.symm, fun _ _ => ⟨rfl, rfl⟩⟩
  show (wkR z t).ch ≤ 24
  omega
theorem vx_vol {v c c' w K : Int} (hv : 0 ≤ v ∧ v ≤ K * 1000000000000000000000000000000000) (hc : 0 ≤ c ∧ c ≤ 3600000000000000000000000) (hc' : 0 ≤ c' ∧ c' ≤ 3600000000000000000000000) (hw : 0 ≤ w ∧ w ≤ 100000) : 0 ≤ v + (c + c') * (500 * w) ∧ v + (c + c') * (500 * w) ≤ (K + 1) * 1000000000000000000000000000000000 := by
  have m := mulB (a := c + c') (b := 500 * w) (A := 7200000000000000000000000) (B := 50000000) (by omega) (by omega)
  have n : 0 ≤ (c + c') * (500 * w) := Int.mul_nonneg (by omega) (by omega)
  generalize (c + c') * (500 * w) = q at *
  omega
theorem vx_keep {m : Int} (V : VX z) (k : keepOk z m) (u1 : cuB 36 (areaC z)) (u2 : cuB 36 (areaF z)) : VX (keepP z m) := by
  obtain ⟨V, a, b⟩ := V
  obtain ⟨k1, k2, k3, k4⟩ := k
  have b1 := flo_in u1
  have b3 := flo_in u2
  have lm := V.lmb
  have wd : 0 ≤ (if z.ks = 0 then 0 else m - z.lm) ∧ (if z.ks = 0 then 0 else m - z.lm) ≤ 100000 := by split <;> omega
  have v1 := vx_vol V.vb.1 V.cb.1 ⟨b1.1, b1.2.1⟩ wd
  have v2 := vx_vol V.vb.2 V.cb.2 ⟨b3.1, b3.2.1⟩ wd
  refine ⟨⟨V.txt, V.tm, V.gr, V.ax, V.la, V.wkb, V.chb, V.sec, ?_, k2, ⟨⟨b1.1, b1.2.1⟩, b3.1, b3.2.1⟩, ?_⟩, a, b⟩
  · show z.ks + 1 ≤ 20
    omega
  · have e : ((z.ks + 1 : Nat) : Int) = (z.ks : Int) + 1 := by omega
    show (0 ≤ z.vC + (z.cC + flo (areaC z)) * (500 * (if z.ks = 0 then 0 else m - z.lm)) ∧ z.vC + (z.cC + flo (areaC z)) * (500 * (if z.ks = 0 then 0 else m - z.lm)) ≤ ((z.ks + 1 : Nat) : Int) * 1000000000000000000000000000000000) ∧ 0 ≤ z.vF + (z.cF + flo (areaF z)) * (500 * (if z.ks = 0 then 0 else m - z.lm)) ∧ z.vF + (z.cF + flo (areaF z)) * (500 * (if z.ks = 0 then 0 else m - z.lm)) ≤ ((z.ks + 1 : Nat) : Int) * 1000000000000000000000000000000000
    rw [e]
    exact ⟨v1, v2⟩
theorem RR.area (C : RR h z) (w : z.wk = 1) : cuB 36 (areaC z) ∧ cuB 36 (areaF z) := by
  obtain ⟨o, F, A, -, r⟩ := C
  exact (r.c.2.2.2 w).2.2.2.2.2
end RUB
