/-! THE REFERENCE'S STATE, AND ITS SMALL CALLS -/
def rowE (op a b g kd fi se ta : Int) : Prop := (kd ≤ 5 ∧ op = kd ∧ a = fi ∧ b = se) ∨ ((6 ≤ kd ∧ kd ≤ 9) ∧ op = 6 ∧ a = (if kd = 6 then 99 else if kd = 7 then 102 else if kd = 8 then 111 else 104) ∧ b = fi ∧ g = (if se = 1 then ta else -1 - ta)) ∨ (kd = 10 ∧ op = 7 ∧ g = ta)
def RT (T : Nat → Int) (n : Nat) (o : Nat → Int) (A : Nat → Nat → Int) : Prop := o 4 = n ∧ ∀ i, i < n → A 168 i = T i
def RM (M : Tm) (o : Nat → Int) (A : Nat → Nat → Int) : Prop := o 12 = M.sz ∧ (∀ k, k ≤ M.sz → A 173 k = (stOf M.en k : Int)) ∧ ∀ j, j < M.od → rowE (A 169 j) (A 170 j) (A 171 j) (A 172 j) (M.kd j) (M.fi j) (M.se j) (M.ta j)
def RG (n : Nat) (off lev : Nat → Int) (o : Nat → Int) (A : Nat → Nat → Int) : Prop := o 19 = n ∧ ∀ i, i < n → A 175 i = off i ∧ A 176 i = lev i
def RX (al ab ll lr : Int) (o : Nat → Int) (A : Nat → Nat → Int) : Prop := o 20 = al ∧ o 21 = ab ∧ A 177 0 = ll ∧ A 177 2 = lr
def codeC (z : PS) (k : Int) : Int := if k < z.L.N then z.L.cd (z.L.N - k).toNat else z.R.cd (k - z.L.N).toNat
def RC (z : PS) (o : Nat → Int) (F : Nat → Rat) (A : Nat → Nat → Int) : Prop := o 23 = cornN z ∧ (z.wk = 0 → z.ch = 0) ∧ (0 ≤ o 27 ∧ o 27 ≤ 24) ∧ (z.wk = 1 → (o 25 = z.L.N ∧ o 27 = z.ch ∧ cornN z ≤ 25) ∧ (∀ k, k < z.ch → A 180 k = z.tk k) ∧ (∀ k : Nat, (k : Int) < cornN z → A 178 k = codeC z k ∧ F k = cornO z k ∧ F (26 + k) = cornL z k) ∧ (A 179 0 = z.L.e ∧ A 179 2 = z.R.e) ∧ (F 52 = areaC z ∧ F 53 = areaF z) ∧ cuB 36 (areaC z) ∧ cuB 36 (areaF z))
/-- what the kept sections m metres apart make: 500 times the sums of neighbours times the way -/
def volS (m K : Nat → Int) : Nat → Int
  | 0 => 0
  | 1 => 0
  | n + 2 => volS m K (n + 1) + (K n + K (n + 1)) * (500 * (m (n + 1) - m n))
def RK (ks : Nat) (lm cC cF vC vF : Int) (o : Nat → Int) (F : Nat → Rat) (A : Nat → Nat → Int) : Prop := o 37 = ks ∧ ∃ KC KF : Nat → Int, (∀ k, k < ks → (0 ≤ A 181 k ∧ A 181 k ≤ 100000) ∧ (0 ≤ KC k ∧ KC k ≤ 3600000000000000000000000) ∧ (0 ≤ KF k ∧ KF k ≤ 3600000000000000000000000) ∧ F (54 + 2 * k) = (KC k : Rat) ∧ F (55 + 2 * k) = (KF k : Rat)) ∧ (∀ k, k + 1 < ks → A 181 k < A 181 (k + 1)) ∧ (0 < ks → A 181 (ks - 1) = lm ∧ KC (ks - 1) = cC ∧ KF (ks - 1) = cF) ∧ vC = volS (A 181) KC ks ∧ vF = volS (A 181) KF ks
def RS (z : PS) (o : Nat → Int) (F : Nat → Rat) (A : Nat → Nat → Int) : Prop :=
  (RT z.T z.n o A) ∧
  (RM z.M o A) ∧
  (RG z.gn z.go z.gl o A) ∧
  (RX z.al z.ab z.ll z.lr o A) ∧
  (RC z o F A) ∧
  (RK z.ks z.lm z.cC z.cF z.vC z.vF o F A)
theorem RS.t {z : PS} {o : Nat → Int} {F : Nat → Rat} {A : Nat → Nat → Int} (zz : RS z o F A) : RT z.T z.n o A := zz.1
theorem RS.m {z : PS} {o : Nat → Int} {F : Nat → Rat} {A : Nat → Nat → Int} (zz : RS z o F A) : RM z.M o A := zz.2.1
theorem RS.g {z : PS} {o : Nat → Int} {F : Nat → Rat} {A : Nat → Nat → Int} (zz : RS z o F A) : RG z.gn z.go z.gl o A := zz.2.2.1
theorem RS.x {z : PS} {o : Nat → Int} {F : Nat → Rat} {A : Nat → Nat → Int} (zz : RS z o F A) : RX z.al z.ab z.ll z.lr o A := zz.2.2.2.1
theorem RS.c {z : PS} {o : Nat → Int} {F : Nat → Rat} {A : Nat → Nat → Int} (zz : RS z o F A) : RC z o F A := zz.2.2.2.2.1
theorem RS.k {z : PS} {o : Nat → Int} {F : Nat → Rat} {A : Nat → Nat → Int} (zz : RS z o F A) : RK z.ks z.lm z.cC z.cF z.vC z.vF o F A := zz.2.2.2.2.2
def RR (h : am_H) (z : PS) : Prop := ∃ o F A, FW h h o F A ∧ RS z o F A
section RRA
variable {X : Nat × (Nat → Int32)} {h0 h h' : am_H} {o o' : Nat → Int} {A A' : Nat → Nat → Int} {F F' : Nat → Rat} {z z' : PS}
theorem RT.keep {T : Nat → Int} {n : Nat} (r : RT T n o A) (e : o' 4 = o 4) (a : A' 168 = A 168) : RT T n o' A' := ⟨e.trans r.1, by rw [a]; exact r.2⟩
theorem RM.keep {M : Tm} (r : RM M o A) (e : o' 12 = o 12) (a : A' 169 = A 169 ∧ A' 170 = A 170 ∧ A' 171 = A 171 ∧ A' 172 = A 172 ∧ A' 173 = A 173) : RM M o' A' := by
  obtain ⟨a1, a2, a3, a4, a5⟩ := a
  refine ⟨e.trans r.1, ?_, ?_⟩
  · rw [a5]; exact r.2.1
  · rw [a1, a2, a3, a4]; exact r.2.2
theorem RG.keep {n : Nat} {off lev : Nat → Int} (r : RG n off lev o A) (e : o' 19 = o 19) (a : A' 175 = A 175 ∧ A' 176 = A 176) : RG n off lev o' A' := ⟨e.trans r.1, by rw [a.1, a.2]; exact r.2⟩
theorem RX.keep {al ab ll lr : Int} (r : RX al ab ll lr o A) (e : o' 20 = o 20 ∧ o' 21 = o 21) (a : A' 177 = A 177) : RX al ab ll lr o' A' := ⟨e.1.trans r.1, e.2.trans r.2.1, by rw [a]; exact r.2.2⟩
theorem RC.keep (r : RC z o F A) (e : o' 23 = o 23 ∧ o' 25 = o 25 ∧ o' 27 = o 27) (a : A' 178 = A 178 ∧ A' 179 = A 179 ∧ A' 180 = A 180) (f : ∀ k, k < 54 → F' k = F k) : RC z o' F' A' := by
  obtain ⟨e1, e2, e3⟩ := e
  obtain ⟨a1, a2, a3⟩ := a
  obtain ⟨r1, r2, r3, r4⟩ := r
  refine ⟨e1.trans r1, r2, by rw [e3]; exact r3, fun w => ?_⟩
  obtain ⟨b1, b2, b3, b4, b5⟩ := r4 w
  rw [e2, e3, a1, a2, a3, f 52 (by decide), f 53 (by decide)]
  refine ⟨b1, b2, fun k hk => ?_, b4, b5⟩
  rw [f k (by omega), f (26 + k) (by omega)]
  exact b3 k hk
theorem RC.cong (r : RC z o F A) (l : lik z z') : RC z' o F A := by
  have al := area_lik l
  obtain ⟨⟨l1, l2, l3, l4, l5, l6⟩, l7, l8, l9, l10, l11, l12⟩ := l
  have cn : cornN z' = cornN z := by unfold cornN; rw [l4, l7, l8]
  unfold RC
  rw [cn, al.1, al.2]
  unfold codeC cornO cornL
  rw [l4, l5, l6, l7, l8, l9, l10, l11, l12]
  exact r
theorem RK.keep {ks : Nat} {lm cC cF vC vF : Int} (r : RK ks lm cC cF vC vF o F A) (e : o' 37 = o 37) (a : A' 181 = A 181) (f : ∀ k, 54 ≤ k → k < 94 → F' k = F k) (kb : ks ≤ 20) : RK ks lm cC cF vC vF o' F' A' := by
  obtain ⟨r1, KC, KF, r2, r3, r4, r5, r6⟩ := r
  refine ⟨e.trans r1, KC, KF, ?_⟩
  rw [a]
  refine ⟨fun k hk => ?_, r3, r4, r5, r6⟩
  rw [f (54 + 2 * k) (by omega) (by omega), f (55 + 2 * k) (by omega) (by omega)]
  exact r2 k hk
theorem MW.base {l s : Nat → Int} (w : MW h0 h o l s A) : MW h h o l s A := ⟨frI_rf _ _, w.ob, w.li, w.sz, w.en, w.ar⟩
theorem FW.base (w : FW h0 h o F A) : FW h h o F A ∧ frI [(164, 181)] h0 h := by
  obtain ⟨V, S, ⟨l, s, w, R⟩, q⟩ := w
  exact ⟨⟨V, S, ⟨l, s, w.base, R⟩, q⟩, w.fr⟩
theorem FW.setO (w : FW h0 h o F A) (o' : Nat → Int) : FW h0 (h.set 164 (mCell o')) o' F A := by
  obtain ⟨V, S, ⟨l, s, w, R⟩, q⟩ := w
  exact ⟨V, S, ⟨l, s, w.setO o', R⟩, q⟩
theorem updA_c (A : Nat → Nat → Int) {p q : Nat} (f g : Nat → Int) (h : p ≠ q) : updA (updA A p f) q g = updA (updA A q g) p f := by
  funext j
  unfold updA
  by_cases a : j = q
  · subst a; rw [if_pos rfl, if_neg (fun e => h e.symm), if_pos rfl]
  · rw [if_neg a, if_neg a]
theorem FW.setA {p n : Nat} (w : FW h0 h o F A) (hp : (p, n) ∈ LA) (h7 : p ≠ 167) (f : Nat → Int) : h[p]? = some (am_ia n (A p)) ∧ FW h0 (h.set p (am_ia n f)) o F (updA A p f) := by
  obtain ⟨V, S, ⟨l, s, w, R⟩, q⟩ := w
  have c := w.ar _ hp
  simp only [updA_n h7] at c
  have w := w.setA hp f
  rw [updA_c _ _ _ (fun e => h7 e.symm)] at w
  exact ⟨c, V, S, ⟨l, s, w, R⟩, q⟩
theorem FW.setE (w : FW h0 h o F A) (f : Nat → Int) : h[179]? = some (am_za 3 (A 179)) ∧ FW h0 (h.set 179 (am_za 3 f)) o F (updA A 179 f) := by
  obtain ⟨V, S, ⟨l, s, w, R⟩, q⟩ := w
  have c := w.en
  rw [updA_n (by decide)] at c
  have w := w.setE f
  rw [updA_c _ _ _ (by decide)] at w
  exact ⟨c, V, S, ⟨l, s, w, R⟩, q⟩
theorem FW.arr {p n : Nat} (w : FW h0 h o F A) (hp : (p, n) ∈ LA) (h7 : p ≠ 167) : h[p]? = some (am_ia n (A p)) := (w.setA hp h7 (A p)).1
theorem fo_ex {k : Nat} {v : Int} (w : FW h0 h (updI o k v) F A) : ∃ o2, FW h0 h o2 F A ∧ o2 k = v ∧ ∀ j, j ≠ k → o2 j = o j := ⟨_, w, updI_s _ _ _, fun _ q => updI_n q⟩
theorem fa_ex {p : Nat} {f : Nat → Int} (w : FW h0 h o F (updA A p f)) : ∃ A2, FW h0 h o F A2 ∧ A2 p = f ∧ ∀ j, j ≠ p → A2 j = A j := ⟨_, w, updA_s _ _ _, fun _ q => updA_n q⟩
/-- a field of the object is put -/
theorem rr_unit {d : Nat} {u : Int} (C : RR h z) (V : VS z) (hu : -2147483648 ≤ u ∧ u ≤ 2147483647) : am_c X (d + 2) 153 [.ref 164, .int (iI u)] h (fun r h' => ((32 ≤ u ∧ u ≤ 126 ∧ z.n < 400) ∧ r = some (.int (iI 1)) ∧ RR h' (PS.mk (updI z.T z.n u) (z.n + 1) z.M z.gn z.go z.gl z.al z.ab z.ll z.lr z.wk z.vn z.vo z.vl z.L z.R z.eL z.fL z.eR z.fR z.ch z.tk z.ks z.lm z.cC z.cF z.vC z.vF) ∧ frI [(164, 181)] h h') ∨ (¬ (32 ≤ u ∧ u ≤ 126 ∧ z.n < 400) ∧ r = some (.int (iI 0)) ∧ RR h' z ∧ frI [(164, 181)] h h')) := by
  have C0 := C
  obtain ⟨o, F, A, w, r⟩ := C
  have tx := V.txt
  have ks := V.ksb
  have cO := w.cO
  obtain ⟨e4, eT⟩ := r.t
  obtain ⟨hn, -⟩ := tx
  refine am_c.of (Nat.le_of_ble_eq_true rfl) ?_
  show am_w _ _ _ (_, [_, _], _, _) _
  by_cases c : 32 ≤ u ∧ u ≤ 126 ∧ z.n < 400
  · have cT := w.arr (p := 168) (n := 400) (by decide) (by decide)
    refine wr_iload_n rfl rfl rfl ?_
    refine wr_bipush rfl rfl (by decide) ?_
    refine wr_icmp_lt rfl rfl rfl (by omega) (by omega) (fun c3 => by exfalso; omega) (fun c3 => ?_)
    refine wr_iload_n rfl rfl rfl ?_
    refine wr_bipush rfl rfl (by decide) ?_
    refine wr_icmp_gt rfl rfl rfl (by omega) (by omega) (fun c9 => by exfalso; omega) (fun c9 => ?_)
    refine wr_aload_n rfl rfl rfl ?_
    refine wr_get (ci := 12) (f := 4) rfl rfl rfl (by assumption) rfl ?_
    rw [e4]
    refine wr_sipush rfl rfl (by decide) ?_
    refine wr_icmp_ne rfl rfl rfl (by omega) (by omega) (fun c19 => ?_) (fun c19 => by exfalso; omega)
    refine wr_aload_n rfl rfl rfl ?_
    refine wr_get (ci := 12) (f := 3) rfl rfl rfl (by assumption) rfl ?_
    refine wr_aload_n rfl rfl rfl ?_
    refine wr_get (ci := 12) (f := 4) rfl rfl rfl (by assumption) rfl ?_
    rw [e4]
    refine wr_iload_n rfl rfl rfl ?_
    refine wr_iast rfl rfl (by assumption) (by omega) (by omega) (fun h1 e1 => ?_)
    rw [Int.toNat_natCast] at e1
    have w := e1 ▸ (w.setA (p := 168) (n := 400) (by decide) (by decide) (updI (A 168) z.n u)).2
    clear e1
    obtain ⟨A2, w, sA, nA⟩ := fa_ex w
    have cO := w.cO
    have no := e4
    refine wr_aload_n rfl rfl rfl ?_
    refine wr_dup rfl rfl ?_
    refine wr_get (ci := 12) (f := 4) rfl rfl rfl (by assumption) rfl ?_
    rw [no]
    refine wr_iconst rfl rfl ?_
    refine wr_iadd rfl rfl ?_
    refine wr_putI (ci := 12) (f := 4) (fs' := [_, _, _, _, _, _, _, _, _, _, _, _, _, _, _, _, _, _, _, _, _, _, _, _, _, _, _, _, _, _, _, _, _, _, _, _, _, _, _]) rfl rfl rfl (by assumption) rfl rfl rfl (fun h1 e1 => ?_)
    have w : FW h h1 (updI o 4 ((z.n : Int) + 1)) F A2 := by rw [e1]; exact w.setO (updI o 4 ((z.n : Int) + 1))
    clear e1
    obtain ⟨o2, w, s2, n2⟩ := fo_ex w
    refine wr_iconst rfl rfl ?_
    refine wr_zret rfl rfl (by decide) ?_
    obtain ⟨wb, fb⟩ := w.base
    refine Or.inl ⟨c, rfl, ⟨o2, F, A2, wb, ⟨by rw [s2]; rfl, fun i hi => ?_⟩, r.m.keep (n2 _ (by decide)) ⟨nA _ (by decide), nA _ (by decide), nA _ (by decide), nA _ (by decide), nA _ (by decide)⟩, r.g.keep (n2 _ (by decide)) ⟨nA _ (by decide), nA _ (by decide)⟩, r.x.keep ⟨n2 _ (by decide), n2 _ (by decide)⟩ (nA _ (by decide)), ?_, r.k.keep (n2 _ (by decide)) (nA _ (by decide)) (fun _ _ _ => rfl) ks⟩, fb⟩
    · rw [sA]
      show updI (A 168) z.n u i = updI z.T z.n u i
      have hi : i < z.n + 1 := hi
      by_cases e : i = z.n
      · rw [e, updI_s, updI_s]
      · rw [updI_n e, updI_n e]; exact eT i (by omega)
    · exact (r.c.keep ⟨n2 _ (by decide), n2 _ (by decide), n2 _ (by decide)⟩ ⟨nA _ (by decide), nA _ (by decide), nA _ (by decide)⟩ (fun _ _ => rfl)).cong ⟨⟨rfl, rfl, rfl, rfl, rfl, rfl⟩, rfl, rfl, rfl, rfl, rfl, rfl⟩
  ·
    by_cases c1 : u < 32
    ·
      refine wr_iload_n rfl rfl rfl ?_
      refine wr_bipush rfl rfl (by decide) ?_
      refine wr_icmp_lt rfl rfl rfl (by omega) (by omega) (fun c3 => ?_) (fun c3 => by exfalso; omega)
      refine wr_iconst rfl rfl ?_
      refine wr_zret rfl rfl (by decide) ?_
      exact Or.inr ⟨c, rfl, C0, frI_rf _ _⟩
    by_cases c2 : 126 < u
    ·
      refine wr_iload_n rfl rfl rfl ?_
      refine wr_bipush rfl rfl (by decide) ?_
      refine wr_icmp_lt rfl rfl rfl (by omega) (by omega) (fun c3 => by exfalso; omega) (fun c3 => ?_)
      refine wr_iload_n rfl rfl rfl ?_
      refine wr_bipush rfl rfl (by decide) ?_
      refine wr_icmp_gt rfl rfl rfl (by omega) (by omega) (fun c9 => ?_) (fun c9 => by exfalso; omega)
      refine wr_iconst rfl rfl ?_
      refine wr_zret rfl rfl (by decide) ?_
      exact Or.inr ⟨c, rfl, C0, frI_rf _ _⟩
    ·
      refine wr_iload_n rfl rfl rfl ?_
      refine wr_bipush rfl rfl (by decide) ?_
      refine wr_icmp_lt rfl rfl rfl (by omega) (by omega) (fun c3 => by exfalso; omega) (fun c3 => ?_)
      refine wr_iload_n rfl rfl rfl ?_
      refine wr_bipush rfl rfl (by decide) ?_
      refine wr_icmp_gt rfl rfl rfl (by omega) (by omega) (fun c9 => by exfalso; omega) (fun c9 => ?_)
      refine wr_aload_n rfl rfl rfl ?_
      refine wr_get (ci := 12) (f := 4) rfl rfl rfl (by assumption) rfl ?_
      rw [e4]
      refine wr_sipush rfl rfl (by decide) ?_
      refine wr_icmp_ne rfl rfl rfl (by omega) (by omega) (fun c19 => by exfalso; omega) (fun c19 => ?_)
      refine wr_iconst rfl rfl ?_
      refine wr_zret rfl rfl (by decide) ?_
      exact Or.inr ⟨c, rfl, C0, frI_rf _ _⟩
theorem RS.keep (r : RS z o F A) (ks : z.ks ≤ 20) (eo : ∀ j ∈ [4, 12, 19, 20, 21, 23, 25, 27, 37], o' j = o j) (eA : ∀ p ∈ [168, 169, 170, 171, 172, 173, 175, 176, 177, 178, 179, 180, 181], A' p = A p) (eF : ∀ k, k < 94 → F' k = F k) : RS z o' F' A' :=
  ⟨r.t.keep (eo _ (by decide)) (eA _ (by decide)), r.m.keep (eo _ (by decide)) ⟨eA _ (by decide), eA _ (by decide), eA _ (by decide), eA _ (by decide), eA _ (by decide)⟩, r.g.keep (eo _ (by decide)) ⟨eA _ (by decide), eA _ (by decide)⟩, r.x.keep ⟨eo _ (by decide), eo _ (by decide)⟩ (eA _ (by decide)), r.c.keep ⟨eo _ (by decide), eo _ (by decide), eo _ (by decide)⟩ ⟨eA _ (by decide), eA _ (by decide), eA _ (by decide)⟩ (fun k hk => eF k (by omega)), r.k.keep (eo _ (by decide)) (eA _ (by decide)) (fun k _ hk => eF k hk) ks⟩
theorem rr_in {d : Nat} {v lo up : Int} (h1 : -2147483648 ≤ v ∧ v ≤ 2147483647) (h2 : -2147483648 ≤ lo ∧ lo ≤ 2147483647) (h3 : -2147483648 ≤ up ∧ up ≤ 2147483647) : am_c X (d + 1) 165 [.int (iI v), .int (iI lo), .int (iI up)] h (fun r h' => r = some (.int (iI (b2 (lo ≤ v ∧ v ≤ up)))) ∧ h' = h) := by
  unfold b2
  refine am_c.of (Nat.le_of_ble_eq_true rfl) ?_
  show am_w _ _ _ (_, [_, _, _], _, _) _
  by_cases c : lo ≤ v ∧ v ≤ up
  ·
    rw [if_pos c]
    refine wr_iload_n rfl rfl rfl ?_
    refine wr_iload_n rfl rfl rfl ?_
    refine wr_icmp_lt rfl rfl rfl (by omega) (by omega) (fun c2 => by exfalso; omega) (fun c2 => ?_)
    refine wr_iload_n rfl rfl rfl ?_
    refine wr_iload_n rfl rfl rfl ?_
    refine wr_icmp_gt rfl rfl rfl (by omega) (by omega) (fun c7 => by exfalso; omega) (fun c7 => ?_)
    refine wr_iconst rfl rfl ?_
    refine wr_goto rfl rfl ?_
    refine wr_zret rfl rfl (by decide) ?_
    exact ⟨rfl, rfl⟩
  ·
    rw [if_neg c]
    by_cases c1 : v < lo
    ·
      refine wr_iload_n rfl rfl rfl ?_
      refine wr_iload_n rfl rfl rfl ?_
      refine wr_icmp_lt rfl rfl rfl (by omega) (by omega) (fun c2 => ?_) (fun c2 => by exfalso; omega)
      refine wr_iconst rfl rfl ?_
      refine wr_zret rfl rfl (by decide) ?_
      exact ⟨rfl, rfl⟩
    ·
      refine wr_iload_n rfl rfl rfl ?_
      refine wr_iload_n rfl rfl rfl ?_
      refine wr_icmp_lt rfl rfl rfl (by omega) (by omega) (fun c2 => by exfalso; omega) (fun c2 => ?_)
      refine wr_iload_n rfl rfl rfl ?_
      refine wr_iload_n rfl rfl rfl ?_
      refine wr_icmp_gt rfl rfl rfl (by omega) (by omega) (fun c7 => ?_) (fun c7 => by exfalso; omega)
      refine wr_iconst rfl rfl ?_
      refine wr_zret rfl rfl (by decide) ?_
      exact ⟨rfl, rfl⟩
theorem b2_cs {p : Prop} [Decidable p] : (b2 p = 1 ∧ p) ∨ (b2 p = 0 ∧ ¬ p) := by
  unfold b2
  by_cases c : p
  · rw [if_pos c]; exact Or.inl ⟨rfl, c⟩
  · rw [if_neg c]; exact Or.inr ⟨rfl, c⟩
theorem rr_clear {d : Nat} (C : RR h z) (V : VS z) : am_c X (d + 1) 166 [.ref 164] h (fun r h' => r = none ∧ RR h' (PS.mk z.T z.n z.M (0) z.go z.gl z.al z.ab z.ll z.lr z.wk z.vn z.vo z.vl z.L z.R z.eL z.fL z.eR z.fR z.ch z.tk z.ks z.lm z.cC z.cF z.vC z.vF) ∧ frI [(164, 181)] h h') := by
  obtain ⟨o, F, A, w, r⟩ := C
  have ks := V.ksb
  have cO := w.cO
  refine am_c.of (Nat.le_of_ble_eq_true rfl) ?_
  show am_w _ _ _ (_, [_], _, _) _
  refine wr_aload_n rfl rfl rfl ?_
  refine wr_iconst rfl rfl ?_
  refine wr_putI (ci := 12) (f := 19) (fs' := [_, _, _, _, _, _, _, _, _, _, _, _, _, _, _, _, _, _, _, _, _, _, _, _, _, _, _, _, _, _, _, _, _, _, _, _, _, _, _]) rfl rfl rfl (by assumption) rfl rfl rfl (fun h1 e1 => ?_)
  have w : FW h h1 (updI o 19 0) F A := by rw [e1]; exact w.setO (updI o 19 0)
  obtain ⟨o2, w, s2, n2⟩ := fo_ex w
  refine wr_vret rfl rfl ?_
  obtain ⟨wb, fb⟩ := w.base
  exact ⟨rfl, ⟨o2, F, A, wb, r.t.keep (n2 _ (by decide)) rfl, r.m.keep (n2 _ (by decide)) ⟨rfl, rfl, rfl, rfl, rfl⟩, ⟨s2, fun i hi => absurd hi (Nat.not_lt_zero _)⟩, r.x.keep ⟨n2 _ (by decide), n2 _ (by decide)⟩ rfl, (r.c.keep ⟨n2 _ (by decide), n2 _ (by decide), n2 _ (by decide)⟩ ⟨rfl, rfl, rfl⟩ (fun _ _ => rfl)).cong ⟨⟨rfl, rfl, rfl, rfl, rfl, rfl⟩, rfl, rfl, rfl, rfl, rfl, rfl⟩, r.k.keep (n2 _ (by decide)) rfl (fun _ _ _ => rfl) ks⟩, fb⟩
theorem rr_axis {d : Nat} {x y : Int} (C : RR h z) (V : VS z) (hx : -2147483648 ≤ x ∧ x ≤ 2147483647) (hy : -2147483648 ≤ y ∧ y ≤ 2147483647) : am_c X (d + 2) 167 [.ref 164, .int (iI x), .int (iI y)] h (fun r h' => (((-100000 ≤ x ∧ x ≤ 100000) ∧ -150 ≤ y ∧ y ≤ 150) ∧ r = some (.int (iI 1)) ∧ RR h' (PS.mk z.T z.n z.M z.gn z.go z.gl (x) (y) z.ll z.lr z.wk z.vn z.vo z.vl z.L z.R z.eL z.fL z.eR z.fR z.ch z.tk z.ks z.lm z.cC z.cF z.vC z.vF) ∧ frI [(164, 181)] h h') ∨ (¬ ((-100000 ≤ x ∧ x ≤ 100000) ∧ -150 ≤ y ∧ y ≤ 150) ∧ r = some (.int (iI 0)) ∧ RR h' z ∧ frI [(164, 181)] h h')) := by
  have C0 := C
  obtain ⟨o, F, A, w, r⟩ := C
  have ks := V.ksb
  have cO := w.cO
  have hb1 := b2_cs (p := -100000 ≤ x ∧ x ≤ 100000)
  have hb2 := b2_cs (p := -150 ≤ y ∧ y ≤ 150)
  refine am_c.of (Nat.le_of_ble_eq_true rfl) ?_
  show am_w _ _ _ (_, [_, _, _], _, _) _
  refine wr_iload_n rfl rfl rfl ?_
  refine wr_ldc (z := -100000) rfl rfl rfl (by decide) ?_
  refine wr_ldc (z := 100000) rfl rfl rfl (by decide) ?_
  refine wr_cs3 (k' := 165) rfl rfl rfl rfl rfl (rr_in hx (by decide) (by decide)) (fun r h2 q => ?_)
  obtain ⟨rfl, rfl⟩ := q
  by_cases c : -100000 ≤ x ∧ x ≤ 100000
  ·
    refine wr_if_eq rfl rfl rfl (by omega) (fun c8 => by exfalso; omega) (fun c8 => ?_)
    refine wr_iload_n rfl rfl rfl ?_
    refine wr_sipush rfl rfl (by decide) ?_
    refine wr_sipush rfl rfl (by decide) ?_
    refine wr_cs3 (k' := 165) rfl rfl rfl rfl rfl (rr_in hy (by decide) (by decide)) (fun r h2 q => ?_)
    obtain ⟨rfl, rfl⟩ := q
    by_cases c' : -150 ≤ y ∧ y ≤ 150
    ·
      refine wr_if_ne rfl rfl rfl (by omega) (fun c21 => ?_) (fun c21 => by exfalso; omega)
      refine wr_aload_n rfl rfl rfl ?_
      refine wr_iload_n rfl rfl rfl ?_
      refine wr_putI (ci := 12) (f := 20) (fs' := [_, _, _, _, _, _, _, _, _, _, _, _, _, _, _, _, _, _, _, _, _, _, _, _, _, _, _, _, _, _, _, _, _, _, _, _, _, _, _]) rfl rfl rfl (by assumption) rfl rfl rfl (fun h1 e1 => ?_)
      have w : FW h2 h1 (updI o 20 x) F A := by rw [e1]; exact w.setO (updI o 20 x)
      clear e1
      obtain ⟨o2, w, s2, n2⟩ := fo_ex w
      have cO := w.cO
      refine wr_aload_n rfl rfl rfl ?_
      refine wr_iload_n rfl rfl rfl ?_
      refine wr_putI (ci := 12) (f := 21) (fs' := [_, _, _, _, _, _, _, _, _, _, _, _, _, _, _, _, _, _, _, _, _, _, _, _, _, _, _, _, _, _, _, _, _, _, _, _, _, _, _]) rfl rfl rfl (by assumption) rfl rfl rfl (fun h1 e1 => ?_)
      have w : FW h2 h1 (updI o2 21 y) F A := by rw [e1]; exact w.setO (updI o2 21 y)
      clear e1
      obtain ⟨o3, w, s3, n3⟩ := fo_ex w
      refine wr_iconst rfl rfl ?_
      refine wr_zret rfl rfl (by decide) ?_
      obtain ⟨wb, fb⟩ := w.base
      have n4 : ∀ j, j ≠ 20 → j ≠ 21 → o3 j = o j := fun j a b => by rw [n3 _ b, n2 _ a]
      refine Or.inl ⟨⟨c, c'⟩, rfl, ⟨o3, F, A, wb, r.t.keep (n4 _ (by decide) (by decide)) rfl, r.m.keep (n4 _ (by decide) (by decide)) ⟨rfl, rfl, rfl, rfl, rfl⟩, r.g.keep (n4 _ (by decide) (by decide)) ⟨rfl, rfl⟩, ⟨by rw [n3 _ (by decide), s2], s3, r.x.2.2⟩, (r.c.keep ⟨n4 _ (by decide) (by decide), n4 _ (by decide) (by decide), n4 _ (by decide) (by decide)⟩ ⟨rfl, rfl, rfl⟩ (fun _ _ => rfl)).cong ⟨⟨rfl, rfl, rfl, rfl, rfl, rfl⟩, rfl, rfl, rfl, rfl, rfl, rfl⟩, r.k.keep (n4 _ (by decide) (by decide)) rfl (fun _ _ _ => rfl) ks⟩, fb⟩
    ·
      refine wr_if_ne rfl rfl rfl (by omega) (fun c21 => by exfalso; omega) (fun c21 => ?_)
      refine wr_iconst rfl rfl ?_
      refine wr_zret rfl rfl (by decide) ?_
      exact Or.inr ⟨fun q => c' q.2, rfl, C0, frI_rf _ _⟩
  ·
    refine wr_if_eq rfl rfl rfl (by omega) (fun c8 => ?_) (fun c8 => by exfalso; omega)
    refine wr_iconst rfl rfl ?_
    refine wr_zret rfl rfl (by decide) ?_
    exact Or.inr ⟨fun q => c q.1, rfl, C0, frI_rf _ _⟩
theorem rr_land {d : Nat} {x y : Int} (C : RR h z) (V : VS z) (hx : -2147483648 ≤ x ∧ x ≤ 2147483647) (hy : -2147483648 ≤ y ∧ y ≤ 2147483647) : am_c X (d + 2) 168 [.ref 164, .int (iI x), .int (iI y)] h (fun r h' => (((x = -1 ∨ x = 1) ∧ 0 ≤ y ∧ y ≤ 1000000) ∧ r = some (.int (iI 1)) ∧ RR h' (if x = -1 then (PS.mk z.T z.n z.M z.gn z.go z.gl z.al z.ab (y) z.lr z.wk z.vn z.vo z.vl z.L z.R z.eL z.fL z.eR z.fR z.ch z.tk z.ks z.lm z.cC z.cF z.vC z.vF) else (PS.mk z.T z.n z.M z.gn z.go z.gl z.al z.ab z.ll (y) z.wk z.vn z.vo z.vl z.L z.R z.eL z.fL z.eR z.fR z.ch z.tk z.ks z.lm z.cC z.cF z.vC z.vF)) ∧ frI [(164, 181)] h h') ∨ (¬ ((x = -1 ∨ x = 1) ∧ 0 ≤ y ∧ y ≤ 1000000) ∧ r = some (.int (iI 0)) ∧ RR h' z ∧ frI [(164, 181)] h h')) := by
  have C0 := C
  obtain ⟨o, F, A, w, r⟩ := C
  have ks := V.ksb
  have cO := w.cO
  have cA := w.arr (p := 177) (n := 3) (by decide) (by decide)
  refine am_c.of (Nat.le_of_ble_eq_true rfl) ?_
  show am_w _ _ _ (_, [_, _, _], _, _) _
  by_cases c : (x = -1 ∨ x = 1) ∧ 0 ≤ y ∧ y ≤ 1000000
  · have J : am_w X (d + 1) 168 (22, [.ref 164, .int (iI x), .int (iI y)], [], h) (fun r h' => (((x = -1 ∨ x = 1) ∧ 0 ≤ y ∧ y ≤ 1000000) ∧ r = some (.int (iI 1)) ∧ RR h' (if x = -1 then (PS.mk z.T z.n z.M z.gn z.go z.gl z.al z.ab (y) z.lr z.wk z.vn z.vo z.vl z.L z.R z.eL z.fL z.eR z.fR z.ch z.tk z.ks z.lm z.cC z.cF z.vC z.vF) else (PS.mk z.T z.n z.M z.gn z.go z.gl z.al z.ab z.ll (y) z.wk z.vn z.vo z.vl z.L z.R z.eL z.fL z.eR z.fR z.ch z.tk z.ks z.lm z.cC z.cF z.vC z.vF)) ∧ frI [(164, 181)] h h') ∨ (¬ ((x = -1 ∨ x = 1) ∧ 0 ≤ y ∧ y ≤ 1000000) ∧ r = some (.int (iI 0)) ∧ RR h' z ∧ frI [(164, 181)] h h')) := by
      refine wr_aload_n rfl rfl rfl ?_
      refine wr_get (ci := 12) (f := 22) rfl rfl rfl (by assumption) rfl ?_
      refine wr_iload_n rfl rfl rfl ?_
      refine wr_iconst rfl rfl ?_
      refine wr_iadd rfl rfl ?_
      refine wr_iload_n rfl rfl rfl ?_
      refine wr_iast rfl rfl (by assumption) (by omega) (by omega) (fun h1 e1 => ?_)
      have w := e1 ▸ (w.setA (p := 177) (n := 3) (by decide) (by decide) (updI (A 177) (x + 1).toNat y)).2
      clear e1
      obtain ⟨A2, w, sA, nA⟩ := fa_ex w
      refine wr_iconst rfl rfl ?_
      refine wr_zret rfl rfl (by decide) ?_
      obtain ⟨wb, fb⟩ := w.base
      obtain ⟨x1, x2, x3, x4⟩ := r.x
      refine Or.inl ⟨c, rfl, ?_, fb⟩
      rcases c.1 with e | e
      · rw [if_pos e]
        subst e
        refine ⟨o, F, A2, wb, r.t.keep rfl (nA _ (by decide)), r.m.keep rfl ⟨nA _ (by decide), nA _ (by decide), nA _ (by decide), nA _ (by decide), nA _ (by decide)⟩, r.g.keep rfl ⟨nA _ (by decide), nA _ (by decide)⟩, ⟨x1, x2, by rw [sA]; rfl, by rw [sA]; exact x4⟩, (r.c.keep ⟨rfl, rfl, rfl⟩ ⟨nA _ (by decide), nA _ (by decide), nA _ (by decide)⟩ (fun _ _ => rfl)).cong ⟨⟨rfl, rfl, rfl, rfl, rfl, rfl⟩, rfl, rfl, rfl, rfl, rfl, rfl⟩, r.k.keep rfl (nA _ (by decide)) (fun _ _ _ => rfl) ks⟩
      · rw [if_neg (by omega)]
        subst e
        refine ⟨o, F, A2, wb, r.t.keep rfl (nA _ (by decide)), r.m.keep rfl ⟨nA _ (by decide), nA _ (by decide), nA _ (by decide), nA _ (by decide), nA _ (by decide)⟩, r.g.keep rfl ⟨nA _ (by decide), nA _ (by decide)⟩, ⟨x1, x2, by rw [sA]; exact x3, by rw [sA]; rfl⟩, (r.c.keep ⟨rfl, rfl, rfl⟩ ⟨nA _ (by decide), nA _ (by decide), nA _ (by decide)⟩ (fun _ _ => rfl)).cong ⟨⟨rfl, rfl, rfl, rfl, rfl, rfl⟩, rfl, rfl, rfl, rfl, rfl, rfl⟩, r.k.keep rfl (nA _ (by decide)) (fun _ _ _ => rfl) ks⟩
    by_cases e : x = -1
    ·
      refine wr_iload_n rfl rfl rfl ?_
      refine wr_iconst rfl rfl ?_
      refine wr_icmp_eq rfl rfl rfl (by omega) (by omega) (fun c2 => ?_) (fun c2 => by exfalso; omega)
      refine wr_iload_n rfl rfl rfl ?_
      refine wr_if_lt rfl rfl rfl (by omega) (fun c11 => by exfalso; omega) (fun c11 => ?_)
      refine wr_iload_n rfl rfl rfl ?_
      refine wr_ldc (z := 1000000) rfl rfl rfl (by decide) ?_
      refine wr_icmp_le rfl rfl rfl (by omega) (by omega) (fun c17 => ?_) (fun c17 => by exfalso; omega)
      exact J
    ·
      refine wr_iload_n rfl rfl rfl ?_
      refine wr_iconst rfl rfl ?_
      refine wr_icmp_eq rfl rfl rfl (by omega) (by omega) (fun c2 => by exfalso; omega) (fun c2 => ?_)
      refine wr_iload_n rfl rfl rfl ?_
      refine wr_iconst rfl rfl ?_
      refine wr_icmp_ne rfl rfl rfl (by omega) (by omega) (fun c7 => by exfalso; omega) (fun c7 => ?_)
      refine wr_iload_n rfl rfl rfl ?_
      refine wr_if_lt rfl rfl rfl (by omega) (fun c11 => by exfalso; omega) (fun c11 => ?_)
      refine wr_iload_n rfl rfl rfl ?_
      refine wr_ldc (z := 1000000) rfl rfl rfl (by decide) ?_
      refine wr_icmp_le rfl rfl rfl (by omega) (by omega) (fun c17 => ?_) (fun c17 => by exfalso; omega)
      exact J
  · have J : am_w X (d + 1) 168 (10, [.ref 164, .int (iI x), .int (iI y)], [], h) (fun r h' => (((x = -1 ∨ x = 1) ∧ 0 ≤ y ∧ y ≤ 1000000) ∧ r = some (.int (iI 1)) ∧ RR h' (if x = -1 then (PS.mk z.T z.n z.M z.gn z.go z.gl z.al z.ab (y) z.lr z.wk z.vn z.vo z.vl z.L z.R z.eL z.fL z.eR z.fR z.ch z.tk z.ks z.lm z.cC z.cF z.vC z.vF) else (PS.mk z.T z.n z.M z.gn z.go z.gl z.al z.ab z.ll (y) z.wk z.vn z.vo z.vl z.L z.R z.eL z.fL z.eR z.fR z.ch z.tk z.ks z.lm z.cC z.cF z.vC z.vF)) ∧ frI [(164, 181)] h h') ∨ (¬ ((x = -1 ∨ x = 1) ∧ 0 ≤ y ∧ y ≤ 1000000) ∧ r = some (.int (iI 0)) ∧ RR h' z ∧ frI [(164, 181)] h h')) ∨ ¬ (x = -1 ∨ x = 1) := by
      by_cases e : x = -1 ∨ x = 1
      · refine Or.inl ?_
        by_cases y0 : y < 0
        ·
          refine wr_iload_n rfl rfl rfl ?_
          refine wr_if_lt rfl rfl rfl (by omega) (fun c11 => ?_) (fun c11 => by exfalso; omega)
          refine wr_iconst rfl rfl ?_
          refine wr_zret rfl rfl (by decide) ?_
          exact Or.inr ⟨c, rfl, C0, frI_rf _ _⟩
        ·
          refine wr_iload_n rfl rfl rfl ?_
          refine wr_if_lt rfl rfl rfl (by omega) (fun c11 => by exfalso; omega) (fun c11 => ?_)
          refine wr_iload_n rfl rfl rfl ?_
          refine wr_ldc (z := 1000000) rfl rfl rfl (by decide) ?_
          refine wr_icmp_le rfl rfl rfl (by omega) (by omega) (fun c17 => by exfalso; omega) (fun c17 => ?_)
          refine wr_iconst rfl rfl ?_
          refine wr_zret rfl rfl (by decide) ?_
          exact Or.inr ⟨c, rfl, C0, frI_rf _ _⟩
      · exact Or.inr e
    rcases J with J | J
    · by_cases e : x = -1
      ·
        refine wr_iload_n rfl rfl rfl ?_
        refine wr_iconst rfl rfl ?_
        refine wr_icmp_eq rfl rfl rfl (by omega) (by omega) (fun c2 => ?_) (fun c2 => by exfalso; omega)
        exact J
      · by_cases e' : x = 1
        ·
          refine wr_iload_n rfl rfl rfl ?_
          refine wr_iconst rfl rfl ?_
          refine wr_icmp_eq rfl rfl rfl (by omega) (by omega) (fun c2 => by exfalso; omega) (fun c2 => ?_)
          refine wr_iload_n rfl rfl rfl ?_
          refine wr_iconst rfl rfl ?_
          refine wr_icmp_ne rfl rfl rfl (by omega) (by omega) (fun c7 => by exfalso; omega) (fun c7 => ?_)
          exact J
        ·
          refine wr_iload_n rfl rfl rfl ?_
          refine wr_iconst rfl rfl ?_
          refine wr_icmp_eq rfl rfl rfl (by omega) (by omega) (fun c2 => by exfalso; omega) (fun c2 => ?_)
          refine wr_iload_n rfl rfl rfl ?_
          refine wr_iconst rfl rfl ?_
          refine wr_icmp_ne rfl rfl rfl (by omega) (by omega) (fun c7 => ?_) (fun c7 => by exfalso; omega)
          refine wr_iconst rfl rfl ?_
          refine wr_zret rfl rfl (by decide) ?_
          exact Or.inr ⟨c, rfl, C0, frI_rf _ _⟩
    ·
      refine wr_iload_n rfl rfl rfl ?_
      refine wr_iconst rfl rfl ?_
      refine wr_icmp_eq rfl rfl rfl (by omega) (by omega) (fun c2 => by exfalso; omega) (fun c2 => ?_)
      refine wr_iload_n rfl rfl rfl ?_
      refine wr_iconst rfl rfl ?_
      refine wr_icmp_ne rfl rfl rfl (by omega) (by omega) (fun c7 => ?_) (fun c7 => by exfalso; omega)
      refine wr_iconst rfl rfl ?_
      refine wr_zret rfl rfl (by decide) ?_
      exact Or.inr ⟨c, rfl, C0, frI_rf _ _⟩
theorem rr_ground {d : Nat} {x y : Int} (C : RR h z) (V : VS z) (hx : -2147483648 ≤ x ∧ x ≤ 2147483647) (hy : -2147483648 ≤ y ∧ y ≤ 2147483647) : am_c X (d + 2) 164 [.ref 164, .int (iI x), .int (iI y)] h (fun r h' => (gAdd z.gn z.go x y ∧ r = some (.int (iI 1)) ∧ RR h' (PS.mk z.T z.n z.M (z.gn + 1) (updI z.go z.gn x) (updI z.gl z.gn y) z.al z.ab z.ll z.lr z.wk z.vn z.vo z.vl z.L z.R z.eL z.fL z.eR z.fR z.ch z.tk z.ks z.lm z.cC z.cF z.vC z.vF) ∧ frI [(164, 181)] h h') ∨ (¬ gAdd z.gn z.go x y ∧ r = some (.int (iI 0)) ∧ RR h' z ∧ frI [(164, 181)] h h')) := by
  have C0 := C
  obtain ⟨o, F, A, w, r⟩ := C
  have ks := V.ksb
  obtain ⟨g12, gb1, gb2, gm⟩ := V.gr
  obtain ⟨e19, eG⟩ := r.g
  have cO := w.cO
  have cA := w.arr (p := 175) (n := 12) (by decide) (by decide)
  have hb1 := b2_cs (p := -100000 ≤ x ∧ x ≤ 100000)
  have hb2 := b2_cs (p := -100000 ≤ y ∧ y ≤ 100000)
  refine am_c.of (Nat.le_of_ble_eq_true rfl) ?_
  show am_w _ _ _ (_, [_, _, _], _, _) _
  refine wr_iload_n rfl rfl rfl ?_
  refine wr_ldc (z := -100000) rfl rfl rfl (by decide) ?_
  refine wr_ldc (z := 100000) rfl rfl rfl (by decide) ?_
  refine wr_cs3 (k' := 165) rfl rfl rfl rfl rfl (rr_in hx (by decide) (by decide)) (fun r h2 q => ?_)
  obtain ⟨rfl, rfl⟩ := q
  by_cases c : -100000 ≤ x ∧ x ≤ 100000
  ·
    refine wr_if_eq rfl rfl rfl (by omega) (fun c8 => by exfalso; omega) (fun c8 => ?_)
    refine wr_iload_n rfl rfl rfl ?_
    refine wr_ldc (z := -100000) rfl rfl rfl (by decide) ?_
    refine wr_ldc (z := 100000) rfl rfl rfl (by decide) ?_
    refine wr_cs3 (k' := 165) rfl rfl rfl rfl rfl (rr_in hy (by decide) (by decide)) (fun r h2 q => ?_)
    obtain ⟨rfl, rfl⟩ := q
    by_cases c' : -100000 ≤ y ∧ y ≤ 100000
    · by_cases full : z.gn = 12
      ·
        refine wr_if_eq rfl rfl rfl (by omega) (fun c19 => by exfalso; omega) (fun c19 => ?_)
        refine wr_aload_n rfl rfl rfl ?_
        refine wr_get (ci := 12) (f := 19) rfl rfl rfl (by assumption) rfl ?_
        rw [e19]
        refine wr_bipush rfl rfl (by decide) ?_
        refine wr_icmp_eq rfl rfl rfl (by omega) (by omega) (fun c28 => ?_) (fun c28 => by exfalso; omega)
        refine wr_iconst rfl rfl ?_
        refine wr_zret rfl rfl (by decide) ?_
        exact Or.inr ⟨fun q => by have := q.2.2.1; omega, rfl, C0, frI_rf _ _⟩
      · have J : gAdd z.gn z.go x y → am_w X (d + 1) 164 (55, [.ref 164, .int (iI x), .int (iI y)], [], h2) (fun r h' => (gAdd z.gn z.go x y ∧ r = some (.int (iI 1)) ∧ RR h' (PS.mk z.T z.n z.M (z.gn + 1) (updI z.go z.gn x) (updI z.gl z.gn y) z.al z.ab z.ll z.lr z.wk z.vn z.vo z.vl z.L z.R z.eL z.fL z.eR z.fR z.ch z.tk z.ks z.lm z.cC z.cF z.vC z.vF) ∧ frI [(164, 181)] h2 h') ∨ (¬ gAdd z.gn z.go x y ∧ r = some (.int (iI 0)) ∧ RR h' z ∧ frI [(164, 181)] h2 h')) := by
          intro ok
          refine wr_aload_n rfl rfl rfl ?_
          refine wr_get (ci := 12) (f := 17) rfl rfl rfl (by assumption) rfl ?_
          refine wr_aload_n rfl rfl rfl ?_
          refine wr_get (ci := 12) (f := 19) rfl rfl rfl (by assumption) rfl ?_
          rw [e19]
          refine wr_iload_n rfl rfl rfl ?_
          refine wr_iast rfl rfl (by assumption) (by omega) (by omega) (fun h1 e1 => ?_)
          rw [Int.toNat_natCast] at e1
          have w := e1 ▸ (w.setA (p := 175) (n := 12) (by decide) (by decide) (updI (A 175) z.gn x)).2
          clear e1
          obtain ⟨A2, w, sA, nA⟩ := fa_ex w
          have cO := w.cO
          have cA := w.arr (p := 176) (n := 12) (by decide) (by decide)
          refine wr_aload_n rfl rfl rfl ?_
          refine wr_get (ci := 12) (f := 18) rfl rfl rfl (by assumption) rfl ?_
          refine wr_aload_n rfl rfl rfl ?_
          refine wr_get (ci := 12) (f := 19) rfl rfl rfl (by assumption) rfl ?_
          rw [e19]
          refine wr_iload_n rfl rfl rfl ?_
          refine wr_iast rfl rfl (by assumption) (by omega) (by omega) (fun h1 e1 => ?_)
          rw [Int.toNat_natCast] at e1
          have w := e1 ▸ (w.setA (p := 176) (n := 12) (by decide) (by decide) (updI (A2 176) z.gn y)).2
          clear e1
          obtain ⟨A3, w, sB, nB⟩ := fa_ex w
          have cO := w.cO
          refine wr_aload_n rfl rfl rfl ?_
          refine wr_dup rfl rfl ?_
          refine wr_get (ci := 12) (f := 19) rfl rfl rfl (by assumption) rfl ?_
          rw [e19]
          refine wr_iconst rfl rfl ?_
          refine wr_iadd rfl rfl ?_
          refine wr_putI (ci := 12) (f := 19) (fs' := [_, _, _, _, _, _, _, _, _, _, _, _, _, _, _, _, _, _, _, _, _, _, _, _, _, _, _, _, _, _, _, _, _, _, _, _, _, _, _]) rfl rfl rfl (by assumption) rfl rfl rfl (fun h1 e1 => ?_)
          have w : FW h2 h1 (updI o 19 ((z.gn : Int) + 1)) F A3 := by rw [e1]; exact w.setO (updI o 19 ((z.gn : Int) + 1))
          clear e1
          obtain ⟨o2, w, s2, n2⟩ := fo_ex w
          refine wr_iconst rfl rfl ?_
          refine wr_zret rfl rfl (by decide) ?_
          obtain ⟨wb, fb⟩ := w.base
          have nC : ∀ j, j ≠ 175 → j ≠ 176 → A3 j = A j := fun j a b => by rw [nB _ b, nA _ a]
          refine Or.inl ⟨ok, rfl, ⟨o2, F, A3, wb, r.t.keep (n2 _ (by decide)) (nC _ (by decide) (by decide)), r.m.keep (n2 _ (by decide)) ⟨nC _ (by decide) (by decide), nC _ (by decide) (by decide), nC _ (by decide) (by decide), nC _ (by decide) (by decide), nC _ (by decide) (by decide)⟩, ⟨by rw [s2]; rfl, fun i hi => ?_⟩, r.x.keep ⟨n2 _ (by decide), n2 _ (by decide)⟩ (nC _ (by decide) (by decide)), (r.c.keep ⟨n2 _ (by decide), n2 _ (by decide), n2 _ (by decide)⟩ ⟨nC _ (by decide) (by decide), nC _ (by decide) (by decide), nC _ (by decide) (by decide)⟩ (fun _ _ => rfl)).cong ⟨⟨rfl, rfl, rfl, rfl, rfl, rfl⟩, rfl, rfl, rfl, rfl, rfl, rfl⟩, r.k.keep (n2 _ (by decide)) (nC _ (by decide) (by decide)) (fun _ _ _ => rfl) ks⟩, fb⟩
          have hi : i < z.gn + 1 := hi
          rw [sB, nB _ (by decide), sA, nA _ (by decide)]
          show updI (A 175) z.gn x i = updI z.go z.gn x i ∧ updI (A 176) z.gn y i = updI z.gl z.gn y i
          by_cases e : i = z.gn
          · rw [e, updI_s, updI_s, updI_s, updI_s]; exact ⟨rfl, rfl⟩
          · rw [updI_n e, updI_n e, updI_n e, updI_n e]; exact eG i (by omega)
        by_cases e0 : z.gn = 0
        ·
          refine wr_if_eq rfl rfl rfl (by omega) (fun c19 => by exfalso; omega) (fun c19 => ?_)
          refine wr_aload_n rfl rfl rfl ?_
          refine wr_get (ci := 12) (f := 19) rfl rfl rfl (by assumption) rfl ?_
          rw [e19]
          refine wr_bipush rfl rfl (by decide) ?_
          refine wr_icmp_eq rfl rfl rfl (by omega) (by omega) (fun c28 => by exfalso; omega) (fun c28 => ?_)
          refine wr_aload_n rfl rfl rfl ?_
          refine wr_get (ci := 12) (f := 19) rfl rfl rfl (by assumption) rfl ?_
          rw [e19]
          refine wr_if_le rfl rfl rfl (by omega) (fun c35 => ?_) (fun c35 => by exfalso; omega)
          exact J ⟨c, c', by omega, Or.inl e0⟩
        · have lv := (eG (z.gn - 1) (by omega)).1
          have gb := gb1 (z.gn - 1)
          have ix : (z.gn : Int) - 1 = ((z.gn - 1 : Nat) : Int) := by omega
          by_cases e1 : z.go (z.gn - 1) < x
          ·
            refine wr_if_eq rfl rfl rfl (by omega) (fun c19 => by exfalso; omega) (fun c19 => ?_)
            refine wr_aload_n rfl rfl rfl ?_
            refine wr_get (ci := 12) (f := 19) rfl rfl rfl (by assumption) rfl ?_
            rw [e19]
            refine wr_bipush rfl rfl (by decide) ?_
            refine wr_icmp_eq rfl rfl rfl (by omega) (by omega) (fun c28 => by exfalso; omega) (fun c28 => ?_)
            refine wr_aload_n rfl rfl rfl ?_
            refine wr_get (ci := 12) (f := 19) rfl rfl rfl (by assumption) rfl ?_
            rw [e19]
            refine wr_if_le rfl rfl rfl (by omega) (fun c35 => by exfalso; omega) (fun c35 => ?_)
            refine wr_iload_n rfl rfl rfl ?_
            refine wr_aload_n rfl rfl rfl ?_
            refine wr_get (ci := 12) (f := 17) rfl rfl rfl (by assumption) rfl ?_
            refine wr_aload_n rfl rfl rfl ?_
            refine wr_get (ci := 12) (f := 19) rfl rfl rfl (by assumption) rfl ?_
            rw [e19]
            refine wr_iconst rfl rfl ?_
            refine wr_isub rfl rfl ?_
            rw [ix]
            refine wr_iald rfl rfl (by assumption) (by omega) (by omega) ?_
            rw [Int.toNat_natCast, lv]
            refine wr_icmp_gt rfl rfl rfl (by omega) (by omega) (fun c50 => ?_) (fun c50 => by exfalso; omega)
            exact J ⟨c, c', by omega, Or.inr e1⟩
          ·
            refine wr_if_eq rfl rfl rfl (by omega) (fun c19 => by exfalso; omega) (fun c19 => ?_)
            refine wr_aload_n rfl rfl rfl ?_
            refine wr_get (ci := 12) (f := 19) rfl rfl rfl (by assumption) rfl ?_
            rw [e19]
            refine wr_bipush rfl rfl (by decide) ?_
            refine wr_icmp_eq rfl rfl rfl (by omega) (by omega) (fun c28 => by exfalso; omega) (fun c28 => ?_)
            refine wr_aload_n rfl rfl rfl ?_
            refine wr_get (ci := 12) (f := 19) rfl rfl rfl (by assumption) rfl ?_
            rw [e19]
            refine wr_if_le rfl rfl rfl (by omega) (fun c35 => by exfalso; omega) (fun c35 => ?_)
            refine wr_iload_n rfl rfl rfl ?_
            refine wr_aload_n rfl rfl rfl ?_
            refine wr_get (ci := 12) (f := 17) rfl rfl rfl (by assumption) rfl ?_
            refine wr_aload_n rfl rfl rfl ?_
            refine wr_get (ci := 12) (f := 19) rfl rfl rfl (by assumption) rfl ?_
            rw [e19]
            refine wr_iconst rfl rfl ?_
            refine wr_isub rfl rfl ?_
            rw [ix]
            refine wr_iald rfl rfl (by assumption) (by omega) (by omega) ?_
            rw [Int.toNat_natCast, lv]
            refine wr_icmp_gt rfl rfl rfl (by omega) (by omega) (fun c50 => by exfalso; omega) (fun c50 => ?_)
            refine wr_iconst rfl rfl ?_
            refine wr_zret rfl rfl (by decide) ?_
            exact Or.inr ⟨fun q => by have := q.2.2.2; omega, rfl, C0, frI_rf _ _⟩
    ·
      refine wr_if_eq rfl rfl rfl (by omega) (fun c19 => ?_) (fun c19 => by exfalso; omega)
      refine wr_iconst rfl rfl ?_
      refine wr_zret rfl rfl (by decide) ?_
      exact Or.inr ⟨fun q => c' q.2.1, rfl, C0, frI_rf _ _⟩
  ·
    refine wr_if_eq rfl rfl rfl (by omega) (fun c8 => ?_) (fun c8 => by exfalso; omega)
    refine wr_iconst rfl rfl ?_
    refine wr_zret rfl rfl (by decide) ?_
    exact Or.inr ⟨fun q => c q.1, rfl, C0, frI_rf _ _⟩
end RRA
